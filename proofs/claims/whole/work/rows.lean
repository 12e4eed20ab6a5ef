section
-- ===== PART A: goes FIRST, ahead of the names: the tables' words, and 'selects' of the private methods out of them =====
/-- a private method of a class that the tables say can be made, by its rows of tables_1 -/
def lw_okq (q : MethodName × Nat) : Prop := (q.1.cls ≠ "java/lang/invoke/MethodHandle" ∧ q.1.cls ≠ "java/lang/invoke/VarHandle") ∧ Cond.instantiable q.1.cls q.2 ∈ tables_1 ∧ Cond.privateMethod q.1 ∈ tables_1 ∧ Cond.instanceMethod q.1 ∈ tables_1
theorem lw_p0 : lw_okq (⟨"TrickHouse$Tape", "readWord", "()V"⟩, 7) := ⟨⟨by decide +kernel, by decide +kernel⟩, List.mem_of_getElem? (i := 30) (by decide +kernel), List.mem_of_getElem? (i := 377) (by decide +kernel), List.mem_of_getElem? (i := 378) (by decide +kernel)⟩
theorem lw_p1 : lw_okq (⟨"TrickHouse$Tape", "skipBlanks", "()V"⟩, 7) := ⟨⟨by decide +kernel, by decide +kernel⟩, List.mem_of_getElem? (i := 30) (by decide +kernel), List.mem_of_getElem? (i := 381) (by decide +kernel), List.mem_of_getElem? (i := 382) (by decide +kernel)⟩
theorem lw_p2 : lw_okq (⟨"TrickHouse$Tape", "skipLetters", "()V"⟩, 7) := ⟨⟨by decide +kernel, by decide +kernel⟩, List.mem_of_getElem? (i := 30) (by decide +kernel), List.mem_of_getElem? (i := 388) (by decide +kernel), List.mem_of_getElem? (i := 389) (by decide +kernel)⟩
theorem lw_p3 : lw_okq (⟨"TrickHouse$Tape", "isBetween", "(CC)Z"⟩, 7) := ⟨⟨by decide +kernel, by decide +kernel⟩, List.mem_of_getElem? (i := 30) (by decide +kernel), List.mem_of_getElem? (i := 392) (by decide +kernel), List.mem_of_getElem? (i := 393) (by decide +kernel)⟩
theorem lw_p4 : lw_okq (⟨"TrickHouse$Tape", "isText", "(Ljava/lang/String;I)Z"⟩, 7) := ⟨⟨by decide +kernel, by decide +kernel⟩, List.mem_of_getElem? (i := 30) (by decide +kernel), List.mem_of_getElem? (i := 409) (by decide +kernel), List.mem_of_getElem? (i := 410) (by decide +kernel)⟩
theorem lw_p5 : lw_okq (⟨"TrickHouse$Tape", "readNumber", "()V"⟩, 7) := ⟨⟨by decide +kernel, by decide +kernel⟩, List.mem_of_getElem? (i := 30) (by decide +kernel), List.mem_of_getElem? (i := 460) (by decide +kernel), List.mem_of_getElem? (i := 461) (by decide +kernel)⟩
theorem lw_p6 : lw_okq (⟨"TrickHouse$Tape", "readSuit", "(I)V"⟩, 7) := ⟨⟨by decide +kernel, by decide +kernel⟩, List.mem_of_getElem? (i := 30) (by decide +kernel), List.mem_of_getElem? (i := 464) (by decide +kernel), List.mem_of_getElem? (i := 465) (by decide +kernel)⟩
theorem lw_p7 : lw_okq (⟨"TrickHouse$Tape", "readEnd", "()V"⟩, 7) := ⟨⟨by decide +kernel, by decide +kernel⟩, List.mem_of_getElem? (i := 30) (by decide +kernel), List.mem_of_getElem? (i := 471) (by decide +kernel), List.mem_of_getElem? (i := 472) (by decide +kernel)⟩
theorem lw_p8 : lw_okq (⟨"TrickHouse", "refusalOf", "(II)I"⟩, 8) := ⟨⟨by decide +kernel, by decide +kernel⟩, List.mem_of_getElem? (i := 22) (by decide +kernel), List.mem_of_getElem? (i := 475) (by decide +kernel), List.mem_of_getElem? (i := 476) (by decide +kernel)⟩
theorem lw_p9 : lw_okq (⟨"TrickHouse", "isFair", "(III)Z"⟩, 8) := ⟨⟨by decide +kernel, by decide +kernel⟩, List.mem_of_getElem? (i := 22) (by decide +kernel), List.mem_of_getElem? (i := 506) (by decide +kernel), List.mem_of_getElem? (i := 507) (by decide +kernel)⟩
theorem lw_p10 : lw_okq (⟨"TrickHouse$Play", "strongerTrumps", "(I)I"⟩, 12) := ⟨⟨by decide +kernel, by decide +kernel⟩, List.mem_of_getElem? (i := 142) (by decide +kernel), List.mem_of_getElem? (i := 522) (by decide +kernel), List.mem_of_getElem? (i := 523) (by decide +kernel)⟩
theorem lw_p11 : lw_okq (⟨"TrickHouse", "openNow", "()I"⟩, 8) := ⟨⟨by decide +kernel, by decide +kernel⟩, List.mem_of_getElem? (i := 22) (by decide +kernel), List.mem_of_getElem? (i := 536) (by decide +kernel), List.mem_of_getElem? (i := 537) (by decide +kernel)⟩
theorem lw_p12 : lw_okq (⟨"TrickHouse$Table", "beginDeal", "(I)V"⟩, 7) := ⟨⟨by decide +kernel, by decide +kernel⟩, List.mem_of_getElem? (i := 91) (by decide +kernel), List.mem_of_getElem? (i := 601) (by decide +kernel), List.mem_of_getElem? (i := 602) (by decide +kernel)⟩
theorem lw_p13 : lw_okq (⟨"TrickHouse$Table", "pass", "()V"⟩, 7) := ⟨⟨by decide +kernel, by decide +kernel⟩, List.mem_of_getElem? (i := 91) (by decide +kernel), List.mem_of_getElem? (i := 620) (by decide +kernel), List.mem_of_getElem? (i := 621) (by decide +kernel)⟩
theorem lw_p14 : lw_okq (⟨"TrickHouse$Table", "endDeal", "()V"⟩, 7) := ⟨⟨by decide +kernel, by decide +kernel⟩, List.mem_of_getElem? (i := 91) (by decide +kernel), List.mem_of_getElem? (i := 637) (by decide +kernel), List.mem_of_getElem? (i := 638) (by decide +kernel)⟩
theorem lw_p15 : lw_okq (⟨"TrickHouse$Table", "playCard", "(I)V"⟩, 7) := ⟨⟨by decide +kernel, by decide +kernel⟩, List.mem_of_getElem? (i := 91) (by decide +kernel), List.mem_of_getElem? (i := 645) (by decide +kernel), List.mem_of_getElem? (i := 646) (by decide +kernel)⟩
def lw_privs_1 : List (MethodName × Nat) := [(⟨"TrickHouse$Tape", "readWord", "()V"⟩, 7), (⟨"TrickHouse$Tape", "skipBlanks", "()V"⟩, 7), (⟨"TrickHouse$Tape", "skipLetters", "()V"⟩, 7), (⟨"TrickHouse$Tape", "isBetween", "(CC)Z"⟩, 7), (⟨"TrickHouse$Tape", "isText", "(Ljava/lang/String;I)Z"⟩, 7), (⟨"TrickHouse$Tape", "readNumber", "()V"⟩, 7), (⟨"TrickHouse$Tape", "readSuit", "(I)V"⟩, 7), (⟨"TrickHouse$Tape", "readEnd", "()V"⟩, 7), (⟨"TrickHouse", "refusalOf", "(II)I"⟩, 8), (⟨"TrickHouse", "isFair", "(III)Z"⟩, 8), (⟨"TrickHouse$Play", "strongerTrumps", "(I)I"⟩, 12), (⟨"TrickHouse", "openNow", "()I"⟩, 8), (⟨"TrickHouse$Table", "beginDeal", "(I)V"⟩, 7), (⟨"TrickHouse$Table", "pass", "()V"⟩, 7), (⟨"TrickHouse$Table", "endDeal", "()V"⟩, 7), (⟨"TrickHouse$Table", "playCard", "(I)V"⟩, 7)]
theorem lw_r1 : ∀ q ∈ lw_privs_1, lw_okq q := List.forall_mem_cons.mpr ⟨lw_p0, List.forall_mem_cons.mpr ⟨lw_p1, List.forall_mem_cons.mpr ⟨lw_p2, List.forall_mem_cons.mpr ⟨lw_p3, List.forall_mem_cons.mpr ⟨lw_p4, List.forall_mem_cons.mpr ⟨lw_p5, List.forall_mem_cons.mpr ⟨lw_p6, List.forall_mem_cons.mpr ⟨lw_p7, List.forall_mem_cons.mpr ⟨lw_p8, List.forall_mem_cons.mpr ⟨lw_p9, List.forall_mem_cons.mpr ⟨lw_p10, List.forall_mem_cons.mpr ⟨lw_p11, List.forall_mem_cons.mpr ⟨lw_p12, List.forall_mem_cons.mpr ⟨lw_p13, List.forall_mem_cons.mpr ⟨lw_p14, List.forall_mem_cons.mpr ⟨lw_p15, fun _ h => absurd h List.not_mem_nil⟩⟩⟩⟩⟩⟩⟩⟩⟩⟩⟩⟩⟩⟩⟩⟩
theorem lw_p16 : lw_okq (⟨"TrickHouse$Table", "claim", "(I)V"⟩, 7) := ⟨⟨by decide +kernel, by decide +kernel⟩, List.mem_of_getElem? (i := 91) (by decide +kernel), List.mem_of_getElem? (i := 660) (by decide +kernel), List.mem_of_getElem? (i := 661) (by decide +kernel)⟩
theorem lw_p17 : lw_okq (⟨"TrickHouse", "goThrough", "(LTrickHouse$Table;I)V"⟩, 8) := ⟨⟨by decide +kernel, by decide +kernel⟩, List.mem_of_getElem? (i := 22) (by decide +kernel), List.mem_of_getElem? (i := 669) (by decide +kernel), List.mem_of_getElem? (i := 670) (by decide +kernel)⟩
theorem lw_p18 : lw_okq (⟨"TrickHouse", "writeLine", "(III)V"⟩, 8) := ⟨⟨by decide +kernel, by decide +kernel⟩, List.mem_of_getElem? (i := 22) (by decide +kernel), List.mem_of_getElem? (i := 682) (by decide +kernel), List.mem_of_getElem? (i := 683) (by decide +kernel)⟩
theorem lw_p19 : lw_okq (⟨"TrickHouse", "gainsOf", "(I)I"⟩, 8) := ⟨⟨by decide +kernel, by decide +kernel⟩, List.mem_of_getElem? (i := 22) (by decide +kernel), List.mem_of_getElem? (i := 920) (by decide +kernel), List.mem_of_getElem? (i := 921) (by decide +kernel)⟩
theorem lw_p20 : lw_okq (⟨"TrickHouse", "drawnMade", "(I)I"⟩, 8) := ⟨⟨by decide +kernel, by decide +kernel⟩, List.mem_of_getElem? (i := 22) (by decide +kernel), List.mem_of_getElem? (i := 932) (by decide +kernel), List.mem_of_getElem? (i := 933) (by decide +kernel)⟩
theorem lw_p21 : lw_okq (⟨"TrickHouse", "sheetAt", "(I)LTrickHouse$Sheet;"⟩, 8) := ⟨⟨by decide +kernel, by decide +kernel⟩, List.mem_of_getElem? (i := 22) (by decide +kernel), List.mem_of_getElem? (i := 955) (by decide +kernel), List.mem_of_getElem? (i := 956) (by decide +kernel)⟩
theorem lw_p22 : lw_okq (⟨"TrickHouse", "firstOtherwise", "(LTrickHouse$Sheet;)I"⟩, 8) := ⟨⟨by decide +kernel, by decide +kernel⟩, List.mem_of_getElem? (i := 22) (by decide +kernel), List.mem_of_getElem? (i := 963) (by decide +kernel), List.mem_of_getElem? (i := 964) (by decide +kernel)⟩
theorem lw_p23 : lw_okq (⟨"TrickHouse", "trumpsThatFit", "(LTrickHouse$Sheet;)I"⟩, 8) := ⟨⟨by decide +kernel, by decide +kernel⟩, List.mem_of_getElem? (i := 22) (by decide +kernel), List.mem_of_getElem? (i := 967) (by decide +kernel), List.mem_of_getElem? (i := 968) (by decide +kernel)⟩
theorem lw_p24 : lw_okq (⟨"TrickHouse", "wouldBeSo", "(LTrickHouse$Sheet;II)Z"⟩, 8) := ⟨⟨by decide +kernel, by decide +kernel⟩, List.mem_of_getElem? (i := 22) (by decide +kernel), List.mem_of_getElem? (i := 971) (by decide +kernel), List.mem_of_getElem? (i := 972) (by decide +kernel)⟩
theorem lw_p25 : lw_okq (⟨"TrickHouse", "rankingsThatFit", "(LTrickHouse$Sheet;)I"⟩, 8) := ⟨⟨by decide +kernel, by decide +kernel⟩, List.mem_of_getElem? (i := 22) (by decide +kernel), List.mem_of_getElem? (i := 976) (by decide +kernel), List.mem_of_getElem? (i := 977) (by decide +kernel)⟩
theorem lw_p26 : lw_okq (⟨"TrickHouseModel", "begins", "()V"⟩, 47) := ⟨⟨by decide +kernel, by decide +kernel⟩, List.mem_of_getElem? (i := 1019) (by decide +kernel), List.mem_of_getElem? (i := 1027) (by decide +kernel), List.mem_of_getElem? (i := 1028) (by decide +kernel)⟩
theorem lw_p27 : lw_okq (⟨"TrickHouseModel", "clears", "()V"⟩, 47) := ⟨⟨by decide +kernel, by decide +kernel⟩, List.mem_of_getElem? (i := 1019) (by decide +kernel), List.mem_of_getElem? (i := 1031) (by decide +kernel), List.mem_of_getElem? (i := 1032) (by decide +kernel)⟩
theorem lw_p28 : lw_okq (⟨"TrickHouseModel", "isLate", "()Z"⟩, 47) := ⟨⟨by decide +kernel, by decide +kernel⟩, List.mem_of_getElem? (i := 1019) (by decide +kernel), List.mem_of_getElem? (i := 1181) (by decide +kernel), List.mem_of_getElem? (i := 1182) (by decide +kernel)⟩
theorem lw_p29 : lw_okq (⟨"TrickHouseModel", "solved", "()I"⟩, 47) := ⟨⟨by decide +kernel, by decide +kernel⟩, List.mem_of_getElem? (i := 1019) (by decide +kernel), List.mem_of_getElem? (i := 1185) (by decide +kernel), List.mem_of_getElem? (i := 1186) (by decide +kernel)⟩
theorem lw_p30 : lw_okq (⟨"TrickHouseModel", "mayPlay", "()I"⟩, 47) := ⟨⟨by decide +kernel, by decide +kernel⟩, List.mem_of_getElem? (i := 1019) (by decide +kernel), List.mem_of_getElem? (i := 1189) (by decide +kernel), List.mem_of_getElem? (i := 1190) (by decide +kernel)⟩
theorem lw_p31 : lw_okq (⟨"TrickHouseModel", "trumpNow", "()I"⟩, 47) := ⟨⟨by decide +kernel, by decide +kernel⟩, List.mem_of_getElem? (i := 1019) (by decide +kernel), List.mem_of_getElem? (i := 1196) (by decide +kernel), List.mem_of_getElem? (i := 1197) (by decide +kernel)⟩
def lw_privs_2 : List (MethodName × Nat) := [(⟨"TrickHouse$Table", "claim", "(I)V"⟩, 7), (⟨"TrickHouse", "goThrough", "(LTrickHouse$Table;I)V"⟩, 8), (⟨"TrickHouse", "writeLine", "(III)V"⟩, 8), (⟨"TrickHouse", "gainsOf", "(I)I"⟩, 8), (⟨"TrickHouse", "drawnMade", "(I)I"⟩, 8), (⟨"TrickHouse", "sheetAt", "(I)LTrickHouse$Sheet;"⟩, 8), (⟨"TrickHouse", "firstOtherwise", "(LTrickHouse$Sheet;)I"⟩, 8), (⟨"TrickHouse", "trumpsThatFit", "(LTrickHouse$Sheet;)I"⟩, 8), (⟨"TrickHouse", "wouldBeSo", "(LTrickHouse$Sheet;II)Z"⟩, 8), (⟨"TrickHouse", "rankingsThatFit", "(LTrickHouse$Sheet;)I"⟩, 8), (⟨"TrickHouseModel", "begins", "()V"⟩, 47), (⟨"TrickHouseModel", "clears", "()V"⟩, 47), (⟨"TrickHouseModel", "isLate", "()Z"⟩, 47), (⟨"TrickHouseModel", "solved", "()I"⟩, 47), (⟨"TrickHouseModel", "mayPlay", "()I"⟩, 47), (⟨"TrickHouseModel", "trumpNow", "()I"⟩, 47)]
theorem lw_r2 : ∀ q ∈ lw_privs_2, lw_okq q := List.forall_mem_cons.mpr ⟨lw_p16, List.forall_mem_cons.mpr ⟨lw_p17, List.forall_mem_cons.mpr ⟨lw_p18, List.forall_mem_cons.mpr ⟨lw_p19, List.forall_mem_cons.mpr ⟨lw_p20, List.forall_mem_cons.mpr ⟨lw_p21, List.forall_mem_cons.mpr ⟨lw_p22, List.forall_mem_cons.mpr ⟨lw_p23, List.forall_mem_cons.mpr ⟨lw_p24, List.forall_mem_cons.mpr ⟨lw_p25, List.forall_mem_cons.mpr ⟨lw_p26, List.forall_mem_cons.mpr ⟨lw_p27, List.forall_mem_cons.mpr ⟨lw_p28, List.forall_mem_cons.mpr ⟨lw_p29, List.forall_mem_cons.mpr ⟨lw_p30, List.forall_mem_cons.mpr ⟨lw_p31, fun _ h => absurd h List.not_mem_nil⟩⟩⟩⟩⟩⟩⟩⟩⟩⟩⟩⟩⟩⟩⟩⟩
theorem lw_p32 : lw_okq (⟨"TrickHouseModel", "tried", "(I)I"⟩, 47) := ⟨⟨by decide +kernel, by decide +kernel⟩, List.mem_of_getElem? (i := 1019) (by decide +kernel), List.mem_of_getElem? (i := 1213) (by decide +kernel), List.mem_of_getElem? (i := 1214) (by decide +kernel)⟩
theorem lw_p33 : lw_okq (⟨"TrickHouseModel", "plays", "(I)V"⟩, 47) := ⟨⟨by decide +kernel, by decide +kernel⟩, List.mem_of_getElem? (i := 1019) (by decide +kernel), List.mem_of_getElem? (i := 1217) (by decide +kernel), List.mem_of_getElem? (i := 1218) (by decide +kernel)⟩
theorem lw_p34 : lw_okq (⟨"TrickHouseModel", "wonBy", "(III)I"⟩, 47) := ⟨⟨by decide +kernel, by decide +kernel⟩, List.mem_of_getElem? (i := 1019) (by decide +kernel), List.mem_of_getElem? (i := 1221) (by decide +kernel), List.mem_of_getElem? (i := 1222) (by decide +kernel)⟩
theorem lw_p35 : lw_okq (⟨"TrickHouseModel", "leads", "(I)V"⟩, 47) := ⟨⟨by decide +kernel, by decide +kernel⟩, List.mem_of_getElem? (i := 1019) (by decide +kernel), List.mem_of_getElem? (i := 1225) (by decide +kernel), List.mem_of_getElem? (i := 1226) (by decide +kernel)⟩
theorem lw_p36 : lw_okq (⟨"TrickHouseModel", "forTurn", "(I)I"⟩, 47) := ⟨⟨by decide +kernel, by decide +kernel⟩, List.mem_of_getElem? (i := 1019) (by decide +kernel), List.mem_of_getElem? (i := 1229) (by decide +kernel), List.mem_of_getElem? (i := 1230) (by decide +kernel)⟩
theorem lw_p37 : lw_okq (⟨"TrickHouseModel", "read", "()I"⟩, 47) := ⟨⟨by decide +kernel, by decide +kernel⟩, List.mem_of_getElem? (i := 1019) (by decide +kernel), List.mem_of_getElem? (i := 1255) (by decide +kernel), List.mem_of_getElem? (i := 1256) (by decide +kernel)⟩
theorem lw_p38 : lw_okq (⟨"TrickHouseModel", "next", "()V"⟩, 47) := ⟨⟨by decide +kernel, by decide +kernel⟩, List.mem_of_getElem? (i := 1019) (by decide +kernel), List.mem_of_getElem? (i := 1259) (by decide +kernel), List.mem_of_getElem? (i := 1260) (by decide +kernel)⟩
theorem lw_p39 : lw_okq (⟨"TrickHouseModel", "byteAt", "(I)I"⟩, 47) := ⟨⟨by decide +kernel, by decide +kernel⟩, List.mem_of_getElem? (i := 1019) (by decide +kernel), List.mem_of_getElem? (i := 1263) (by decide +kernel), List.mem_of_getElem? (i := 1264) (by decide +kernel)⟩
theorem lw_p40 : lw_okq (⟨"TrickHouseModel", "suitRead", "()I"⟩, 47) := ⟨⟨by decide +kernel, by decide +kernel⟩, List.mem_of_getElem? (i := 1019) (by decide +kernel), List.mem_of_getElem? (i := 1267) (by decide +kernel), List.mem_of_getElem? (i := 1268) (by decide +kernel)⟩
theorem lw_p41 : lw_okq (⟨"TrickHouseModel", "isWord", "(Ljava/lang/String;)Z"⟩, 47) := ⟨⟨by decide +kernel, by decide +kernel⟩, List.mem_of_getElem? (i := 1019) (by decide +kernel), List.mem_of_getElem? (i := 1272) (by decide +kernel), List.mem_of_getElem? (i := 1273) (by decide +kernel)⟩
theorem lw_p42 : lw_okq (⟨"TrickHouseModel", "wordRead", "()I"⟩, 47) := ⟨⟨by decide +kernel, by decide +kernel⟩, List.mem_of_getElem? (i := 1019) (by decide +kernel), List.mem_of_getElem? (i := 1282) (by decide +kernel), List.mem_of_getElem? (i := 1283) (by decide +kernel)⟩
theorem lw_p43 : lw_okq (⟨"TrickHouseModel", "takes", "(II)I"⟩, 47) := ⟨⟨by decide +kernel, by decide +kernel⟩, List.mem_of_getElem? (i := 1019) (by decide +kernel), List.mem_of_getElem? (i := 1298) (by decide +kernel), List.mem_of_getElem? (i := 1299) (by decide +kernel)⟩
theorem lw_p44 : lw_okq (⟨"TrickHouseModel", "isTime", "(I)Z"⟩, 47) := ⟨⟨by decide +kernel, by decide +kernel⟩, List.mem_of_getElem? (i := 1019) (by decide +kernel), List.mem_of_getElem? (i := 1303) (by decide +kernel), List.mem_of_getElem? (i := 1304) (by decide +kernel)⟩
theorem lw_p45 : lw_okq (⟨"TrickHouseModel", "isNumber", "(I)Z"⟩, 47) := ⟨⟨by decide +kernel, by decide +kernel⟩, List.mem_of_getElem? (i := 1019) (by decide +kernel), List.mem_of_getElem? (i := 1307) (by decide +kernel), List.mem_of_getElem? (i := 1308) (by decide +kernel)⟩
theorem lw_p46 : lw_okq (⟨"TrickHouseModel", "isFair", "(I)Z"⟩, 47) := ⟨⟨by decide +kernel, by decide +kernel⟩, List.mem_of_getElem? (i := 1019) (by decide +kernel), List.mem_of_getElem? (i := 1311) (by decide +kernel), List.mem_of_getElem? (i := 1312) (by decide +kernel)⟩
theorem lw_p47 : lw_okq (⟨"TrickHouseModel", "doesAct", "(III)V"⟩, 47) := ⟨⟨by decide +kernel, by decide +kernel⟩, List.mem_of_getElem? (i := 1019) (by decide +kernel), List.mem_of_getElem? (i := 1316) (by decide +kernel), List.mem_of_getElem? (i := 1317) (by decide +kernel)⟩
def lw_privs_3 : List (MethodName × Nat) := [(⟨"TrickHouseModel", "tried", "(I)I"⟩, 47), (⟨"TrickHouseModel", "plays", "(I)V"⟩, 47), (⟨"TrickHouseModel", "wonBy", "(III)I"⟩, 47), (⟨"TrickHouseModel", "leads", "(I)V"⟩, 47), (⟨"TrickHouseModel", "forTurn", "(I)I"⟩, 47), (⟨"TrickHouseModel", "read", "()I"⟩, 47), (⟨"TrickHouseModel", "next", "()V"⟩, 47), (⟨"TrickHouseModel", "byteAt", "(I)I"⟩, 47), (⟨"TrickHouseModel", "suitRead", "()I"⟩, 47), (⟨"TrickHouseModel", "isWord", "(Ljava/lang/String;)Z"⟩, 47), (⟨"TrickHouseModel", "wordRead", "()I"⟩, 47), (⟨"TrickHouseModel", "takes", "(II)I"⟩, 47), (⟨"TrickHouseModel", "isTime", "(I)Z"⟩, 47), (⟨"TrickHouseModel", "isNumber", "(I)Z"⟩, 47), (⟨"TrickHouseModel", "isFair", "(I)Z"⟩, 47), (⟨"TrickHouseModel", "doesAct", "(III)V"⟩, 47)]
theorem lw_r3 : ∀ q ∈ lw_privs_3, lw_okq q := List.forall_mem_cons.mpr ⟨lw_p32, List.forall_mem_cons.mpr ⟨lw_p33, List.forall_mem_cons.mpr ⟨lw_p34, List.forall_mem_cons.mpr ⟨lw_p35, List.forall_mem_cons.mpr ⟨lw_p36, List.forall_mem_cons.mpr ⟨lw_p37, List.forall_mem_cons.mpr ⟨lw_p38, List.forall_mem_cons.mpr ⟨lw_p39, List.forall_mem_cons.mpr ⟨lw_p40, List.forall_mem_cons.mpr ⟨lw_p41, List.forall_mem_cons.mpr ⟨lw_p42, List.forall_mem_cons.mpr ⟨lw_p43, List.forall_mem_cons.mpr ⟨lw_p44, List.forall_mem_cons.mpr ⟨lw_p45, List.forall_mem_cons.mpr ⟨lw_p46, List.forall_mem_cons.mpr ⟨lw_p47, fun _ h => absurd h List.not_mem_nil⟩⟩⟩⟩⟩⟩⟩⟩⟩⟩⟩⟩⟩⟩⟩⟩
theorem lw_p48 : lw_okq (⟨"TrickHouseModel", "deals", "(I)V"⟩, 47) := ⟨⟨by decide +kernel, by decide +kernel⟩, List.mem_of_getElem? (i := 1019) (by decide +kernel), List.mem_of_getElem? (i := 1320) (by decide +kernel), List.mem_of_getElem? (i := 1321) (by decide +kernel)⟩
theorem lw_p49 : lw_okq (⟨"TrickHouseModel", "bids", "(II)V"⟩, 47) := ⟨⟨by decide +kernel, by decide +kernel⟩, List.mem_of_getElem? (i := 1019) (by decide +kernel), List.mem_of_getElem? (i := 1325) (by decide +kernel), List.mem_of_getElem? (i := 1326) (by decide +kernel)⟩
theorem lw_p50 : lw_okq (⟨"TrickHouseModel", "passes", "()V"⟩, 47) := ⟨⟨by decide +kernel, by decide +kernel⟩, List.mem_of_getElem? (i := 1019) (by decide +kernel), List.mem_of_getElem? (i := 1329) (by decide +kernel), List.mem_of_getElem? (i := 1330) (by decide +kernel)⟩
theorem lw_p51 : lw_okq (⟨"TrickHouseModel", "endsDeal", "(Z)V"⟩, 47) := ⟨⟨by decide +kernel, by decide +kernel⟩, List.mem_of_getElem? (i := 1019) (by decide +kernel), List.mem_of_getElem? (i := 1333) (by decide +kernel), List.mem_of_getElem? (i := 1334) (by decide +kernel)⟩
theorem lw_p52 : lw_okq (⟨"TrickHouseModel", "goesThrough", "(I)V"⟩, 47) := ⟨⟨by decide +kernel, by decide +kernel⟩, List.mem_of_getElem? (i := 1019) (by decide +kernel), List.mem_of_getElem? (i := 1347) (by decide +kernel), List.mem_of_getElem? (i := 1348) (by decide +kernel)⟩
theorem lw_p53 : lw_okq (⟨"TrickHouseModel", "textOf", "(I)Ljava/lang/String;"⟩, 47) := ⟨⟨by decide +kernel, by decide +kernel⟩, List.mem_of_getElem? (i := 1019) (by decide +kernel), List.mem_of_getElem? (i := 1359) (by decide +kernel), List.mem_of_getElem? (i := 1360) (by decide +kernel)⟩
theorem lw_p54 : lw_okq (⟨"TrickHouseModel", "answer", "(I)I"⟩, 47) := ⟨⟨by decide +kernel, by decide +kernel⟩, List.mem_of_getElem? (i := 1019) (by decide +kernel), List.mem_of_getElem? (i := 1424) (by decide +kernel), List.mem_of_getElem? (i := 1425) (by decide +kernel)⟩
theorem lw_p55 : lw_okq (⟨"TrickHouseModel", "byLot", "(I)I"⟩, 47) := ⟨⟨by decide +kernel, by decide +kernel⟩, List.mem_of_getElem? (i := 1019) (by decide +kernel), List.mem_of_getElem? (i := 1463) (by decide +kernel), List.mem_of_getElem? (i := 1464) (by decide +kernel)⟩
theorem lw_p56 : lw_okq (⟨"TrickHouseModel", "isSo", "(III)Z"⟩, 47) := ⟨⟨by decide +kernel, by decide +kernel⟩, List.mem_of_getElem? (i := 1019) (by decide +kernel), List.mem_of_getElem? (i := 1486) (by decide +kernel), List.mem_of_getElem? (i := 1487) (by decide +kernel)⟩
theorem lw_p57 : lw_okq (⟨"TrickHouseModel", "logRow", "(I)[I"⟩, 47) := ⟨⟨by decide +kernel, by decide +kernel⟩, List.mem_of_getElem? (i := 1019) (by decide +kernel), List.mem_of_getElem? (i := 1498) (by decide +kernel), List.mem_of_getElem? (i := 1499) (by decide +kernel)⟩
def lw_privs_4 : List (MethodName × Nat) := [(⟨"TrickHouseModel", "deals", "(I)V"⟩, 47), (⟨"TrickHouseModel", "bids", "(II)V"⟩, 47), (⟨"TrickHouseModel", "passes", "()V"⟩, 47), (⟨"TrickHouseModel", "endsDeal", "(Z)V"⟩, 47), (⟨"TrickHouseModel", "goesThrough", "(I)V"⟩, 47), (⟨"TrickHouseModel", "textOf", "(I)Ljava/lang/String;"⟩, 47), (⟨"TrickHouseModel", "answer", "(I)I"⟩, 47), (⟨"TrickHouseModel", "byLot", "(I)I"⟩, 47), (⟨"TrickHouseModel", "isSo", "(III)Z"⟩, 47), (⟨"TrickHouseModel", "logRow", "(I)[I"⟩, 47)]
theorem lw_r4 : ∀ q ∈ lw_privs_4, lw_okq q := List.forall_mem_cons.mpr ⟨lw_p48, List.forall_mem_cons.mpr ⟨lw_p49, List.forall_mem_cons.mpr ⟨lw_p50, List.forall_mem_cons.mpr ⟨lw_p51, List.forall_mem_cons.mpr ⟨lw_p52, List.forall_mem_cons.mpr ⟨lw_p53, List.forall_mem_cons.mpr ⟨lw_p54, List.forall_mem_cons.mpr ⟨lw_p55, List.forall_mem_cons.mpr ⟨lw_p56, List.forall_mem_cons.mpr ⟨lw_p57, fun _ h => absurd h List.not_mem_nil⟩⟩⟩⟩⟩⟩⟩⟩⟩⟩
def lw_privs : List (MethodName × Nat) := lw_privs_1 ++ (lw_privs_2 ++ (lw_privs_3 ++ (lw_privs_4)))
def lw_tbl : List Cond := k2_sels lw_privs ++ tables_1
theorem lw_privs_ok : ∀ q ∈ lw_privs, lw_okq q := by
  show ∀ q ∈ lw_privs_1 ++ (lw_privs_2 ++ (lw_privs_3 ++ (lw_privs_4))), lw_okq q
  exact List.forall_mem_append.mpr ⟨lw_r1, List.forall_mem_append.mpr ⟨lw_r2, List.forall_mem_append.mpr ⟨lw_r3, lw_r4⟩⟩⟩
-- ===== end of PART A; then your names; then what follows =====
/-! ===== BEGIN words of one list among another's, by their places ===== -/
theorem goodIn_r {big : List Cond} (ws : List Cond) (ps : List Nat) (hp : ws = ps.filterMap (fun i => big[i]?)) (h : ws.all goodWord = true) : GoodIn big ws := by
  intro w hw
  have h1 := List.all_eq_true.mp h w hw
  rw [hp] at hw
  obtain ⟨i, -, hi⟩ := List.mem_filterMap.mp hw
  have hm : w ∈ big := by first | exact List.mem_of_getElem? hi | exact List.getElem?_mem hi
  exact ⟨hm, good_of_word h1⟩
theorem goodIn_app {big a b : List Cond} (ha : GoodIn big a) (hb : GoodIn big b) : GoodIn big (a ++ b) := fun w h => (List.mem_append.mp h).elim (ha w) (hb w)
theorem goodIn_ca {big a b : List Cond} {c : Cond} (ha : GoodIn big (c :: a)) (hb : GoodIn big b) : GoodIn big (c :: (a ++ b)) := fun w h => (List.mem_cons.mp h).elim (fun e => ha w (List.mem_cons.mpr (Or.inl e))) (fun h => (List.mem_append.mp h).elim (fun h => ha w (List.mem_cons.mpr (Or.inr h))) (hb w))
theorem goodIn_sub {big ws : List Cond} (hm : ∀ w ∈ ws, w ∈ big) (h : ws.all goodWord = true) : GoodIn big ws := fun w hw => ⟨hm w hw, good_of_word (List.all_eq_true.mp h w hw)⟩
/-! ===== END ===== -/
/-! ===== BEGIN printed: names, fields, word lists, decode rows ===== -/
def RX0 : String := "TrickHouse$ActLog"
def TX0 : u_T := fun k => match k with
  | 0 => ("TrickHouse$ActLog", "words", "[I", true)
  | 1 => ("TrickHouse$ActLog", "numbers", "[I", true)
  | 2 => ("TrickHouse$ActLog", "suits", "[I", true)
  | 3 => ("TrickHouse$ActLog", "players", "[I", true)
  | _ => ("TrickHouse$ActLog", "count", "I", false)
def tyX0 : Nat → FieldType := fun k => match k with
  | 0 => .array .int
  | 1 => .array .int
  | 2 => .array .int
  | 3 => .array .int
  | _ => .int
abbrev wsX00 : List Cond := u_ws RX0 TX0 5
theorem nmX0 : ∀ a, a < 5 → ∀ b, b < 5 → a ≠ b → (TX0 a).2.1 ≠ (TX0 b).2.1 := by decide +kernel
theorem tyX0_ok : ∀ k, k < 5 → parseFieldDescriptor (TX0 k).2.2.1 = some (tyX0 k) := by decide +kernel
abbrev cX0_init : ByteArray := prog_2_method_1_code
def yX0_init : MethodName := ⟨RX0, "<init>", "()V"⟩
abbrev cX0_add : ByteArray := prog_2_method_2_code
def yX0_add : MethodName := ⟨RX0, "add", "(IIII)V"⟩
abbrev cX0_become : ByteArray := prog_2_method_3_code
def yX0_become : MethodName := ⟨RX0, "become", "(LTrickHouse$ActLog;)V"⟩
def RX1 : String := "TrickHouse$Bids"
def TX1 : u_T := fun k => match k with
  | 0 => ("TrickHouse$Bids", "firstNamers", "[I", true)
  | 1 => ("TrickHouse$Bids", "turn", "I", false)
  | 2 => ("TrickHouse$Bids", "number", "I", false)
  | 3 => ("TrickHouse$Bids", "trump", "I", false)
  | 4 => ("TrickHouse$Bids", "side", "I", false)
  | 5 => ("TrickHouse$Bids", "doubles", "I", false)
  | 6 => ("TrickHouse$Bids", "passes", "I", false)
  | _ => ("TrickHouse$Bids", "declarer", "I", false)
def tyX1 : Nat → FieldType := fun k => match k with
  | 0 => .array .int
  | 1 => .int
  | 2 => .int
  | 3 => .int
  | 4 => .int
  | 5 => .int
  | 6 => .int
  | _ => .int
abbrev wsX10 : List Cond := u_ws RX1 TX1 8
theorem nmX1 : ∀ a, a < 8 → ∀ b, b < 8 → a ≠ b → (TX1 a).2.1 ≠ (TX1 b).2.1 := by decide +kernel
theorem tyX1_ok : ∀ k, k < 8 → parseFieldDescriptor (TX1 k).2.2.1 = some (tyX1 k) := by decide +kernel
abbrev cX1_init : ByteArray := prog_3_method_1_code
def yX1_init : MethodName := ⟨RX1, "<init>", "()V"⟩
abbrev cX1_begin : ByteArray := prog_3_method_2_code
def yX1_begin : MethodName := ⟨RX1, "begin", "(I)V"⟩
abbrev cX1_isAbove : ByteArray := prog_3_method_3_code
def yX1_isAbove : MethodName := ⟨RX1, "isAbove", "(II)Z"⟩
abbrev cX1_mayDouble : ByteArray := prog_3_method_4_code
def yX1_mayDouble : MethodName := ⟨RX1, "mayDouble", "()Z"⟩
abbrev cX1_mayRedouble : ByteArray := prog_3_method_5_code
def yX1_mayRedouble : MethodName := ⟨RX1, "mayRedouble", "()Z"⟩
abbrev cX1_bid : ByteArray := prog_3_method_6_code
def yX1_bid : MethodName := ⟨RX1, "bid", "(II)V"⟩
abbrev cX1_redoubleOrDouble : ByteArray := prog_3_method_7_code
def yX1_redoubleOrDouble : MethodName := ⟨RX1, "redoubleOrDouble", "()V"⟩
abbrev cX1_pass : ByteArray := prog_3_method_8_code
def yX1_pass : MethodName := ⟨RX1, "pass", "()V"⟩
abbrev cX1_hasContract : ByteArray := prog_3_method_9_code
def yX1_hasContract : MethodName := ⟨RX1, "hasContract", "()Z"⟩
abbrev cX1_nameDeclarer : ByteArray := prog_3_method_10_code
def yX1_nameDeclarer : MethodName := ⟨RX1, "nameDeclarer", "()V"⟩
def RX2 : String := "TrickHouse$Play"
def TX2 : u_T := fun k => match k with
  | 0 => ("TrickHouse$Play", "deck", "[I", true)
  | 1 => ("TrickHouse$Play", "dealt", "[I", true)
  | 2 => ("TrickHouse$Play", "hands", "[I", true)
  | 3 => ("TrickHouse$Play", "played", "[I", true)
  | 4 => ("TrickHouse$Play", "leaders", "[I", true)
  | 5 => ("TrickHouse$Play", "winners", "[I", true)
  | 6 => ("TrickHouse$Play", "won", "[I", true)
  | 7 => ("TrickHouse$Play", "count", "I", false)
  | 8 => ("TrickHouse$Play", "turn", "I", false)
  | 9 => ("TrickHouse$Play", "trump", "I", false)
  | 10 => ("TrickHouse$Play", "ranking", "I", false)
  | _ => ("TrickHouse$Play", "rule", "I", false)
def tyX2 : Nat → FieldType := fun k => match k with
  | 0 => .array .int
  | 1 => .array .int
  | 2 => .array .int
  | 3 => .array .int
  | 4 => .array .int
  | 5 => .array .int
  | 6 => .array .int
  | 7 => .int
  | 8 => .int
  | 9 => .int
  | 10 => .int
  | _ => .int
abbrev wsX20 : List Cond := u_ws RX2 TX2 12
theorem nmX2 : ∀ a, a < 12 → ∀ b, b < 12 → a ≠ b → (TX2 a).2.1 ≠ (TX2 b).2.1 := by decide +kernel
theorem tyX2_ok : ∀ k, k < 12 → parseFieldDescriptor (TX2 k).2.2.1 = some (tyX2 k) := by decide +kernel
abbrev cX2_init : ByteArray := prog_4_method_1_code
def yX2_init : MethodName := ⟨RX2, "<init>", "()V"⟩
abbrev cX2_clear : ByteArray := prog_4_method_2_code
def yX2_clear : MethodName := ⟨RX2, "clear", "()V"⟩
abbrev cX2_dealOut : ByteArray := prog_4_method_3_code
def yX2_dealOut : MethodName := ⟨RX2, "dealOut", "(I)V"⟩
abbrev cX2_begin : ByteArray := prog_4_method_4_code
def yX2_begin : MethodName := ⟨RX2, "begin", "(IIII)V"⟩
abbrev cX2_become : ByteArray := prog_4_method_5_code
def yX2_become : MethodName := ⟨RX2, "become", "(LTrickHouse$Play;)V"⟩
abbrev cX2_full : ByteArray := prog_4_method_6_code
def yX2_full : MethodName := ⟨RX2, "full", "()I"⟩
abbrev cX2_left : ByteArray := prog_4_method_7_code
def yX2_left : MethodName := ⟨RX2, "left", "()I"⟩
abbrev cX2_cardAt : ByteArray := prog_4_method_8_code
def yX2_cardAt : MethodName := ⟨RX2, "cardAt", "(I)I"⟩
abbrev cX2_allowed : ByteArray := prog_4_method_9_code
def yX2_allowed : MethodName := ⟨RX2, "allowed", "()I"⟩
abbrev cX2_strongerTrumps : ByteArray := prog_4_method_10_code
def yX2_strongerTrumps : MethodName := ⟨RX2, "strongerTrumps", "(I)I"⟩
abbrev cX2_lay : ByteArray := prog_4_method_11_code
def yX2_lay : MethodName := ⟨RX2, "lay", "(I)V"⟩
abbrev cX2_lift : ByteArray := prog_4_method_12_code
def yX2_lift : MethodName := ⟨RX2, "lift", "()V"⟩
abbrev cX2_addWon : ByteArray := prog_4_method_13_code
def yX2_addWon : MethodName := ⟨RX2, "addWon", "(II)V"⟩
abbrev cX2_winnerOf : ByteArray := prog_4_method_14_code
def yX2_winnerOf : MethodName := ⟨RX2, "winnerOf", "(III)I"⟩
def RX3 : String := "TrickHouse$Scores"
def TX3 : u_T := fun k => match k with
  | 0 => ("TrickHouse$Scores", "totals", "[I", true)
  | 1 => ("TrickHouse$Scores", "any", "Z", false)
  | 2 => ("TrickHouse$Scores", "made", "I", false)
  | 3 => ("TrickHouse$Scores", "number", "I", false)
  | 4 => ("TrickHouse$Scores", "trump", "I", false)
  | _ => ("TrickHouse$Scores", "doubles", "I", false)
def tyX3 : Nat → FieldType := fun k => match k with
  | 0 => .array .int
  | 1 => .boolean
  | 2 => .int
  | 3 => .int
  | 4 => .int
  | _ => .int
abbrev wsX30 : List Cond := u_ws RX3 TX3 6
theorem nmX3 : ∀ a, a < 6 → ∀ b, b < 6 → a ≠ b → (TX3 a).2.1 ≠ (TX3 b).2.1 := by decide +kernel
theorem tyX3_ok : ∀ k, k < 6 → parseFieldDescriptor (TX3 k).2.2.1 = some (tyX3 k) := by decide +kernel
abbrev cX3_init : ByteArray := prog_5_method_1_code
def yX3_init : MethodName := ⟨RX3, "<init>", "()V"⟩
abbrev cX3_clear : ByteArray := prog_5_method_2_code
def yX3_clear : MethodName := ⟨RX3, "clear", "()V"⟩
abbrev cX3_settle : ByteArray := prog_5_method_3_code
def yX3_settle : MethodName := ⟨RX3, "settle", "(LTrickHouse$Bids;I)V"⟩
abbrev cX3_totalOf : ByteArray := prog_5_method_4_code
def yX3_totalOf : MethodName := ⟨RX3, "totalOf", "(II)I"⟩
def RX4 : String := "TrickHouse$Sheet"
def TX4 : u_T := fun k => match k with
  | 0 => ("TrickHouse$Sheet", "items", "[I", true)
  | 1 => ("TrickHouse$Sheet", "sort", "I", false)
  | _ => ("TrickHouse$Sheet", "size", "I", false)
def tyX4 : Nat → FieldType := fun k => match k with
  | 0 => .array .int
  | 1 => .int
  | _ => .int
abbrev wsX40 : List Cond := u_ws RX4 TX4 3
theorem nmX4 : ∀ a, a < 3 → ∀ b, b < 3 → a ≠ b → (TX4 a).2.1 ≠ (TX4 b).2.1 := by decide +kernel
theorem tyX4_ok : ∀ k, k < 3 → parseFieldDescriptor (TX4 k).2.2.1 = some (tyX4 k) := by decide +kernel
abbrev cX4_init : ByteArray := prog_6_method_1_code
def yX4_init : MethodName := ⟨RX4, "<init>", "()V"⟩
abbrev cX4_isMissing : ByteArray := prog_6_method_2_code
def yX4_isMissing : MethodName := ⟨RX4, "isMissing", "()Z"⟩
abbrev cX4_become : ByteArray := prog_6_method_3_code
def yX4_become : MethodName := ⟨RX4, "become", "(II)V"⟩
abbrev cX4_holds : ByteArray := prog_6_method_4_code
def yX4_holds : MethodName := ⟨RX4, "holds", "(II)Z"⟩
def RX5 : String := "TrickHouse$Table"
def TX5 : u_T := fun k => match k with
  | 0 => ("TrickHouse$Table", "bids", "LTrickHouse$Bids;", true)
  | 1 => ("TrickHouse$Table", "play", "LTrickHouse$Play;", true)
  | 2 => ("TrickHouse$Table", "scores", "LTrickHouse$Scores;", true)
  | 3 => ("TrickHouse$Table", "phase", "I", false)
  | 4 => ("TrickHouse$Table", "dealer", "I", false)
  | 5 => ("TrickHouse$Table", "ranking", "I", false)
  | _ => ("TrickHouse$Table", "rule", "I", false)
def tyX5 : Nat → FieldType := fun k => match k with
  | 0 => .object "TrickHouse$Bids"
  | 1 => .object "TrickHouse$Play"
  | 2 => .object "TrickHouse$Scores"
  | 3 => .int
  | 4 => .int
  | 5 => .int
  | _ => .int
abbrev wsX50 : List Cond := u_ws RX5 TX5 7
theorem nmX5 : ∀ a, a < 7 → ∀ b, b < 7 → a ≠ b → (TX5 a).2.1 ≠ (TX5 b).2.1 := by decide +kernel
theorem tyX5_ok : ∀ k, k < 7 → parseFieldDescriptor (TX5 k).2.2.1 = some (tyX5 k) := by decide +kernel
abbrev cX5_init : ByteArray := prog_7_method_1_code
def yX5_init : MethodName := ⟨RX5, "<init>", "()V"⟩
abbrev cX5_clear : ByteArray := prog_7_method_2_code
def yX5_clear : MethodName := ⟨RX5, "clear", "()V"⟩
abbrev cX5_inTurn : ByteArray := prog_7_method_3_code
def yX5_inTurn : MethodName := ⟨RX5, "inTurn", "()I"⟩
abbrev cX5_isNearEnd : ByteArray := prog_7_method_4_code
def yX5_isNearEnd : MethodName := ⟨RX5, "isNearEnd", "()Z"⟩
abbrev cX5_isTimeFor : ByteArray := prog_7_method_5_code
def yX5_isTimeFor : MethodName := ⟨RX5, "isTimeFor", "(I)Z"⟩
abbrev cX5_perform : ByteArray := prog_7_method_6_code
def yX5_perform : MethodName := ⟨RX5, "perform", "(III)V"⟩
abbrev cX5_beginDeal : ByteArray := prog_7_method_7_code
def yX5_beginDeal : MethodName := ⟨RX5, "beginDeal", "(I)V"⟩
abbrev cX5_pass : ByteArray := prog_7_method_8_code
def yX5_pass : MethodName := ⟨RX5, "pass", "()V"⟩
abbrev cX5_playCard : ByteArray := prog_7_method_9_code
def yX5_playCard : MethodName := ⟨RX5, "playCard", "(I)V"⟩
abbrev cX5_claim : ByteArray := prog_7_method_10_code
def yX5_claim : MethodName := ⟨RX5, "claim", "(I)V"⟩
abbrev cX5_endDeal : ByteArray := prog_7_method_11_code
def yX5_endDeal : MethodName := ⟨RX5, "endDeal", "()V"⟩
abbrev cX5_standing : ByteArray := prog_7_method_12_code
def yX5_standing : MethodName := ⟨RX5, "standing", "(I)I"⟩
def RX6 : String := "TrickHouse$Tape"
def TX6 : u_T := fun k => match k with
  | 0 => ("TrickHouse$Tape", "bytes", "[I", true)
  | 1 => ("TrickHouse$Tape", "size", "I", false)
  | 2 => ("TrickHouse$Tape", "place", "I", false)
  | 3 => ("TrickHouse$Tape", "fault", "I", false)
  | 4 => ("TrickHouse$Tape", "word", "I", false)
  | 5 => ("TrickHouse$Tape", "number", "I", false)
  | _ => ("TrickHouse$Tape", "suit", "I", false)
def tyX6 : Nat → FieldType := fun k => match k with
  | 0 => .array .int
  | 1 => .int
  | 2 => .int
  | 3 => .int
  | 4 => .int
  | 5 => .int
  | _ => .int
abbrev wsX60 : List Cond := u_ws RX6 TX6 7
theorem nmX6 : ∀ a, a < 7 → ∀ b, b < 7 → a ≠ b → (TX6 a).2.1 ≠ (TX6 b).2.1 := by decide +kernel
theorem tyX6_ok : ∀ k, k < 7 → parseFieldDescriptor (TX6 k).2.2.1 = some (tyX6 k) := by decide +kernel
abbrev cX6_init : ByteArray := prog_8_method_1_code
def yX6_init : MethodName := ⟨RX6, "<init>", "()V"⟩
abbrev cX6_add : ByteArray := prog_8_method_2_code
def yX6_add : MethodName := ⟨RX6, "add", "(I)V"⟩
abbrev cX6_read : ByteArray := prog_8_method_3_code
def yX6_read : MethodName := ⟨RX6, "read", "()V"⟩
abbrev cX6_readWord : ByteArray := prog_8_method_4_code
def yX6_readWord : MethodName := ⟨RX6, "readWord", "()V"⟩
abbrev cX6_readNumber : ByteArray := prog_8_method_5_code
def yX6_readNumber : MethodName := ⟨RX6, "readNumber", "()V"⟩
abbrev cX6_readSuit : ByteArray := prog_8_method_6_code
def yX6_readSuit : MethodName := ⟨RX6, "readSuit", "(I)V"⟩
abbrev cX6_readEnd : ByteArray := prog_8_method_7_code
def yX6_readEnd : MethodName := ⟨RX6, "readEnd", "()V"⟩
abbrev cX6_skipBlanks : ByteArray := prog_8_method_8_code
def yX6_skipBlanks : MethodName := ⟨RX6, "skipBlanks", "()V"⟩
abbrev cX6_skipLetters : ByteArray := prog_8_method_9_code
def yX6_skipLetters : MethodName := ⟨RX6, "skipLetters", "()V"⟩
abbrev cX6_isBetween : ByteArray := prog_8_method_10_code
def yX6_isBetween : MethodName := ⟨RX6, "isBetween", "(CC)Z"⟩
abbrev cX6_isText : ByteArray := prog_8_method_11_code
def yX6_isText : MethodName := ⟨RX6, "isText", "(Ljava/lang/String;I)Z"⟩
def RX7 : String := "TrickHouse"
def TX7 : u_T := fun k => match k with
  | 0 => ("TrickHouse", "tape", "LTrickHouse$Tape;", true)
  | 1 => ("TrickHouse", "acts", "LTrickHouse$ActLog;", true)
  | 2 => ("TrickHouse", "imaged", "LTrickHouse$ActLog;", true)
  | 3 => ("TrickHouse", "real", "LTrickHouse$Table;", true)
  | 4 => ("TrickHouse", "thought", "LTrickHouse$Table;", true)
  | 5 => ("TrickHouse", "sheets", "[LTrickHouse$Sheet;", true)
  | 6 => ("TrickHouse", "line", "Ljava/lang/StringBuilder;", true)
  | _ => ("TrickHouse", "hasImage", "Z", false)
def tyX7 : Nat → FieldType := fun k => match k with
  | 0 => .object "TrickHouse$Tape"
  | 1 => .object "TrickHouse$ActLog"
  | 2 => .object "TrickHouse$ActLog"
  | 3 => .object "TrickHouse$Table"
  | 4 => .object "TrickHouse$Table"
  | 5 => .array (.object "TrickHouse$Sheet")
  | 6 => .object "java/lang/StringBuilder"
  | _ => .boolean
abbrev wsX70 : List Cond := u_ws RX7 TX7 8
theorem nmX7 : ∀ a, a < 8 → ∀ b, b < 8 → a ≠ b → (TX7 a).2.1 ≠ (TX7 b).2.1 := by decide +kernel
theorem tyX7_ok : ∀ k, k < 8 → parseFieldDescriptor (TX7 k).2.2.1 = some (tyX7 k) := by decide +kernel
abbrev cX7_init : ByteArray := prog_1_method_1_code
def yX7_init : MethodName := ⟨RX7, "<init>", "()V"⟩
abbrev cX7_feed : ByteArray := prog_1_method_2_code
def yX7_feed : MethodName := ⟨RX7, "feed", "(IIIIII)I"⟩
abbrev cX7_act : ByteArray := prog_1_method_3_code
def yX7_act : MethodName := ⟨RX7, "act", "()I"⟩
abbrev cX7_undo : ByteArray := prog_1_method_4_code
def yX7_undo : MethodName := ⟨RX7, "undo", "()I"⟩
abbrev cX7_log : ByteArray := prog_1_method_5_code
def yX7_log : MethodName := ⟨RX7, "log", "(II)I"⟩
abbrev cX7_print : ByteArray := prog_1_method_6_code
def yX7_print : MethodName := ⟨RX7, "print", "(II)I"⟩
abbrev cX7_told : ByteArray := prog_1_method_7_code
def yX7_told : MethodName := ⟨RX7, "told", "(I)I"⟩
abbrev cX7_hand : ByteArray := prog_1_method_8_code
def yX7_hand : MethodName := ⟨RX7, "hand", "(II)I"⟩
abbrev cX7_trick : ByteArray := prog_1_method_9_code
def yX7_trick : MethodName := ⟨RX7, "trick", "(II)I"⟩
abbrev cX7_strength : ByteArray := prog_1_method_10_code
def yX7_strength : MethodName := ⟨RX7, "strength", "(II)I"⟩
abbrev cX7_taken : ByteArray := prog_1_method_11_code
def yX7_taken : MethodName := ⟨RX7, "taken", "(II)I"⟩
abbrev cX7_score : ByteArray := prog_1_method_12_code
def yX7_score : MethodName := ⟨RX7, "score", "(I)I"⟩
abbrev cX7_table : ByteArray := prog_1_method_13_code
def yX7_table : MethodName := ⟨RX7, "table", "(IIIII)I"⟩
abbrev cX7_total : ByteArray := prog_1_method_14_code
def yX7_total : MethodName := ⟨RX7, "total", "(II)I"⟩
abbrev cX7_open : ByteArray := prog_1_method_15_code
def yX7_open : MethodName := ⟨RX7, "open", "()I"⟩
abbrev cX7_gains : ByteArray := prog_1_method_16_code
def yX7_gains : MethodName := ⟨RX7, "gains", "(I)I"⟩
abbrev cX7_best : ByteArray := prog_1_method_17_code
def yX7_best : MethodName := ⟨RX7, "best", "(I)I"⟩
abbrev cX7_drawn : ByteArray := prog_1_method_18_code
def yX7_drawn : MethodName := ⟨RX7, "drawn", "(I)I"⟩
abbrev cX7_chance : ByteArray := prog_1_method_19_code
def yX7_chance : MethodName := ⟨RX7, "chance", "(III)I"⟩
abbrev cX7_replay : ByteArray := prog_1_method_20_code
def yX7_replay : MethodName := ⟨RX7, "replay", "(II)I"⟩
abbrev cX7_tells : ByteArray := prog_1_method_21_code
def yX7_tells : MethodName := ⟨RX7, "tells", "(II)I"⟩
abbrev cX7_film : ByteArray := prog_1_method_22_code
def yX7_film : MethodName := ⟨RX7, "film", "(I)I"⟩
abbrev cX7_image : ByteArray := prog_1_method_23_code
def yX7_image : MethodName := ⟨RX7, "image", "()I"⟩
abbrev cX7_back : ByteArray := prog_1_method_24_code
def yX7_back : MethodName := ⟨RX7, "back", "()I"⟩
abbrev cX7_sheet : ByteArray := prog_1_method_25_code
def yX7_sheet : MethodName := ⟨RX7, "sheet", "(III)I"⟩
abbrev cX7_cell : ByteArray := prog_1_method_26_code
def yX7_cell : MethodName := ⟨RX7, "cell", "(III)I"⟩
abbrev cX7_copy : ByteArray := prog_1_method_27_code
def yX7_copy : MethodName := ⟨RX7, "copy", "(IIIII)I"⟩
abbrev cX7_refusalOf : ByteArray := prog_1_method_28_code
def yX7_refusalOf : MethodName := ⟨RX7, "refusalOf", "(II)I"⟩
abbrev cX7_fitsWord : ByteArray := prog_1_method_29_code
def yX7_fitsWord : MethodName := ⟨RX7, "fitsWord", "(II)Z"⟩
abbrev cX7_isFair : ByteArray := prog_1_method_30_code
def yX7_isFair : MethodName := ⟨RX7, "isFair", "(III)Z"⟩
abbrev cX7_goThrough : ByteArray := prog_1_method_31_code
def yX7_goThrough : MethodName := ⟨RX7, "goThrough", "(LTrickHouse$Table;I)V"⟩
abbrev cX7_writeLine : ByteArray := prog_1_method_32_code
def yX7_writeLine : MethodName := ⟨RX7, "writeLine", "(III)V"⟩
abbrev cX7_wordText : ByteArray := prog_1_method_33_code
def yX7_wordText : MethodName := ⟨RX7, "wordText", "(I)Ljava/lang/String;"⟩
abbrev cX7_suitLetter : ByteArray := prog_1_method_34_code
def yX7_suitLetter : MethodName := ⟨RX7, "suitLetter", "(I)C"⟩
abbrev cX7_openNow : ByteArray := prog_1_method_35_code
def yX7_openNow : MethodName := ⟨RX7, "openNow", "()I"⟩
abbrev cX7_gainsOf : ByteArray := prog_1_method_36_code
def yX7_gainsOf : MethodName := ⟨RX7, "gainsOf", "(I)I"⟩
abbrev cX7_mostMade : ByteArray := prog_1_method_37_code
def yX7_mostMade : MethodName := ⟨RX7, "mostMade", "(LTrickHouse$Play;II)I"⟩
abbrev cX7_drawnMade : ByteArray := prog_1_method_38_code
def yX7_drawnMade : MethodName := ⟨RX7, "drawnMade", "(I)I"⟩
abbrev cX7_inLowestTerms : ByteArray := prog_1_method_39_code
def yX7_inLowestTerms : MethodName := ⟨RX7, "inLowestTerms", "(III)I"⟩
abbrev cX7_firstOtherwise : ByteArray := prog_1_method_40_code
def yX7_firstOtherwise : MethodName := ⟨RX7, "firstOtherwise", "(LTrickHouse$Sheet;)I"⟩
abbrev cX7_trumpsThatFit : ByteArray := prog_1_method_41_code
def yX7_trumpsThatFit : MethodName := ⟨RX7, "trumpsThatFit", "(LTrickHouse$Sheet;)I"⟩
abbrev cX7_rankingsThatFit : ByteArray := prog_1_method_42_code
def yX7_rankingsThatFit : MethodName := ⟨RX7, "rankingsThatFit", "(LTrickHouse$Sheet;)I"⟩
abbrev cX7_wouldBeSo : ByteArray := prog_1_method_43_code
def yX7_wouldBeSo : MethodName := ⟨RX7, "wouldBeSo", "(LTrickHouse$Sheet;II)Z"⟩
abbrev cX7_at : ByteArray := prog_1_method_44_code
def yX7_at : MethodName := ⟨RX7, "at", "([II)I"⟩
abbrev cX7_set : ByteArray := prog_1_method_45_code
def yX7_set : MethodName := ⟨RX7, "set", "([III)V"⟩
abbrev cX7_fill : ByteArray := prog_1_method_46_code
def yX7_fill : MethodName := ⟨RX7, "fill", "([II)V"⟩
abbrev cX7_take : ByteArray := prog_1_method_47_code
def yX7_take : MethodName := ⟨RX7, "take", "([I[I)V"⟩
abbrev cX7_sheetAt : ByteArray := prog_1_method_48_code
def yX7_sheetAt : MethodName := ⟨RX7, "sheetAt", "(I)LTrickHouse$Sheet;"⟩
abbrev cX7_isByte : ByteArray := prog_1_method_49_code
def yX7_isByte : MethodName := ⟨RX7, "isByte", "(I)Z"⟩
abbrev cX7_isCard : ByteArray := prog_1_method_50_code
def yX7_isCard : MethodName := ⟨RX7, "isCard", "(I)Z"⟩
abbrev cX7_isHouse : ByteArray := prog_1_method_51_code
def yX7_isHouse : MethodName := ⟨RX7, "isHouse", "(I)Z"⟩
abbrev cX7_nextSeed : ByteArray := prog_1_method_52_code
def yX7_nextSeed : MethodName := ⟨RX7, "nextSeed", "(I)I"⟩
abbrev cX7_bitOf : ByteArray := prog_1_method_53_code
def yX7_bitOf : MethodName := ⟨RX7, "bitOf", "(I)I"⟩
abbrev cX7_bitsOfSuit : ByteArray := prog_1_method_54_code
def yX7_bitsOfSuit : MethodName := ⟨RX7, "bitsOfSuit", "(I)I"⟩
abbrev cX7_lowestCard : ByteArray := prog_1_method_55_code
def yX7_lowestCard : MethodName := ⟨RX7, "lowestCard", "(I)I"⟩
abbrev cX7_cardByNumber : ByteArray := prog_1_method_56_code
def yX7_cardByNumber : MethodName := ⟨RX7, "cardByNumber", "(II)I"⟩
abbrev cX7_strengthOf : ByteArray := prog_1_method_57_code
def yX7_strengthOf : MethodName := ⟨RX7, "strengthOf", "(III)I"⟩
abbrev cX7_scoreBy : ByteArray := prog_1_method_58_code
def yX7_scoreBy : MethodName := ⟨RX7, "scoreBy", "(IIIII)I"⟩
def RX8 : String := "TrickHouseModel"
def TX8 : u_T := fun k => match k with
  | 0 => ("TrickHouseModel", "acts", "I", false)
  | 1 => ("TrickHouseModel", "words", "[I", true)
  | 2 => ("TrickHouseModel", "numbers", "[I", true)
  | 3 => ("TrickHouseModel", "suits", "[I", true)
  | 4 => ("TrickHouseModel", "whoms", "[I", true)
  | 5 => ("TrickHouseModel", "phase", "I", false)
  | 6 => ("TrickHouseModel", "turn", "I", false)
  | 7 => ("TrickHouseModel", "dealer", "I", false)
  | 8 => ("TrickHouseModel", "declarer", "I", false)
  | 9 => ("TrickHouseModel", "trump", "I", false)
  | 10 => ("TrickHouseModel", "bid", "I", false)
  | 11 => ("TrickHouseModel", "bidder", "I", false)
  | 12 => ("TrickHouseModel", "doubled", "I", false)
  | 13 => ("TrickHouseModel", "passes", "I", false)
  | 14 => ("TrickHouseModel", "ranking", "I", false)
  | 15 => ("TrickHouseModel", "rule", "I", false)
  | 16 => ("TrickHouseModel", "named", "[[I", true)
  | 17 => ("TrickHouseModel", "hands", "[I", true)
  | 18 => ("TrickHouseModel", "firstHands", "[I", true)
  | 19 => ("TrickHouseModel", "tricks", "I", false)
  | 20 => ("TrickHouseModel", "leaders", "[I", true)
  | 21 => ("TrickHouseModel", "played", "[I", true)
  | 22 => ("TrickHouseModel", "winners", "[I", true)
  | 23 => ("TrickHouseModel", "won", "[I", true)
  | 24 => ("TrickHouseModel", "cards", "[[I", true)
  | 25 => ("TrickHouseModel", "totals", "[[I", true)
  | 26 => ("TrickHouseModel", "hasScore", "Z", false)
  | 27 => ("TrickHouseModel", "lastMade", "I", false)
  | 28 => ("TrickHouseModel", "lastBid", "I", false)
  | 29 => ("TrickHouseModel", "lastTrump", "I", false)
  | 30 => ("TrickHouseModel", "lastDoubled", "I", false)
  | 31 => ("TrickHouseModel", "row", "[I", true)
  | 32 => ("TrickHouseModel", "tape", "[I", true)
  | 33 => ("TrickHouseModel", "taped", "I", false)
  | 34 => ("TrickHouseModel", "at", "I", false)
  | 35 => ("TrickHouseModel", "begin", "I", false)
  | 36 => ("TrickHouseModel", "token", "I", false)
  | 37 => ("TrickHouseModel", "value", "I", false)
  | 38 => ("TrickHouseModel", "number", "I", false)
  | 39 => ("TrickHouseModel", "suit", "I", false)
  | 40 => ("TrickHouseModel", "isWrong", "Z", false)
  | 41 => ("TrickHouseModel", "imageActs", "I", false)
  | 42 => ("TrickHouseModel", "imageRows", "[[I", true)
  | 43 => ("TrickHouseModel", "sorts", "[I", true)
  | 44 => ("TrickHouseModel", "lengths", "[I", true)
  | 45 => ("TrickHouseModel", "items", "[[I", true)
  | _ => ("TrickHouseModel", "passed", "[I", true)
def tyX8 : Nat → FieldType := fun k => match k with
  | 0 => .int
  | 1 => .array .int
  | 2 => .array .int
  | 3 => .array .int
  | 4 => .array .int
  | 5 => .int
  | 6 => .int
  | 7 => .int
  | 8 => .int
  | 9 => .int
  | 10 => .int
  | 11 => .int
  | 12 => .int
  | 13 => .int
  | 14 => .int
  | 15 => .int
  | 16 => .array (.array .int)
  | 17 => .array .int
  | 18 => .array .int
  | 19 => .int
  | 20 => .array .int
  | 21 => .array .int
  | 22 => .array .int
  | 23 => .array .int
  | 24 => .array (.array .int)
  | 25 => .array (.array .int)
  | 26 => .boolean
  | 27 => .int
  | 28 => .int
  | 29 => .int
  | 30 => .int
  | 31 => .array .int
  | 32 => .array .int
  | 33 => .int
  | 34 => .int
  | 35 => .int
  | 36 => .int
  | 37 => .int
  | 38 => .int
  | 39 => .int
  | 40 => .boolean
  | 41 => .int
  | 42 => .array (.array .int)
  | 43 => .array .int
  | 44 => .array .int
  | 45 => .array (.array .int)
  | _ => .array .int
abbrev wsX80 : List Cond := u_ws RX8 TX8 47
theorem nmX8 : ∀ a, a < 47 → ∀ b, b < 47 → a ≠ b → (TX8 a).2.1 ≠ (TX8 b).2.1 := by decide +kernel
theorem tyX8_ok : ∀ k, k < 47 → parseFieldDescriptor (TX8 k).2.2.1 = some (tyX8 k) := by decide +kernel
abbrev cX8_init : ByteArray := prog_10_method_1_code
def yX8_init : MethodName := ⟨RX8, "<init>", "()V"⟩
abbrev cX8_in : ByteArray := prog_10_method_2_code
def yX8_in : MethodName := ⟨RX8, "in", "(III)Z"⟩
abbrev cX8_side : ByteArray := prog_10_method_3_code
def yX8_side : MethodName := ⟨RX8, "side", "(I)I"⟩
abbrev cX8_bit : ByteArray := prog_10_method_4_code
def yX8_bit : MethodName := ⟨RX8, "bit", "(I)I"⟩
abbrev cX8_has : ByteArray := prog_10_method_5_code
def yX8_has : MethodName := ⟨RX8, "has", "(II)Z"⟩
abbrev cX8_clears : ByteArray := prog_10_method_6_code
def yX8_clears : MethodName := ⟨RX8, "clears", "()V"⟩
abbrev cX8_begins : ByteArray := prog_10_method_7_code
def yX8_begins : MethodName := ⟨RX8, "begins", "()V"⟩
abbrev cX8_strengthBy : ByteArray := prog_10_method_8_code
def yX8_strengthBy : MethodName := ⟨RX8, "strengthBy", "(III)I"⟩
abbrev cX8_wonBy : ByteArray := prog_10_method_9_code
def yX8_wonBy : MethodName := ⟨RX8, "wonBy", "(III)I"⟩
abbrev cX8_trumpNow : ByteArray := prog_10_method_10_code
def yX8_trumpNow : MethodName := ⟨RX8, "trumpNow", "()I"⟩
abbrev cX8_ofSuit : ByteArray := prog_10_method_11_code
def yX8_ofSuit : MethodName := ⟨RX8, "ofSuit", "(II)I"⟩
abbrev cX8_mayPlay : ByteArray := prog_10_method_12_code
def yX8_mayPlay : MethodName := ⟨RX8, "mayPlay", "()I"⟩
abbrev cX8_plain : ByteArray := prog_10_method_13_code
def yX8_plain : MethodName := ⟨RX8, "plain", "(IIII)I"⟩
abbrev cX8_scored : ByteArray := prog_10_method_14_code
def yX8_scored : MethodName := ⟨RX8, "scored", "(IIIII)I"⟩
abbrev cX8_endsDeal : ByteArray := prog_10_method_15_code
def yX8_endsDeal : MethodName := ⟨RX8, "endsDeal", "(Z)V"⟩
abbrev cX8_deals : ByteArray := prog_10_method_16_code
def yX8_deals : MethodName := ⟨RX8, "deals", "(I)V"⟩
abbrev cX8_leads : ByteArray := prog_10_method_17_code
def yX8_leads : MethodName := ⟨RX8, "leads", "(I)V"⟩
abbrev cX8_passes : ByteArray := prog_10_method_18_code
def yX8_passes : MethodName := ⟨RX8, "passes", "()V"⟩
abbrev cX8_bids : ByteArray := prog_10_method_19_code
def yX8_bids : MethodName := ⟨RX8, "bids", "(II)V"⟩
abbrev cX8_plays : ByteArray := prog_10_method_20_code
def yX8_plays : MethodName := ⟨RX8, "plays", "(I)V"⟩
abbrev cX8_doesAct : ByteArray := prog_10_method_21_code
def yX8_doesAct : MethodName := ⟨RX8, "doesAct", "(III)V"⟩
abbrev cX8_goesThrough : ByteArray := prog_10_method_22_code
def yX8_goesThrough : MethodName := ⟨RX8, "goesThrough", "(I)V"⟩
abbrev cX8_isLate : ByteArray := prog_10_method_23_code
def yX8_isLate : MethodName := ⟨RX8, "isLate", "()Z"⟩
abbrev cX8_tried : ByteArray := prog_10_method_24_code
def yX8_tried : MethodName := ⟨RX8, "tried", "(I)I"⟩
abbrev cX8_solved : ByteArray := prog_10_method_25_code
def yX8_solved : MethodName := ⟨RX8, "solved", "()I"⟩
abbrev cX8_forTurn : ByteArray := prog_10_method_26_code
def yX8_forTurn : MethodName := ⟨RX8, "forTurn", "(I)I"⟩
abbrev cX8_open : ByteArray := prog_10_method_27_code
def yX8_open : MethodName := ⟨RX8, "open", "()I"⟩
abbrev cX8_gains : ByteArray := prog_10_method_28_code
def yX8_gains : MethodName := ⟨RX8, "gains", "(I)I"⟩
abbrev cX8_best : ByteArray := prog_10_method_29_code
def yX8_best : MethodName := ⟨RX8, "best", "(I)I"⟩
abbrev cX8_isByte : ByteArray := prog_10_method_30_code
def yX8_isByte : MethodName := ⟨RX8, "isByte", "(I)Z"⟩
abbrev cX8_feed : ByteArray := prog_10_method_31_code
def yX8_feed : MethodName := ⟨RX8, "feed", "(IIIIII)I"⟩
abbrev cX8_byteAt : ByteArray := prog_10_method_32_code
def yX8_byteAt : MethodName := ⟨RX8, "byteAt", "(I)I"⟩
abbrev cX8_isWord : ByteArray := prog_10_method_33_code
def yX8_isWord : MethodName := ⟨RX8, "isWord", "(Ljava/lang/String;)Z"⟩
abbrev cX8_wordOf : ByteArray := prog_10_method_34_code
def yX8_wordOf : MethodName := ⟨RX8, "wordOf", "(I)Ljava/lang/String;"⟩
abbrev cX8_wordRead : ByteArray := prog_10_method_35_code
def yX8_wordRead : MethodName := ⟨RX8, "wordRead", "()I"⟩
abbrev cX8_suitRead : ByteArray := prog_10_method_36_code
def yX8_suitRead : MethodName := ⟨RX8, "suitRead", "()I"⟩
abbrev cX8_next : ByteArray := prog_10_method_37_code
def yX8_next : MethodName := ⟨RX8, "next", "()V"⟩
abbrev cX8_takes : ByteArray := prog_10_method_38_code
def yX8_takes : MethodName := ⟨RX8, "takes", "(II)I"⟩
abbrev cX8_read : ByteArray := prog_10_method_39_code
def yX8_read : MethodName := ⟨RX8, "read", "()I"⟩
abbrev cX8_isTime : ByteArray := prog_10_method_40_code
def yX8_isTime : MethodName := ⟨RX8, "isTime", "(I)Z"⟩
abbrev cX8_isNumber : ByteArray := prog_10_method_41_code
def yX8_isNumber : MethodName := ⟨RX8, "isNumber", "(I)Z"⟩
abbrev cX8_isFair : ByteArray := prog_10_method_42_code
def yX8_isFair : MethodName := ⟨RX8, "isFair", "(I)Z"⟩
abbrev cX8_act : ByteArray := prog_10_method_43_code
def yX8_act : MethodName := ⟨RX8, "act", "()I"⟩
abbrev cX8_undo : ByteArray := prog_10_method_44_code
def yX8_undo : MethodName := ⟨RX8, "undo", "()I"⟩
abbrev cX8_log : ByteArray := prog_10_method_45_code
def yX8_log : MethodName := ⟨RX8, "log", "(II)I"⟩
abbrev cX8_textOf : ByteArray := prog_10_method_46_code
def yX8_textOf : MethodName := ⟨RX8, "textOf", "(I)Ljava/lang/String;"⟩
abbrev cX8_print : ByteArray := prog_10_method_47_code
def yX8_print : MethodName := ⟨RX8, "print", "(II)I"⟩
abbrev cX8_answer : ByteArray := prog_10_method_48_code
def yX8_answer : MethodName := ⟨RX8, "answer", "(I)I"⟩
abbrev cX8_told : ByteArray := prog_10_method_49_code
def yX8_told : MethodName := ⟨RX8, "told", "(I)I"⟩
abbrev cX8_hand : ByteArray := prog_10_method_50_code
def yX8_hand : MethodName := ⟨RX8, "hand", "(II)I"⟩
abbrev cX8_trick : ByteArray := prog_10_method_51_code
def yX8_trick : MethodName := ⟨RX8, "trick", "(II)I"⟩
abbrev cX8_strength : ByteArray := prog_10_method_52_code
def yX8_strength : MethodName := ⟨RX8, "strength", "(II)I"⟩
abbrev cX8_taken : ByteArray := prog_10_method_53_code
def yX8_taken : MethodName := ⟨RX8, "taken", "(II)I"⟩
abbrev cX8_isHouse : ByteArray := prog_10_method_54_code
def yX8_isHouse : MethodName := ⟨RX8, "isHouse", "(I)Z"⟩
abbrev cX8_score : ByteArray := prog_10_method_55_code
def yX8_score : MethodName := ⟨RX8, "score", "(I)I"⟩
abbrev cX8_table : ByteArray := prog_10_method_56_code
def yX8_table : MethodName := ⟨RX8, "table", "(IIIII)I"⟩
abbrev cX8_total : ByteArray := prog_10_method_57_code
def yX8_total : MethodName := ⟨RX8, "total", "(II)I"⟩
abbrev cX8_byLot : ByteArray := prog_10_method_58_code
def yX8_byLot : MethodName := ⟨RX8, "byLot", "(I)I"⟩
abbrev cX8_drawn : ByteArray := prog_10_method_59_code
def yX8_drawn : MethodName := ⟨RX8, "drawn", "(I)I"⟩
abbrev cX8_common : ByteArray := prog_10_method_60_code
def yX8_common : MethodName := ⟨RX8, "common", "(II)I"⟩
abbrev cX8_chance : ByteArray := prog_10_method_61_code
def yX8_chance : MethodName := ⟨RX8, "chance", "(III)I"⟩
abbrev cX8_replay : ByteArray := prog_10_method_62_code
def yX8_replay : MethodName := ⟨RX8, "replay", "(II)I"⟩
abbrev cX8_isSo : ByteArray := prog_10_method_63_code
def yX8_isSo : MethodName := ⟨RX8, "isSo", "(III)Z"⟩
abbrev cX8_tells : ByteArray := prog_10_method_64_code
def yX8_tells : MethodName := ⟨RX8, "tells", "(II)I"⟩
abbrev cX8_film : ByteArray := prog_10_method_65_code
def yX8_film : MethodName := ⟨RX8, "film", "(I)I"⟩
abbrev cX8_logRow : ByteArray := prog_10_method_66_code
def yX8_logRow : MethodName := ⟨RX8, "logRow", "(I)[I"⟩
abbrev cX8_image : ByteArray := prog_10_method_67_code
def yX8_image : MethodName := ⟨RX8, "image", "()I"⟩
abbrev cX8_back : ByteArray := prog_10_method_68_code
def yX8_back : MethodName := ⟨RX8, "back", "()I"⟩
abbrev cX8_isSheet : ByteArray := prog_10_method_69_code
def yX8_isSheet : MethodName := ⟨RX8, "isSheet", "(I)Z"⟩
abbrev cX8_sheet : ByteArray := prog_10_method_70_code
def yX8_sheet : MethodName := ⟨RX8, "sheet", "(III)I"⟩
abbrev cX8_cell : ByteArray := prog_10_method_71_code
def yX8_cell : MethodName := ⟨RX8, "cell", "(III)I"⟩
abbrev cX8_copy : ByteArray := prog_10_method_72_code
def yX8_copy : MethodName := ⟨RX8, "copy", "(IIIII)I"⟩
def RJ5 : String := "java/lang/AbstractStringBuilder"
def TJ5 : u_T := fun k => match k with
  | _ => ("", "", "", false)
def tyJ5 : Nat → FieldType := fun k => match k with
  | _ => .int
abbrev wsJ50 : List Cond := u_ws RJ5 TJ5 0
theorem nmJ5 : ∀ a, a < 0 → ∀ b, b < 0 → a ≠ b → (TJ5 a).2.1 ≠ (TJ5 b).2.1 := by decide +kernel
theorem tyJ5_ok : ∀ k, k < 0 → parseFieldDescriptor (TJ5 k).2.2.1 = some (tyJ5 k) := by decide +kernel
abbrev cJ5_init_d00df : ByteArray := prog_11_method_2_code
def yJ5_init_d00df : MethodName := ⟨RJ5, "<init>", "(I)V"⟩
abbrev cJ5_length_8abf5 : ByteArray := prog_11_method_6_code
def yJ5_length_8abf5 : MethodName := ⟨RJ5, "length", "()I"⟩
abbrev cJ5_ensureCapacityInternal_d00df : ByteArray := prog_11_method_9_code
def yJ5_ensureCapacityInternal_d00df : MethodName := ⟨RJ5, "ensureCapacityInternal", "(I)V"⟩
abbrev cJ5_newCapacity_0f7a4 : ByteArray := prog_11_method_10_code
def yJ5_newCapacity_0f7a4 : MethodName := ⟨RJ5, "newCapacity", "(I)I"⟩
abbrev cJ5_inflate_da8c8 : ByteArray := prog_11_method_11_code
def yJ5_inflate_da8c8 : MethodName := ⟨RJ5, "inflate", "()V"⟩
abbrev cJ5_setLength_d00df : ByteArray := prog_11_method_13_code
def yJ5_setLength_d00df : MethodName := ⟨RJ5, "setLength", "(I)V"⟩
abbrev cJ5_charAt_5068e : ByteArray := prog_11_method_14_code
def yJ5_charAt_5068e : MethodName := ⟨RJ5, "charAt", "(I)C"⟩
abbrev cJ5_append_cf1ce : ByteArray := prog_11_method_22_code
def yJ5_append_cf1ce : MethodName := ⟨RJ5, "append", "(Ljava/lang/String;)Ljava/lang/AbstractStringBuilder;"⟩
abbrev cJ5_appendNull_278bc : ByteArray := prog_11_method_26_code
def yJ5_appendNull_278bc : MethodName := ⟨RJ5, "appendNull", "()Ljava/lang/AbstractStringBuilder;"⟩
abbrev cJ5_append_3fe6f : ByteArray := prog_11_method_31_code
def yJ5_append_3fe6f : MethodName := ⟨RJ5, "append", "(C)Ljava/lang/AbstractStringBuilder;"⟩
abbrev cJ5_append_c97b9 : ByteArray := prog_11_method_32_code
def yJ5_append_c97b9 : MethodName := ⟨RJ5, "append", "(I)Ljava/lang/AbstractStringBuilder;"⟩
abbrev cJ5_getValue_6d5f1 : ByteArray := prog_11_method_64_code
def yJ5_getValue_6d5f1 : MethodName := ⟨RJ5, "getValue", "()[B"⟩
abbrev cJ5_isLatin1_aae02 : ByteArray := prog_11_method_68_code
def yJ5_isLatin1_aae02 : MethodName := ⟨RJ5, "isLatin1", "()Z"⟩
abbrev cJ5_inflateIfNeededFor_a7421 : ByteArray := prog_11_method_71_code
def yJ5_inflateIfNeededFor_a7421 : MethodName := ⟨RJ5, "inflateIfNeededFor", "(Ljava/lang/String;)V"⟩
abbrev cJ5_putStringAt_47b60 : ByteArray := prog_11_method_73_code
def yJ5_putStringAt_47b60 : MethodName := ⟨RJ5, "putStringAt", "(ILjava/lang/String;)V"⟩
def RJx8e188 : String := "java/lang/Cloneable"
def TJx8e188 : u_T := fun k => match k with
  | _ => ("", "", "", false)
def tyJx8e188 : Nat → FieldType := fun k => match k with
  | _ => .int
abbrev wsJx8e1880 : List Cond := u_ws RJx8e188 TJx8e188 0
theorem nmJx8e188 : ∀ a, a < 0 → ∀ b, b < 0 → a ≠ b → (TJx8e188 a).2.1 ≠ (TJx8e188 b).2.1 := by decide +kernel
theorem tyJx8e188_ok : ∀ k, k < 0 → parseFieldDescriptor (TJx8e188 k).2.2.1 = some (tyJx8e188 k) := by decide +kernel
def RJ6 : String := "java/lang/Integer"
def TJ6 : u_T := fun k => match k with
  | _ => ("", "", "", false)
def tyJ6 : Nat → FieldType := fun k => match k with
  | _ => .int
abbrev wsJ60 : List Cond := u_ws RJ6 TJ6 0
theorem nmJ6 : ∀ a, a < 0 → ∀ b, b < 0 → a ≠ b → (TJ6 a).2.1 ≠ (TJ6 b).2.1 := by decide +kernel
theorem tyJ6_ok : ∀ k, k < 0 → parseFieldDescriptor (TJ6 k).2.2.1 = some (tyJ6 k) := by decide +kernel
abbrev cJ6_getChars_ba4f3 : ByteArray := prog_13_method_12_code
def yJ6_getChars_ba4f3 : MethodName := ⟨RJ6, "getChars", "(II[B)I"⟩
abbrev cJ6_stringSize_0f7a4 : ByteArray := prog_13_method_13_code
def yJ6_stringSize_0f7a4 : MethodName := ⟨RJ6, "stringSize", "(I)I"⟩
abbrev cJ6_bitCount_0f7a4 : ByteArray := prog_13_method_49_code
def yJ6_bitCount_0f7a4 : MethodName := ⟨RJ6, "bitCount", "(I)I"⟩
def RJ9 : String := "java/lang/Math"
def TJ9 : u_T := fun k => match k with
  | _ => ("", "", "", false)
def tyJ9 : Nat → FieldType := fun k => match k with
  | _ => .int
abbrev wsJ90 : List Cond := u_ws RJ9 TJ9 0
theorem nmJ9 : ∀ a, a < 0 → ∀ b, b < 0 → a ≠ b → (TJ9 a).2.1 ≠ (TJ9 b).2.1 := by decide +kernel
theorem tyJ9_ok : ∀ k, k < 0 → parseFieldDescriptor (TJ9 k).2.2.1 = some (tyJ9 k) := by decide +kernel
abbrev cJ9_max_7cf53 : ByteArray := prog_14_method_65_code
def yJ9_max_7cf53 : MethodName := ⟨RJ9, "max", "(II)I"⟩
abbrev cJ9_min_7cf53 : ByteArray := prog_14_method_69_code
def yJ9_min_7cf53 : MethodName := ⟨RJ9, "min", "(II)I"⟩
def RJ0 : String := "java/lang/String"
def TJ0 : u_T := fun k => match k with
  | 0 => ("java/lang/String", "value", "[B", true)
  | 1 => ("java/lang/String", "coder", "B", true)
  | 2 => ("java/lang/String", "hash", "I", false)
  | _ => ("java/lang/String", "hashIsZero", "Z", false)
def tyJ0 : Nat → FieldType := fun k => match k with
  | 0 => .array .byte
  | 1 => .byte
  | 2 => .int
  | _ => .boolean
abbrev wsJ00 : List Cond := u_ws RJ0 TJ0 4
theorem nmJ0 : ∀ a, a < 4 → ∀ b, b < 4 → a ≠ b → (TJ0 a).2.1 ≠ (TJ0 b).2.1 := by decide +kernel
theorem tyJ0_ok : ∀ k, k < 4 → parseFieldDescriptor (TJ0 k).2.2.1 = some (tyJ0 k) := by decide +kernel
abbrev cJ0_init_81219 : ByteArray := prog_15_method_53_code
def yJ0_init_81219 : MethodName := ⟨RJ0, "<init>", "(Ljava/lang/StringBuilder;)V"⟩
abbrev cJ0_length_8abf5 : ByteArray := prog_15_method_54_code
def yJ0_length_8abf5 : MethodName := ⟨RJ0, "length", "()I"⟩
abbrev cJ0_charAt_5068e : ByteArray := prog_15_method_56_code
def yJ0_charAt_5068e : MethodName := ⟨RJ0, "charAt", "(I)C"⟩
abbrev cJ0_getBytes_840e7 : ByteArray := prog_15_method_147_code
def yJ0_getBytes_840e7 : MethodName := ⟨RJ0, "getBytes", "([BIB)V"⟩
abbrev cJ0_init_db425 : ByteArray := prog_15_method_150_code
def yJ0_init_db425 : MethodName := ⟨RJ0, "<init>", "(Ljava/lang/AbstractStringBuilder;Ljava/lang/Void;)V"⟩
abbrev cJ0_coder_7d493 : ByteArray := prog_15_method_152_code
def yJ0_coder_7d493 : MethodName := ⟨RJ0, "coder", "()B"⟩
abbrev cJ0_isLatin1_aae02 : ByteArray := prog_15_method_154_code
def yJ0_isLatin1_aae02 : MethodName := ⟨RJ0, "isLatin1", "()Z"⟩
abbrev cJ0_checkIndex_df160 : ByteArray := prog_15_method_155_code
def yJ0_checkIndex_df160 : MethodName := ⟨RJ0, "checkIndex", "(II)V"⟩
abbrev cJ0_checkBoundsOffCount_cabcc : ByteArray := prog_15_method_157_code
def yJ0_checkBoundsOffCount_cabcc : MethodName := ⟨RJ0, "checkBoundsOffCount", "(III)I"⟩
abbrev cJ0_checkBoundsBeginEnd_23922 : ByteArray := prog_15_method_158_code
def yJ0_checkBoundsBeginEnd_23922 : MethodName := ⟨RJ0, "checkBoundsBeginEnd", "(III)V"⟩
def RJ4 : String := "java/lang/StringBuilder"
def TJ4 : u_T := fun k => match k with
  | 0 => ("java/lang/AbstractStringBuilder", "value", "[B", false)
  | 1 => ("java/lang/AbstractStringBuilder", "coder", "B", false)
  | 2 => ("java/lang/AbstractStringBuilder", "maybeLatin1", "Z", false)
  | _ => ("java/lang/AbstractStringBuilder", "count", "I", false)
def tyJ4 : Nat → FieldType := fun k => match k with
  | 0 => .array .byte
  | 1 => .byte
  | 2 => .boolean
  | _ => .int
abbrev wsJ40 : List Cond := u_ws RJ4 TJ4 4
theorem nmJ4 : ∀ a, a < 4 → ∀ b, b < 4 → a ≠ b → (TJ4 a).2.1 ≠ (TJ4 b).2.1 := by decide +kernel
theorem tyJ4_ok : ∀ k, k < 4 → parseFieldDescriptor (TJ4 k).2.2.1 = some (tyJ4 k) := by decide +kernel
abbrev cJ4_init_da8c8 : ByteArray := prog_16_method_1_code
def yJ4_init_da8c8 : MethodName := ⟨RJ4, "<init>", "()V"⟩
abbrev cJ4_append_15ec4 : ByteArray := prog_16_method_7_code
def yJ4_append_15ec4 : MethodName := ⟨RJ4, "append", "(Ljava/lang/String;)Ljava/lang/StringBuilder;"⟩
abbrev cJ4_append_cf468 : ByteArray := prog_16_method_14_code
def yJ4_append_cf468 : MethodName := ⟨RJ4, "append", "(C)Ljava/lang/StringBuilder;"⟩
abbrev cJ4_append_bf812 : ByteArray := prog_16_method_15_code
def yJ4_append_bf812 : MethodName := ⟨RJ4, "append", "(I)Ljava/lang/StringBuilder;"⟩
abbrev cJ4_toString_0e30d : ByteArray := prog_16_method_42_code
def yJ4_toString_0e30d : MethodName := ⟨RJ4, "toString", "()Ljava/lang/String;"⟩
abbrev cJ4_charAt_5068e : ByteArray := prog_16_method_88_code
def yJ4_charAt_5068e : MethodName := ⟨RJ4, "charAt", "(I)C"⟩
abbrev cJ4_setLength_d00df : ByteArray := prog_16_method_89_code
def yJ4_setLength_d00df : MethodName := ⟨RJ4, "setLength", "(I)V"⟩
abbrev cJ4_length_8abf5 : ByteArray := prog_16_method_93_code
def yJ4_length_8abf5 : MethodName := ⟨RJ4, "length", "()I"⟩
def RJ1 : String := "java/lang/StringLatin1"
def TJ1 : u_T := fun k => match k with
  | _ => ("", "", "", false)
def tyJ1 : Nat → FieldType := fun k => match k with
  | _ => .int
abbrev wsJ10 : List Cond := u_ws RJ1 TJ1 0
theorem nmJ1 : ∀ a, a < 0 → ∀ b, b < 0 → a ≠ b → (TJ1 a).2.1 ≠ (TJ1 b).2.1 := by decide +kernel
theorem tyJ1_ok : ∀ k, k < 0 → parseFieldDescriptor (TJ1 k).2.2.1 = some (tyJ1 k) := by decide +kernel
abbrev cJ1_charAt_3b067 : ByteArray := prog_17_method_2_code
def yJ1_charAt_3b067 : MethodName := ⟨RJ1, "charAt", "([BI)C"⟩
abbrev cJ1_canEncode_fc78d : ByteArray := prog_17_method_3_code
def yJ1_canEncode_fc78d : MethodName := ⟨RJ1, "canEncode", "(C)Z"⟩
abbrev cJ1_fillNull_b72d1 : ByteArray := prog_17_method_48_code
def yJ1_fillNull_b72d1 : MethodName := ⟨RJ1, "fillNull", "([BII)V"⟩
abbrev cJ1_inflate_0e8fd : ByteArray := prog_17_method_50_code
def yJ1_inflate_0e8fd : MethodName := ⟨RJ1, "inflate", "([BI[BII)V"⟩
def RJ2 : String := "java/lang/StringUTF16"
def TJ2 : u_T := fun k => match k with
  | _ => ("", "", "", false)
def tyJ2 : Nat → FieldType := fun k => match k with
  | _ => .int
abbrev wsJ20 : List Cond := u_ws RJ2 TJ2 0
theorem nmJ2 : ∀ a, a < 0 → ∀ b, b < 0 → a ≠ b → (TJ2 a).2.1 ≠ (TJ2 b).2.1 := by decide +kernel
theorem tyJ2_ok : ∀ k, k < 0 → parseFieldDescriptor (TJ2 k).2.2.1 = some (tyJ2 k) := by decide +kernel
abbrev cJ2_newBytesFor_77867 : ByteArray := prog_18_method_2_code
def yJ2_newBytesFor_77867 : MethodName := ⟨RJ2, "newBytesFor", "(I)[B"⟩
abbrev cJ2_newBytesLength_0f7a4 : ByteArray := prog_18_method_3_code
def yJ2_newBytesLength_0f7a4 : MethodName := ⟨RJ2, "newBytesLength", "(I)I"⟩
abbrev cJ2_putChar_b72d1 : ByteArray := prog_18_method_4_code
def yJ2_putChar_b72d1 : MethodName := ⟨RJ2, "putChar", "([BII)V"⟩
abbrev cJ2_getChar_3b067 : ByteArray := prog_18_method_5_code
def yJ2_getChar_3b067 : MethodName := ⟨RJ2, "getChar", "([BI)C"⟩
abbrev cJ2_length_9d52b : ByteArray := prog_18_method_6_code
def yJ2_length_9d52b : MethodName := ⟨RJ2, "length", "([B)I"⟩
abbrev cJ2_coderFromArrayLen_85cad : ByteArray := prog_18_method_15_code
def yJ2_coderFromArrayLen_85cad : MethodName := ⟨RJ2, "coderFromArrayLen", "([BI)B"⟩
abbrev cJ2_compress_39247 : ByteArray := prog_18_method_17_code
def yJ2_compress_39247 : MethodName := ⟨RJ2, "compress", "([BII)[B"⟩
abbrev cJ2_compress_5af95 : ByteArray := prog_18_method_22_code
def yJ2_compress_5af95 : MethodName := ⟨RJ2, "compress", "([BI[BII)I"⟩
abbrev cJ2_fillNull_b72d1 : ByteArray := prog_18_method_70_code
def yJ2_fillNull_b72d1 : MethodName := ⟨RJ2, "fillNull", "([BII)V"⟩
abbrev cJ2_putCharSB_b72d1 : ByteArray := prog_18_method_71_code
def yJ2_putCharSB_b72d1 : MethodName := ⟨RJ2, "putCharSB", "([BII)V"⟩
abbrev cJ2_getChars_46870 : ByteArray := prog_18_method_77_code
def yJ2_getChars_46870 : MethodName := ⟨RJ2, "getChars", "(III[B)I"⟩
abbrev cJ2_putCharsAt_cd4e5 : ByteArray := prog_18_method_81_code
def yJ2_putCharsAt_cd4e5 : MethodName := ⟨RJ2, "putCharsAt", "([BICCCC)I"⟩
abbrev cJ2_charAt_3b067 : ByteArray := prog_18_method_83_code
def yJ2_charAt_3b067 : MethodName := ⟨RJ2, "charAt", "([BI)C"⟩
abbrev cJ2_inflate_0e8fd : ByteArray := prog_18_method_86_code
def yJ2_inflate_0e8fd : MethodName := ⟨RJ2, "inflate", "([BI[BII)V"⟩
abbrev cJ2_getChars_ba4f3 : ByteArray := prog_18_method_89_code
def yJ2_getChars_ba4f3 : MethodName := ⟨RJ2, "getChars", "(II[B)I"⟩
abbrev cJ2_checkIndex_2214a : ByteArray := prog_18_method_91_code
def yJ2_checkIndex_2214a : MethodName := ⟨RJ2, "checkIndex", "(I[B)V"⟩
abbrev cJ2_checkBoundsBeginEnd_d044e : ByteArray := prog_18_method_93_code
def yJ2_checkBoundsBeginEnd_d044e : MethodName := ⟨RJ2, "checkBoundsBeginEnd", "(II[B)V"⟩
abbrev cJ2_checkBoundsOffCount_d044e : ByteArray := prog_18_method_94_code
def yJ2_checkBoundsOffCount_d044e : MethodName := ⟨RJ2, "checkBoundsOffCount", "(II[B)V"⟩
def RJ10 : String := "java/lang/System"
def TJ10 : u_T := fun k => match k with
  | _ => ("", "", "", false)
def tyJ10 : Nat → FieldType := fun k => match k with
  | _ => .int
abbrev wsJ100 : List Cond := u_ws RJ10 TJ10 0
theorem nmJ10 : ∀ a, a < 0 → ∀ b, b < 0 → a ≠ b → (TJ10 a).2.1 ≠ (TJ10 b).2.1 := by decide +kernel
theorem tyJ10_ok : ∀ k, k < 0 → parseFieldDescriptor (TJ10 k).2.2.1 = some (tyJ10 k) := by decide +kernel
def RJ7 : String := "java/util/Arrays"
def TJ7 : u_T := fun k => match k with
  | _ => ("", "", "", false)
def tyJ7 : Nat → FieldType := fun k => match k with
  | _ => .int
abbrev wsJ70 : List Cond := u_ws RJ7 TJ7 0
theorem nmJ7 : ∀ a, a < 0 → ∀ b, b < 0 → a ≠ b → (TJ7 a).2.1 ≠ (TJ7 b).2.1 := by decide +kernel
theorem tyJ7_ok : ∀ k, k < 0 → parseFieldDescriptor (TJ7 k).2.2.1 = some (tyJ7 k) := by decide +kernel
abbrev cJ7_rangeCheck_23922 : ByteArray := prog_20_method_30_code
def yJ7_rangeCheck_23922 : MethodName := ⟨RJ7, "rangeCheck", "(III)V"⟩
abbrev cJ7_fill_eb02e : ByteArray := prog_20_method_110_code
def yJ7_fill_eb02e : MethodName := ⟨RJ7, "fill", "([BIIB)V"⟩
abbrev cJ7_copyOf_9075b : ByteArray := prog_20_method_121_code
def yJ7_copyOf_9075b : MethodName := ⟨RJ7, "copyOf", "([BI)[B"⟩
abbrev cJ7_checkLength_df160 : ByteArray := prog_20_method_131_code
def yJ7_checkLength_df160 : MethodName := ⟨RJ7, "checkLength", "(II)V"⟩
abbrev cJ7_copyOfRange_39247 : ByteArray := prog_20_method_132_code
def yJ7_copyOfRange_39247 : MethodName := ⟨RJ7, "copyOfRange", "([BII)[B"⟩
abbrev cJ7_copyOfRangeByte_39247 : ByteArray := prog_20_method_133_code
def yJ7_copyOfRangeByte_39247 : MethodName := ⟨RJ7, "copyOfRangeByte", "([BII)[B"⟩
def RJ8 : String := "jdk/internal/util/ArraysSupport"
def TJ8 : u_T := fun k => match k with
  | _ => ("", "", "", false)
def tyJ8 : Nat → FieldType := fun k => match k with
  | _ => .int
abbrev wsJ80 : List Cond := u_ws RJ8 TJ8 0
theorem nmJ8 : ∀ a, a < 0 → ∀ b, b < 0 → a ≠ b → (TJ8 a).2.1 ≠ (TJ8 b).2.1 := by decide +kernel
theorem tyJ8_ok : ∀ k, k < 0 → parseFieldDescriptor (TJ8 k).2.2.1 = some (tyJ8 k) := by decide +kernel
abbrev cJ8_newLength_cabcc : ByteArray := prog_21_method_27_code
def yJ8_newLength_cabcc : MethodName := ⟨RJ8, "newLength", "(III)I"⟩
abbrev cJ8_hugeLength_7cf53 : ByteArray := prog_21_method_28_code
def yJ8_hugeLength_7cf53 : MethodName := ⟨RJ8, "hugeLength", "(II)I"⟩
def RJ3 : String := "jdk/internal/util/Preconditions"
def TJ3 : u_T := fun k => match k with
  | _ => ("", "", "", false)
def tyJ3 : Nat → FieldType := fun k => match k with
  | _ => .int
abbrev wsJ30 : List Cond := u_ws RJ3 TJ3 0
theorem nmJ3 : ∀ a, a < 0 → ∀ b, b < 0 → a ≠ b → (TJ3 a).2.1 ≠ (TJ3 b).2.1 := by decide +kernel
theorem tyJ3_ok : ∀ k, k < 0 → parseFieldDescriptor (TJ3 k).2.2.1 = some (tyJ3 k) := by decide +kernel
abbrev cJ3_checkIndex_8e157 : ByteArray := prog_22_method_11_code
def yJ3_checkIndex_8e157 : MethodName := ⟨RJ3, "checkIndex", "(IILjava/util/function/BiFunction;)I"⟩
abbrev cJ3_checkFromToIndex_8c36e : ByteArray := prog_22_method_12_code
def yJ3_checkFromToIndex_8c36e : MethodName := ⟨RJ3, "checkFromToIndex", "(IIILjava/util/function/BiFunction;)I"⟩
abbrev cJ3_checkFromIndexSize_8c36e : ByteArray := prog_22_method_13_code
def yJ3_checkFromIndexSize_8c36e : MethodName := ⟨RJ3, "checkFromIndexSize", "(IIILjava/util/function/BiFunction;)I"⟩
def RL : String := "TrickHouseLaw"
abbrev cL_law : ByteArray := code
def yL_law : MethodName := ⟨RL, "law", "([I)Z"⟩
abbrev vwCl : List vw_C := [(RJ0, TJ0, 4), (RJ4, TJ4, 4), (RX0, TX0, 5), (RX1, TX1, 8), (RX2, TX2, 12), (RX3, TX3, 6), (RX4, TX4, 3), (RX5, TX5, 7), (RX6, TX6, 7), (RX7, TX7, 8), (RX8, TX8, 47)]
end
section
/-! ===== THE TABLES' WORDS THAT EVERY METHOD TAKES ===== -/
def mGW : List Cond := lw_tbl.filter goodWord
theorem mGW_good : ∀ w ∈ mGW, w ∈ lw_tbl ∧ ((w.onTables && w.keeps) = true ∨ ∃ ty, w = .arrayClass ty) := fun w h => by
  obtain ⟨h1, h2⟩ := List.mem_filter.mp h
  exact ⟨h1, good_of_word h2⟩
theorem mIn {w : Cond} (i : Nat) (h : tables_1[i]? = some w) (hg : goodWord w = true) : w ∈ mGW :=
  List.mem_filter.mpr ⟨List.mem_append_right _ (List.mem_of_getElem? h), hg⟩
theorem mInS {w : Cond} (i : Nat) (h : (k2_sels lw_privs)[i]? = some w) (hg : goodWord w = true) : w ∈ mGW :=
  List.mem_filter.mpr ⟨List.mem_append_left _ (List.mem_of_getElem? h), hg⟩
theorem mInN {w : Cond} (i : Nat) (h : tables_1[i]? = some w) : w ∈ lw_tbl := List.mem_append_right _ (List.mem_of_getElem? h)
theorem mSub {ws : List Cond} (ps : List Nat) (hp : ws = ps.filterMap (fun i => tables_1[i]?)) (h : ws.all goodWord = true) : ∀ w ∈ ws, w ∈ mGW := by
  intro w hw
  have h1 := List.all_eq_true.mp h w hw
  rw [hp] at hw
  obtain ⟨i, -, hi⟩ := List.mem_filterMap.mp hw
  exact mIn i hi h1
def mFldE (own : String) (e : Nat × Nat × Nat × Nat) : Prop := ∃ (C : String) (T : u_T) (N : Nat) (ty : Nat → FieldType),
  vwCl[e.2.1]? = some (C, T, N) ∧ e.2.2.1 < N ∧ Cond.fieldLink own e.1 (T e.2.2.1).1 (T e.2.2.1).2.1 (T e.2.2.1).2.2.1 ∈ mGW ∧ (∀ w ∈ u_ws C T N, w ∈ mGW) ∧ (∀ j, j < N → parseFieldDescriptor (T j).2.2.1 = some (ty j)) ∧
  (∀ a, a < N → ∀ b, b < N → a ≠ b → (T a).2.1 ≠ (T b).2.1) ∧ (e.2.2.2 = 2 ∨ (T e.2.2.1).2.2.2 = false) ∧ (e.2.2.2 = 0 → ty e.2.2.1 = .int) ∧ (e.2.2.2 = 1 → ty e.2.2.1 = .boolean) ∧ (e.2.2.2 = 3 → ty e.2.2.1 = .byte)
end
section
/-! ===== WHERE THE WORDS STAND IN THE TABLES (by program) ===== -/
theorem wn_RX0 : Cond.initialized RX0 ∈ mGW := mIn 3 (by decide +kernel) rfl
theorem wn_RX1 : Cond.initialized RX1 ∈ mGW := mIn 5 (by decide +kernel) rfl
theorem wn_RX2 : Cond.initialized RX2 ∈ mGW := mIn 6 (by decide +kernel) rfl
theorem wn_RX3 : Cond.initialized RX3 ∈ mGW := mIn 7 (by decide +kernel) rfl
theorem wn_RX4 : Cond.initialized RX4 ∈ mGW := mIn 12 (by decide +kernel) rfl
theorem wn_RX5 : Cond.initialized RX5 ∈ mGW := mIn 4 (by decide +kernel) rfl
theorem wn_RX6 : Cond.initialized RX6 ∈ mGW := mIn 2 (by decide +kernel) rfl
theorem wn_RX7 : Cond.initialized RX7 ∈ mGW := mIn 1 (by decide +kernel) rfl
theorem wn_RX8 : Cond.initialized RX8 ∈ mGW := mIn 13 (by decide +kernel) rfl
theorem wn_RJ5 : Cond.initialized RJ5 ∈ mGW := mIn 8 (by decide +kernel) rfl
theorem wn_RJ6 : Cond.initialized RJ6 ∈ mGW := mIn 18 (by decide +kernel) rfl
theorem wn_RJ9 : Cond.initialized RJ9 ∈ mGW := mIn 16 (by decide +kernel) rfl
theorem wn_RJ0 : Cond.initialized RJ0 ∈ mGW := mIn 10 (by decide +kernel) rfl
theorem wn_RJ4 : Cond.initialized RJ4 ∈ mGW := mIn 9 (by decide +kernel) rfl
theorem wn_RJ1 : Cond.initialized RJ1 ∈ mGW := mIn 14 (by decide +kernel) rfl
theorem wn_RJ2 : Cond.initialized RJ2 ∈ mGW := mIn 11 (by decide +kernel) rfl
theorem wn_RJ10 : Cond.initialized RJ10 ∈ mGW := mIn 17 (by decide +kernel) rfl
theorem wn_RJ7 : Cond.initialized RJ7 ∈ mGW := mIn 20 (by decide +kernel) rfl
theorem wn_RJ8 : Cond.initialized RJ8 ∈ mGW := mIn 19 (by decide +kernel) rfl
theorem wn_RJ3 : Cond.initialized RJ3 ∈ mGW := mIn 15 (by decide +kernel) rfl
theorem wn_RL : Cond.initialized RL ∈ mGW := mIn 0 (by decide +kernel) rfl
theorem wc_X0_init : Cond.code yX0_init cX0_init 1 (none) ∈ mGW := mIn 67 (by decide +kernel) rfl
theorem wi_X0_init : Cond.instanceMethod yX0_init ∈ mGW := mIn 66 (by decide +kernel) rfl
theorem wd_X0_init : yX0_init.cls ≠ "java/lang/invoke/MethodHandle" ∧ yX0_init.cls ≠ "java/lang/invoke/VarHandle" ∧ (parseMethodDescriptor yX0_init.desc).map (fun d => d.parameters.length) = some 0 := by decide +kernel
theorem wc_X0_add : Cond.code yX0_add cX0_add 5 (none) ∈ mGW := mIn 594 (by decide +kernel) rfl
theorem wi_X0_add : Cond.instanceMethod yX0_add ∈ mGW := mIn 592 (by decide +kernel) rfl
theorem wl_X0_add : Cond.selects RX0 yX0_add yX0_add ∈ mGW := mIn 593 (by decide +kernel) rfl
theorem wd_X0_add : yX0_add.cls ≠ "java/lang/invoke/MethodHandle" ∧ yX0_add.cls ≠ "java/lang/invoke/VarHandle" ∧ (parseMethodDescriptor yX0_add.desc).map (fun d => d.parameters.length) = some 4 := by decide +kernel
theorem wc_X0_become : Cond.code yX0_become cX0_become 2 (none) ∈ mGW := mIn 996 (by decide +kernel) rfl
theorem wi_X0_become : Cond.instanceMethod yX0_become ∈ mGW := mIn 994 (by decide +kernel) rfl
theorem wl_X0_become : Cond.selects RX0 yX0_become yX0_become ∈ mGW := mIn 995 (by decide +kernel) rfl
theorem wd_X0_become : yX0_become.cls ≠ "java/lang/invoke/MethodHandle" ∧ yX0_become.cls ≠ "java/lang/invoke/VarHandle" ∧ (parseMethodDescriptor yX0_become.desc).map (fun d => d.parameters.length) = some 1 := by decide +kernel
theorem wc_X1_init : Cond.code yX1_init cX1_init 1 (none) ∈ mGW := mIn 100 (by decide +kernel) rfl
theorem wi_X1_init : Cond.instanceMethod yX1_init ∈ mGW := mIn 99 (by decide +kernel) rfl
theorem wd_X1_init : yX1_init.cls ≠ "java/lang/invoke/MethodHandle" ∧ yX1_init.cls ≠ "java/lang/invoke/VarHandle" ∧ (parseMethodDescriptor yX1_init.desc).map (fun d => d.parameters.length) = some 0 := by decide +kernel
theorem wc_X1_begin : Cond.code yX1_begin cX1_begin 2 (none) ∈ mGW := mIn 231 (by decide +kernel) rfl
theorem wi_X1_begin : Cond.instanceMethod yX1_begin ∈ mGW := mIn 229 (by decide +kernel) rfl
theorem wl_X1_begin : Cond.selects RX1 yX1_begin yX1_begin ∈ mGW := mIn 230 (by decide +kernel) rfl
theorem wd_X1_begin : yX1_begin.cls ≠ "java/lang/invoke/MethodHandle" ∧ yX1_begin.cls ≠ "java/lang/invoke/VarHandle" ∧ (parseMethodDescriptor yX1_begin.desc).map (fun d => d.parameters.length) = some 1 := by decide +kernel
theorem wc_X1_isAbove : Cond.code yX1_isAbove cX1_isAbove 3 (some .boolean) ∈ mGW := mIn 512 (by decide +kernel) rfl
theorem wi_X1_isAbove : Cond.instanceMethod yX1_isAbove ∈ mGW := mIn 510 (by decide +kernel) rfl
theorem wl_X1_isAbove : Cond.selects RX1 yX1_isAbove yX1_isAbove ∈ mGW := mIn 511 (by decide +kernel) rfl
theorem wd_X1_isAbove : yX1_isAbove.cls ≠ "java/lang/invoke/MethodHandle" ∧ yX1_isAbove.cls ≠ "java/lang/invoke/VarHandle" ∧ (parseMethodDescriptor yX1_isAbove.desc).map (fun d => d.parameters.length) = some 2 := by decide +kernel
theorem wc_X1_mayDouble : Cond.code yX1_mayDouble cX1_mayDouble 1 (some .boolean) ∈ mGW := mIn 485 (by decide +kernel) rfl
theorem wi_X1_mayDouble : Cond.instanceMethod yX1_mayDouble ∈ mGW := mIn 483 (by decide +kernel) rfl
theorem wl_X1_mayDouble : Cond.selects RX1 yX1_mayDouble yX1_mayDouble ∈ mGW := mIn 484 (by decide +kernel) rfl
theorem wd_X1_mayDouble : yX1_mayDouble.cls ≠ "java/lang/invoke/MethodHandle" ∧ yX1_mayDouble.cls ≠ "java/lang/invoke/VarHandle" ∧ (parseMethodDescriptor yX1_mayDouble.desc).map (fun d => d.parameters.length) = some 0 := by decide +kernel
theorem wc_X1_mayRedouble : Cond.code yX1_mayRedouble cX1_mayRedouble 1 (some .boolean) ∈ mGW := mIn 489 (by decide +kernel) rfl
theorem wi_X1_mayRedouble : Cond.instanceMethod yX1_mayRedouble ∈ mGW := mIn 487 (by decide +kernel) rfl
theorem wl_X1_mayRedouble : Cond.selects RX1 yX1_mayRedouble yX1_mayRedouble ∈ mGW := mIn 488 (by decide +kernel) rfl
theorem wd_X1_mayRedouble : yX1_mayRedouble.cls ≠ "java/lang/invoke/MethodHandle" ∧ yX1_mayRedouble.cls ≠ "java/lang/invoke/VarHandle" ∧ (parseMethodDescriptor yX1_mayRedouble.desc).map (fun d => d.parameters.length) = some 0 := by decide +kernel
theorem wc_X1_bid : Cond.code yX1_bid cX1_bid 4 (none) ∈ mGW := mIn 616 (by decide +kernel) rfl
theorem wi_X1_bid : Cond.instanceMethod yX1_bid ∈ mGW := mIn 614 (by decide +kernel) rfl
theorem wl_X1_bid : Cond.selects RX1 yX1_bid yX1_bid ∈ mGW := mIn 615 (by decide +kernel) rfl
theorem wd_X1_bid : yX1_bid.cls ≠ "java/lang/invoke/MethodHandle" ∧ yX1_bid.cls ≠ "java/lang/invoke/VarHandle" ∧ (parseMethodDescriptor yX1_bid.desc).map (fun d => d.parameters.length) = some 2 := by decide +kernel
theorem wc_X1_redoubleOrDouble : Cond.code yX1_redoubleOrDouble cX1_redoubleOrDouble 1 (none) ∈ mGW := mIn 643 (by decide +kernel) rfl
theorem wi_X1_redoubleOrDouble : Cond.instanceMethod yX1_redoubleOrDouble ∈ mGW := mIn 641 (by decide +kernel) rfl
theorem wl_X1_redoubleOrDouble : Cond.selects RX1 yX1_redoubleOrDouble yX1_redoubleOrDouble ∈ mGW := mIn 642 (by decide +kernel) rfl
theorem wd_X1_redoubleOrDouble : yX1_redoubleOrDouble.cls ≠ "java/lang/invoke/MethodHandle" ∧ yX1_redoubleOrDouble.cls ≠ "java/lang/invoke/VarHandle" ∧ (parseMethodDescriptor yX1_redoubleOrDouble.desc).map (fun d => d.parameters.length) = some 0 := by decide +kernel
theorem wc_X1_pass : Cond.code yX1_pass cX1_pass 1 (none) ∈ mGW := mIn 626 (by decide +kernel) rfl
theorem wi_X1_pass : Cond.instanceMethod yX1_pass ∈ mGW := mIn 624 (by decide +kernel) rfl
theorem wl_X1_pass : Cond.selects RX1 yX1_pass yX1_pass ∈ mGW := mIn 625 (by decide +kernel) rfl
theorem wd_X1_pass : yX1_pass.cls ≠ "java/lang/invoke/MethodHandle" ∧ yX1_pass.cls ≠ "java/lang/invoke/VarHandle" ∧ (parseMethodDescriptor yX1_pass.desc).map (fun d => d.parameters.length) = some 0 := by decide +kernel
theorem wc_X1_hasContract : Cond.code yX1_hasContract cX1_hasContract 1 (some .boolean) ∈ mGW := mIn 630 (by decide +kernel) rfl
theorem wi_X1_hasContract : Cond.instanceMethod yX1_hasContract ∈ mGW := mIn 628 (by decide +kernel) rfl
theorem wl_X1_hasContract : Cond.selects RX1 yX1_hasContract yX1_hasContract ∈ mGW := mIn 629 (by decide +kernel) rfl
theorem wd_X1_hasContract : yX1_hasContract.cls ≠ "java/lang/invoke/MethodHandle" ∧ yX1_hasContract.cls ≠ "java/lang/invoke/VarHandle" ∧ (parseMethodDescriptor yX1_hasContract.desc).map (fun d => d.parameters.length) = some 0 := by decide +kernel
theorem wc_X1_nameDeclarer : Cond.code yX1_nameDeclarer cX1_nameDeclarer 1 (none) ∈ mGW := mIn 634 (by decide +kernel) rfl
theorem wi_X1_nameDeclarer : Cond.instanceMethod yX1_nameDeclarer ∈ mGW := mIn 632 (by decide +kernel) rfl
theorem wl_X1_nameDeclarer : Cond.selects RX1 yX1_nameDeclarer yX1_nameDeclarer ∈ mGW := mIn 633 (by decide +kernel) rfl
theorem wd_X1_nameDeclarer : yX1_nameDeclarer.cls ≠ "java/lang/invoke/MethodHandle" ∧ yX1_nameDeclarer.cls ≠ "java/lang/invoke/VarHandle" ∧ (parseMethodDescriptor yX1_nameDeclarer.desc).map (fun d => d.parameters.length) = some 0 := by decide +kernel
theorem wc_X2_init : Cond.code yX2_init cX2_init 1 (none) ∈ mGW := mIn 145 (by decide +kernel) rfl
theorem wi_X2_init : Cond.instanceMethod yX2_init ∈ mGW := mIn 144 (by decide +kernel) rfl
theorem wd_X2_init : yX2_init.cls ≠ "java/lang/invoke/MethodHandle" ∧ yX2_init.cls ≠ "java/lang/invoke/VarHandle" ∧ (parseMethodDescriptor yX2_init.desc).map (fun d => d.parameters.length) = some 0 := by decide +kernel
theorem wc_X2_clear : Cond.code yX2_clear cX2_clear 1 (none) ∈ mGW := mIn 238 (by decide +kernel) rfl
theorem wi_X2_clear : Cond.instanceMethod yX2_clear ∈ mGW := mIn 236 (by decide +kernel) rfl
theorem wl_X2_clear : Cond.selects RX2 yX2_clear yX2_clear ∈ mGW := mIn 237 (by decide +kernel) rfl
theorem wd_X2_clear : yX2_clear.cls ≠ "java/lang/invoke/MethodHandle" ∧ yX2_clear.cls ≠ "java/lang/invoke/VarHandle" ∧ (parseMethodDescriptor yX2_clear.desc).map (fun d => d.parameters.length) = some 0 := by decide +kernel
theorem wc_X2_dealOut : Cond.code yX2_dealOut cX2_dealOut 6 (none) ∈ mGW := mIn 607 (by decide +kernel) rfl
theorem wi_X2_dealOut : Cond.instanceMethod yX2_dealOut ∈ mGW := mIn 605 (by decide +kernel) rfl
theorem wl_X2_dealOut : Cond.selects RX2 yX2_dealOut yX2_dealOut ∈ mGW := mIn 606 (by decide +kernel) rfl
theorem wd_X2_dealOut : yX2_dealOut.cls ≠ "java/lang/invoke/MethodHandle" ∧ yX2_dealOut.cls ≠ "java/lang/invoke/VarHandle" ∧ (parseMethodDescriptor yX2_dealOut.desc).map (fun d => d.parameters.length) = some 1 := by decide +kernel
theorem wc_X2_begin : Cond.code yX2_begin cX2_begin 5 (none) ∈ mGW := mIn 243 (by decide +kernel) rfl
theorem wi_X2_begin : Cond.instanceMethod yX2_begin ∈ mGW := mIn 241 (by decide +kernel) rfl
theorem wl_X2_begin : Cond.selects RX2 yX2_begin yX2_begin ∈ mGW := mIn 242 (by decide +kernel) rfl
theorem wd_X2_begin : yX2_begin.cls ≠ "java/lang/invoke/MethodHandle" ∧ yX2_begin.cls ≠ "java/lang/invoke/VarHandle" ∧ (parseMethodDescriptor yX2_begin.desc).map (fun d => d.parameters.length) = some 4 := by decide +kernel
theorem wc_X2_become : Cond.code yX2_become cX2_become 2 (none) ∈ mGW := mIn 542 (by decide +kernel) rfl
theorem wi_X2_become : Cond.instanceMethod yX2_become ∈ mGW := mIn 540 (by decide +kernel) rfl
theorem wl_X2_become : Cond.selects RX2 yX2_become yX2_become ∈ mGW := mIn 541 (by decide +kernel) rfl
theorem wd_X2_become : yX2_become.cls ≠ "java/lang/invoke/MethodHandle" ∧ yX2_become.cls ≠ "java/lang/invoke/VarHandle" ∧ (parseMethodDescriptor yX2_become.desc).map (fun d => d.parameters.length) = some 1 := by decide +kernel
theorem wc_X2_full : Cond.code yX2_full cX2_full 1 (some .int) ∈ mGW := mIn 501 (by decide +kernel) rfl
theorem wi_X2_full : Cond.instanceMethod yX2_full ∈ mGW := mIn 499 (by decide +kernel) rfl
theorem wl_X2_full : Cond.selects RX2 yX2_full yX2_full ∈ mGW := mIn 500 (by decide +kernel) rfl
theorem wd_X2_full : yX2_full.cls ≠ "java/lang/invoke/MethodHandle" ∧ yX2_full.cls ≠ "java/lang/invoke/VarHandle" ∧ (parseMethodDescriptor yX2_full.desc).map (fun d => d.parameters.length) = some 0 := by decide +kernel
theorem wc_X2_left : Cond.code yX2_left cX2_left 1 (some .int) ∈ mGW := mIn 497 (by decide +kernel) rfl
theorem wi_X2_left : Cond.instanceMethod yX2_left ∈ mGW := mIn 495 (by decide +kernel) rfl
theorem wl_X2_left : Cond.selects RX2 yX2_left yX2_left ∈ mGW := mIn 496 (by decide +kernel) rfl
theorem wd_X2_left : yX2_left.cls ≠ "java/lang/invoke/MethodHandle" ∧ yX2_left.cls ≠ "java/lang/invoke/VarHandle" ∧ (parseMethodDescriptor yX2_left.desc).map (fun d => d.parameters.length) = some 0 := by decide +kernel
theorem wc_X2_cardAt : Cond.code yX2_cardAt cX2_cardAt 2 (some .int) ∈ mGW := mIn 879 (by decide +kernel) rfl
theorem wi_X2_cardAt : Cond.instanceMethod yX2_cardAt ∈ mGW := mIn 877 (by decide +kernel) rfl
theorem wl_X2_cardAt : Cond.selects RX2 yX2_cardAt yX2_cardAt ∈ mGW := mIn 878 (by decide +kernel) rfl
theorem wd_X2_cardAt : yX2_cardAt.cls ≠ "java/lang/invoke/MethodHandle" ∧ yX2_cardAt.cls ≠ "java/lang/invoke/VarHandle" ∧ (parseMethodDescriptor yX2_cardAt.desc).map (fun d => d.parameters.length) = some 1 := by decide +kernel
theorem wc_X2_allowed : Cond.code yX2_allowed cX2_allowed 6 (some .int) ∈ mGW := mIn 516 (by decide +kernel) rfl
theorem wi_X2_allowed : Cond.instanceMethod yX2_allowed ∈ mGW := mIn 514 (by decide +kernel) rfl
theorem wl_X2_allowed : Cond.selects RX2 yX2_allowed yX2_allowed ∈ mGW := mIn 515 (by decide +kernel) rfl
theorem wd_X2_allowed : yX2_allowed.cls ≠ "java/lang/invoke/MethodHandle" ∧ yX2_allowed.cls ≠ "java/lang/invoke/VarHandle" ∧ (parseMethodDescriptor yX2_allowed.desc).map (fun d => d.parameters.length) = some 0 := by decide +kernel
theorem wc_X2_strongerTrumps : Cond.code yX2_strongerTrumps cX2_strongerTrumps 5 (some .int) ∈ mGW := mIn 524 (by decide +kernel) rfl
theorem wi_X2_strongerTrumps : Cond.instanceMethod yX2_strongerTrumps ∈ mGW := mIn 523 (by decide +kernel) rfl
theorem wl_X2_strongerTrumps : Cond.selects RX2 yX2_strongerTrumps yX2_strongerTrumps ∈ mGW := mInS 10 (by decide +kernel) rfl
theorem wd_X2_strongerTrumps : yX2_strongerTrumps.cls ≠ "java/lang/invoke/MethodHandle" ∧ yX2_strongerTrumps.cls ≠ "java/lang/invoke/VarHandle" ∧ (parseMethodDescriptor yX2_strongerTrumps.desc).map (fun d => d.parameters.length) = some 1 := by decide +kernel
theorem wc_X2_lay : Cond.code yX2_lay cX2_lay 4 (none) ∈ mGW := mIn 569 (by decide +kernel) rfl
theorem wi_X2_lay : Cond.instanceMethod yX2_lay ∈ mGW := mIn 567 (by decide +kernel) rfl
theorem wl_X2_lay : Cond.selects RX2 yX2_lay yX2_lay ∈ mGW := mIn 568 (by decide +kernel) rfl
theorem wd_X2_lay : yX2_lay.cls ≠ "java/lang/invoke/MethodHandle" ∧ yX2_lay.cls ≠ "java/lang/invoke/VarHandle" ∧ (parseMethodDescriptor yX2_lay.desc).map (fun d => d.parameters.length) = some 1 := by decide +kernel
theorem wc_X2_lift : Cond.code yX2_lift cX2_lift 1 (none) ∈ mGW := mIn 585 (by decide +kernel) rfl
theorem wi_X2_lift : Cond.instanceMethod yX2_lift ∈ mGW := mIn 583 (by decide +kernel) rfl
theorem wl_X2_lift : Cond.selects RX2 yX2_lift yX2_lift ∈ mGW := mIn 584 (by decide +kernel) rfl
theorem wd_X2_lift : yX2_lift.cls ≠ "java/lang/invoke/MethodHandle" ∧ yX2_lift.cls ≠ "java/lang/invoke/VarHandle" ∧ (parseMethodDescriptor yX2_lift.desc).map (fun d => d.parameters.length) = some 0 := by decide +kernel
theorem wc_X2_addWon : Cond.code yX2_addWon cX2_addWon 3 (none) ∈ mGW := mIn 581 (by decide +kernel) rfl
theorem wi_X2_addWon : Cond.instanceMethod yX2_addWon ∈ mGW := mIn 579 (by decide +kernel) rfl
theorem wl_X2_addWon : Cond.selects RX2 yX2_addWon yX2_addWon ∈ mGW := mIn 580 (by decide +kernel) rfl
theorem wd_X2_addWon : yX2_addWon.cls ≠ "java/lang/invoke/MethodHandle" ∧ yX2_addWon.cls ≠ "java/lang/invoke/VarHandle" ∧ (parseMethodDescriptor yX2_addWon.desc).map (fun d => d.parameters.length) = some 2 := by decide +kernel
theorem wc_X2_winnerOf : Cond.code yX2_winnerOf cX2_winnerOf 11 (some .int) ∈ mGW := mIn 577 (by decide +kernel) rfl
theorem wi_X2_winnerOf : Cond.instanceMethod yX2_winnerOf ∈ mGW := mIn 575 (by decide +kernel) rfl
theorem wl_X2_winnerOf : Cond.selects RX2 yX2_winnerOf yX2_winnerOf ∈ mGW := mIn 576 (by decide +kernel) rfl
theorem wd_X2_winnerOf : yX2_winnerOf.cls ≠ "java/lang/invoke/MethodHandle" ∧ yX2_winnerOf.cls ≠ "java/lang/invoke/VarHandle" ∧ (parseMethodDescriptor yX2_winnerOf.desc).map (fun d => d.parameters.length) = some 3 := by decide +kernel
theorem wc_X3_init : Cond.code yX3_init cX3_init 1 (none) ∈ mGW := mIn 198 (by decide +kernel) rfl
theorem wi_X3_init : Cond.instanceMethod yX3_init ∈ mGW := mIn 197 (by decide +kernel) rfl
theorem wd_X3_init : yX3_init.cls ≠ "java/lang/invoke/MethodHandle" ∧ yX3_init.cls ≠ "java/lang/invoke/VarHandle" ∧ (parseMethodDescriptor yX3_init.desc).map (fun d => d.parameters.length) = some 0 := by decide +kernel
theorem wc_X3_clear : Cond.code yX3_clear cX3_clear 1 (none) ∈ mGW := mIn 247 (by decide +kernel) rfl
theorem wi_X3_clear : Cond.instanceMethod yX3_clear ∈ mGW := mIn 245 (by decide +kernel) rfl
theorem wl_X3_clear : Cond.selects RX3 yX3_clear yX3_clear ∈ mGW := mIn 246 (by decide +kernel) rfl
theorem wd_X3_clear : yX3_clear.cls ≠ "java/lang/invoke/MethodHandle" ∧ yX3_clear.cls ≠ "java/lang/invoke/VarHandle" ∧ (parseMethodDescriptor yX3_clear.desc).map (fun d => d.parameters.length) = some 0 := by decide +kernel
theorem wc_X3_settle : Cond.code yX3_settle cX3_settle 5 (none) ∈ mGW := mIn 653 (by decide +kernel) rfl
theorem wi_X3_settle : Cond.instanceMethod yX3_settle ∈ mGW := mIn 651 (by decide +kernel) rfl
theorem wl_X3_settle : Cond.selects RX3 yX3_settle yX3_settle ∈ mGW := mIn 652 (by decide +kernel) rfl
theorem wd_X3_settle : yX3_settle.cls ≠ "java/lang/invoke/MethodHandle" ∧ yX3_settle.cls ≠ "java/lang/invoke/VarHandle" ∧ (parseMethodDescriptor yX3_settle.desc).map (fun d => d.parameters.length) = some 2 := by decide +kernel
theorem wc_X3_totalOf : Cond.code yX3_totalOf cX3_totalOf 3 (some .int) ∈ mGW := mIn 909 (by decide +kernel) rfl
theorem wi_X3_totalOf : Cond.instanceMethod yX3_totalOf ∈ mGW := mIn 907 (by decide +kernel) rfl
theorem wl_X3_totalOf : Cond.selects RX3 yX3_totalOf yX3_totalOf ∈ mGW := mIn 908 (by decide +kernel) rfl
theorem wd_X3_totalOf : yX3_totalOf.cls ≠ "java/lang/invoke/MethodHandle" ∧ yX3_totalOf.cls ≠ "java/lang/invoke/VarHandle" ∧ (parseMethodDescriptor yX3_totalOf.desc).map (fun d => d.parameters.length) = some 2 := by decide +kernel
theorem wc_X4_init : Cond.code yX4_init cX4_init 1 (none) ∈ mGW := mIn 314 (by decide +kernel) rfl
theorem wi_X4_init : Cond.instanceMethod yX4_init ∈ mGW := mIn 313 (by decide +kernel) rfl
theorem wd_X4_init : yX4_init.cls ≠ "java/lang/invoke/MethodHandle" ∧ yX4_init.cls ≠ "java/lang/invoke/VarHandle" ∧ (parseMethodDescriptor yX4_init.desc).map (fun d => d.parameters.length) = some 0 := by decide +kernel
theorem wc_X4_isMissing : Cond.code yX4_isMissing cX4_isMissing 1 (some .boolean) ∈ mGW := mIn 961 (by decide +kernel) rfl
theorem wi_X4_isMissing : Cond.instanceMethod yX4_isMissing ∈ mGW := mIn 959 (by decide +kernel) rfl
theorem wl_X4_isMissing : Cond.selects RX4 yX4_isMissing yX4_isMissing ∈ mGW := mIn 960 (by decide +kernel) rfl
theorem wd_X4_isMissing : yX4_isMissing.cls ≠ "java/lang/invoke/MethodHandle" ∧ yX4_isMissing.cls ≠ "java/lang/invoke/VarHandle" ∧ (parseMethodDescriptor yX4_isMissing.desc).map (fun d => d.parameters.length) = some 0 := by decide +kernel
theorem wc_X4_become : Cond.code yX4_become cX4_become 3 (none) ∈ mGW := mIn 986 (by decide +kernel) rfl
theorem wi_X4_become : Cond.instanceMethod yX4_become ∈ mGW := mIn 984 (by decide +kernel) rfl
theorem wl_X4_become : Cond.selects RX4 yX4_become yX4_become ∈ mGW := mIn 985 (by decide +kernel) rfl
theorem wd_X4_become : yX4_become.cls ≠ "java/lang/invoke/MethodHandle" ∧ yX4_become.cls ≠ "java/lang/invoke/VarHandle" ∧ (parseMethodDescriptor yX4_become.desc).map (fun d => d.parameters.length) = some 2 := by decide +kernel
theorem wc_X4_holds : Cond.code yX4_holds cX4_holds 3 (some .boolean) ∈ mGW := mIn 1017 (by decide +kernel) rfl
theorem wi_X4_holds : Cond.instanceMethod yX4_holds ∈ mGW := mIn 1015 (by decide +kernel) rfl
theorem wl_X4_holds : Cond.selects RX4 yX4_holds yX4_holds ∈ mGW := mIn 1016 (by decide +kernel) rfl
theorem wd_X4_holds : yX4_holds.cls ≠ "java/lang/invoke/MethodHandle" ∧ yX4_holds.cls ≠ "java/lang/invoke/VarHandle" ∧ (parseMethodDescriptor yX4_holds.desc).map (fun d => d.parameters.length) = some 2 := by decide +kernel
theorem wc_X5_init : Cond.code yX5_init cX5_init 1 (none) ∈ mGW := mIn 94 (by decide +kernel) rfl
theorem wi_X5_init : Cond.instanceMethod yX5_init ∈ mGW := mIn 93 (by decide +kernel) rfl
theorem wd_X5_init : yX5_init.cls ≠ "java/lang/invoke/MethodHandle" ∧ yX5_init.cls ≠ "java/lang/invoke/VarHandle" ∧ (parseMethodDescriptor yX5_init.desc).map (fun d => d.parameters.length) = some 0 := by decide +kernel
theorem wc_X5_clear : Cond.code yX5_clear cX5_clear 1 (none) ∈ mGW := mIn 227 (by decide +kernel) rfl
theorem wi_X5_clear : Cond.instanceMethod yX5_clear ∈ mGW := mIn 225 (by decide +kernel) rfl
theorem wl_X5_clear : Cond.selects RX5 yX5_clear yX5_clear ∈ mGW := mIn 226 (by decide +kernel) rfl
theorem wd_X5_clear : yX5_clear.cls ≠ "java/lang/invoke/MethodHandle" ∧ yX5_clear.cls ≠ "java/lang/invoke/VarHandle" ∧ (parseMethodDescriptor yX5_clear.desc).map (fun d => d.parameters.length) = some 0 := by decide +kernel
theorem wc_X5_inTurn : Cond.code yX5_inTurn cX5_inTurn 1 (some .int) ∈ mGW := mIn 590 (by decide +kernel) rfl
theorem wi_X5_inTurn : Cond.instanceMethod yX5_inTurn ∈ mGW := mIn 588 (by decide +kernel) rfl
theorem wl_X5_inTurn : Cond.selects RX5 yX5_inTurn yX5_inTurn ∈ mGW := mIn 589 (by decide +kernel) rfl
theorem wd_X5_inTurn : yX5_inTurn.cls ≠ "java/lang/invoke/MethodHandle" ∧ yX5_inTurn.cls ≠ "java/lang/invoke/VarHandle" ∧ (parseMethodDescriptor yX5_inTurn.desc).map (fun d => d.parameters.length) = some 0 := by decide +kernel
theorem wc_X5_isNearEnd : Cond.code yX5_isNearEnd cX5_isNearEnd 1 (some .boolean) ∈ mGW := mIn 493 (by decide +kernel) rfl
theorem wi_X5_isNearEnd : Cond.instanceMethod yX5_isNearEnd ∈ mGW := mIn 491 (by decide +kernel) rfl
theorem wl_X5_isNearEnd : Cond.selects RX5 yX5_isNearEnd yX5_isNearEnd ∈ mGW := mIn 492 (by decide +kernel) rfl
theorem wd_X5_isNearEnd : yX5_isNearEnd.cls ≠ "java/lang/invoke/MethodHandle" ∧ yX5_isNearEnd.cls ≠ "java/lang/invoke/VarHandle" ∧ (parseMethodDescriptor yX5_isNearEnd.desc).map (fun d => d.parameters.length) = some 0 := by decide +kernel
theorem wc_X5_isTimeFor : Cond.code yX5_isTimeFor cX5_isTimeFor 2 (some .boolean) ∈ mGW := mIn 481 (by decide +kernel) rfl
theorem wi_X5_isTimeFor : Cond.instanceMethod yX5_isTimeFor ∈ mGW := mIn 479 (by decide +kernel) rfl
theorem wl_X5_isTimeFor : Cond.selects RX5 yX5_isTimeFor yX5_isTimeFor ∈ mGW := mIn 480 (by decide +kernel) rfl
theorem wd_X5_isTimeFor : yX5_isTimeFor.cls ≠ "java/lang/invoke/MethodHandle" ∧ yX5_isTimeFor.cls ≠ "java/lang/invoke/VarHandle" ∧ (parseMethodDescriptor yX5_isTimeFor.desc).map (fun d => d.parameters.length) = some 1 := by decide +kernel
theorem wc_X5_perform : Cond.code yX5_perform cX5_perform 4 (none) ∈ mGW := mIn 599 (by decide +kernel) rfl
theorem wi_X5_perform : Cond.instanceMethod yX5_perform ∈ mGW := mIn 597 (by decide +kernel) rfl
theorem wl_X5_perform : Cond.selects RX5 yX5_perform yX5_perform ∈ mGW := mIn 598 (by decide +kernel) rfl
theorem wd_X5_perform : yX5_perform.cls ≠ "java/lang/invoke/MethodHandle" ∧ yX5_perform.cls ≠ "java/lang/invoke/VarHandle" ∧ (parseMethodDescriptor yX5_perform.desc).map (fun d => d.parameters.length) = some 3 := by decide +kernel
theorem wc_X5_beginDeal : Cond.code yX5_beginDeal cX5_beginDeal 2 (none) ∈ mGW := mIn 603 (by decide +kernel) rfl
theorem wi_X5_beginDeal : Cond.instanceMethod yX5_beginDeal ∈ mGW := mIn 602 (by decide +kernel) rfl
theorem wl_X5_beginDeal : Cond.selects RX5 yX5_beginDeal yX5_beginDeal ∈ mGW := mInS 12 (by decide +kernel) rfl
theorem wd_X5_beginDeal : yX5_beginDeal.cls ≠ "java/lang/invoke/MethodHandle" ∧ yX5_beginDeal.cls ≠ "java/lang/invoke/VarHandle" ∧ (parseMethodDescriptor yX5_beginDeal.desc).map (fun d => d.parameters.length) = some 1 := by decide +kernel
theorem wc_X5_pass : Cond.code yX5_pass cX5_pass 1 (none) ∈ mGW := mIn 622 (by decide +kernel) rfl
theorem wi_X5_pass : Cond.instanceMethod yX5_pass ∈ mGW := mIn 621 (by decide +kernel) rfl
theorem wl_X5_pass : Cond.selects RX5 yX5_pass yX5_pass ∈ mGW := mInS 13 (by decide +kernel) rfl
theorem wd_X5_pass : yX5_pass.cls ≠ "java/lang/invoke/MethodHandle" ∧ yX5_pass.cls ≠ "java/lang/invoke/VarHandle" ∧ (parseMethodDescriptor yX5_pass.desc).map (fun d => d.parameters.length) = some 0 := by decide +kernel
theorem wc_X5_playCard : Cond.code yX5_playCard cX5_playCard 2 (none) ∈ mGW := mIn 647 (by decide +kernel) rfl
theorem wi_X5_playCard : Cond.instanceMethod yX5_playCard ∈ mGW := mIn 646 (by decide +kernel) rfl
theorem wl_X5_playCard : Cond.selects RX5 yX5_playCard yX5_playCard ∈ mGW := mInS 15 (by decide +kernel) rfl
theorem wd_X5_playCard : yX5_playCard.cls ≠ "java/lang/invoke/MethodHandle" ∧ yX5_playCard.cls ≠ "java/lang/invoke/VarHandle" ∧ (parseMethodDescriptor yX5_playCard.desc).map (fun d => d.parameters.length) = some 1 := by decide +kernel
theorem wc_X5_claim : Cond.code yX5_claim cX5_claim 3 (none) ∈ mGW := mIn 662 (by decide +kernel) rfl
theorem wi_X5_claim : Cond.instanceMethod yX5_claim ∈ mGW := mIn 661 (by decide +kernel) rfl
theorem wl_X5_claim : Cond.selects RX5 yX5_claim yX5_claim ∈ mGW := mInS 16 (by decide +kernel) rfl
theorem wd_X5_claim : yX5_claim.cls ≠ "java/lang/invoke/MethodHandle" ∧ yX5_claim.cls ≠ "java/lang/invoke/VarHandle" ∧ (parseMethodDescriptor yX5_claim.desc).map (fun d => d.parameters.length) = some 1 := by decide +kernel
theorem wc_X5_endDeal : Cond.code yX5_endDeal cX5_endDeal 1 (none) ∈ mGW := mIn 639 (by decide +kernel) rfl
theorem wi_X5_endDeal : Cond.instanceMethod yX5_endDeal ∈ mGW := mIn 638 (by decide +kernel) rfl
theorem wl_X5_endDeal : Cond.selects RX5 yX5_endDeal yX5_endDeal ∈ mGW := mInS 14 (by decide +kernel) rfl
theorem wd_X5_endDeal : yX5_endDeal.cls ≠ "java/lang/invoke/MethodHandle" ∧ yX5_endDeal.cls ≠ "java/lang/invoke/VarHandle" ∧ (parseMethodDescriptor yX5_endDeal.desc).map (fun d => d.parameters.length) = some 0 := by decide +kernel
theorem wc_X5_standing : Cond.code yX5_standing cX5_standing 2 (some .int) ∈ mGW := mIn 864 (by decide +kernel) rfl
theorem wi_X5_standing : Cond.instanceMethod yX5_standing ∈ mGW := mIn 862 (by decide +kernel) rfl
theorem wl_X5_standing : Cond.selects RX5 yX5_standing yX5_standing ∈ mGW := mIn 863 (by decide +kernel) rfl
theorem wd_X5_standing : yX5_standing.cls ≠ "java/lang/invoke/MethodHandle" ∧ yX5_standing.cls ≠ "java/lang/invoke/VarHandle" ∧ (parseMethodDescriptor yX5_standing.desc).map (fun d => d.parameters.length) = some 1 := by decide +kernel
theorem wc_X6_init : Cond.code yX6_init cX6_init 1 (none) ∈ mGW := mIn 33 (by decide +kernel) rfl
theorem wi_X6_init : Cond.instanceMethod yX6_init ∈ mGW := mIn 32 (by decide +kernel) rfl
theorem wd_X6_init : yX6_init.cls ≠ "java/lang/invoke/MethodHandle" ∧ yX6_init.cls ≠ "java/lang/invoke/VarHandle" ∧ (parseMethodDescriptor yX6_init.desc).map (fun d => d.parameters.length) = some 0 := by decide +kernel
theorem wc_X6_add : Cond.code yX6_add cX6_add 2 (none) ∈ mGW := mIn 364 (by decide +kernel) rfl
theorem wi_X6_add : Cond.instanceMethod yX6_add ∈ mGW := mIn 362 (by decide +kernel) rfl
theorem wl_X6_add : Cond.selects RX6 yX6_add yX6_add ∈ mGW := mIn 363 (by decide +kernel) rfl
theorem wd_X6_add : yX6_add.cls ≠ "java/lang/invoke/MethodHandle" ∧ yX6_add.cls ≠ "java/lang/invoke/VarHandle" ∧ (parseMethodDescriptor yX6_add.desc).map (fun d => d.parameters.length) = some 1 := by decide +kernel
theorem wc_X6_read : Cond.code yX6_read cX6_read 1 (none) ∈ mGW := mIn 375 (by decide +kernel) rfl
theorem wi_X6_read : Cond.instanceMethod yX6_read ∈ mGW := mIn 373 (by decide +kernel) rfl
theorem wl_X6_read : Cond.selects RX6 yX6_read yX6_read ∈ mGW := mIn 374 (by decide +kernel) rfl
theorem wd_X6_read : yX6_read.cls ≠ "java/lang/invoke/MethodHandle" ∧ yX6_read.cls ≠ "java/lang/invoke/VarHandle" ∧ (parseMethodDescriptor yX6_read.desc).map (fun d => d.parameters.length) = some 0 := by decide +kernel
theorem wc_X6_readWord : Cond.code yX6_readWord cX6_readWord 3 (none) ∈ mGW := mIn 379 (by decide +kernel) rfl
theorem wi_X6_readWord : Cond.instanceMethod yX6_readWord ∈ mGW := mIn 378 (by decide +kernel) rfl
theorem wl_X6_readWord : Cond.selects RX6 yX6_readWord yX6_readWord ∈ mGW := mInS 0 (by decide +kernel) rfl
theorem wd_X6_readWord : yX6_readWord.cls ≠ "java/lang/invoke/MethodHandle" ∧ yX6_readWord.cls ≠ "java/lang/invoke/VarHandle" ∧ (parseMethodDescriptor yX6_readWord.desc).map (fun d => d.parameters.length) = some 0 := by decide +kernel
theorem wc_X6_readNumber : Cond.code yX6_readNumber cX6_readNumber 2 (none) ∈ mGW := mIn 462 (by decide +kernel) rfl
theorem wi_X6_readNumber : Cond.instanceMethod yX6_readNumber ∈ mGW := mIn 461 (by decide +kernel) rfl
theorem wl_X6_readNumber : Cond.selects RX6 yX6_readNumber yX6_readNumber ∈ mGW := mInS 5 (by decide +kernel) rfl
theorem wd_X6_readNumber : yX6_readNumber.cls ≠ "java/lang/invoke/MethodHandle" ∧ yX6_readNumber.cls ≠ "java/lang/invoke/VarHandle" ∧ (parseMethodDescriptor yX6_readNumber.desc).map (fun d => d.parameters.length) = some 0 := by decide +kernel
theorem wc_X6_readSuit : Cond.code yX6_readSuit cX6_readSuit 4 (none) ∈ mGW := mIn 466 (by decide +kernel) rfl
theorem wi_X6_readSuit : Cond.instanceMethod yX6_readSuit ∈ mGW := mIn 465 (by decide +kernel) rfl
theorem wl_X6_readSuit : Cond.selects RX6 yX6_readSuit yX6_readSuit ∈ mGW := mInS 6 (by decide +kernel) rfl
theorem wd_X6_readSuit : yX6_readSuit.cls ≠ "java/lang/invoke/MethodHandle" ∧ yX6_readSuit.cls ≠ "java/lang/invoke/VarHandle" ∧ (parseMethodDescriptor yX6_readSuit.desc).map (fun d => d.parameters.length) = some 1 := by decide +kernel
theorem wc_X6_readEnd : Cond.code yX6_readEnd cX6_readEnd 1 (none) ∈ mGW := mIn 473 (by decide +kernel) rfl
theorem wi_X6_readEnd : Cond.instanceMethod yX6_readEnd ∈ mGW := mIn 472 (by decide +kernel) rfl
theorem wl_X6_readEnd : Cond.selects RX6 yX6_readEnd yX6_readEnd ∈ mGW := mInS 7 (by decide +kernel) rfl
theorem wd_X6_readEnd : yX6_readEnd.cls ≠ "java/lang/invoke/MethodHandle" ∧ yX6_readEnd.cls ≠ "java/lang/invoke/VarHandle" ∧ (parseMethodDescriptor yX6_readEnd.desc).map (fun d => d.parameters.length) = some 0 := by decide +kernel
theorem wc_X6_skipBlanks : Cond.code yX6_skipBlanks cX6_skipBlanks 1 (none) ∈ mGW := mIn 383 (by decide +kernel) rfl
theorem wi_X6_skipBlanks : Cond.instanceMethod yX6_skipBlanks ∈ mGW := mIn 382 (by decide +kernel) rfl
theorem wl_X6_skipBlanks : Cond.selects RX6 yX6_skipBlanks yX6_skipBlanks ∈ mGW := mInS 1 (by decide +kernel) rfl
theorem wd_X6_skipBlanks : yX6_skipBlanks.cls ≠ "java/lang/invoke/MethodHandle" ∧ yX6_skipBlanks.cls ≠ "java/lang/invoke/VarHandle" ∧ (parseMethodDescriptor yX6_skipBlanks.desc).map (fun d => d.parameters.length) = some 0 := by decide +kernel
theorem wc_X6_skipLetters : Cond.code yX6_skipLetters cX6_skipLetters 1 (none) ∈ mGW := mIn 390 (by decide +kernel) rfl
theorem wi_X6_skipLetters : Cond.instanceMethod yX6_skipLetters ∈ mGW := mIn 389 (by decide +kernel) rfl
theorem wl_X6_skipLetters : Cond.selects RX6 yX6_skipLetters yX6_skipLetters ∈ mGW := mInS 2 (by decide +kernel) rfl
theorem wd_X6_skipLetters : yX6_skipLetters.cls ≠ "java/lang/invoke/MethodHandle" ∧ yX6_skipLetters.cls ≠ "java/lang/invoke/VarHandle" ∧ (parseMethodDescriptor yX6_skipLetters.desc).map (fun d => d.parameters.length) = some 0 := by decide +kernel
theorem wc_X6_isBetween : Cond.code yX6_isBetween cX6_isBetween 4 (some .boolean) ∈ mGW := mIn 394 (by decide +kernel) rfl
theorem wi_X6_isBetween : Cond.instanceMethod yX6_isBetween ∈ mGW := mIn 393 (by decide +kernel) rfl
theorem wl_X6_isBetween : Cond.selects RX6 yX6_isBetween yX6_isBetween ∈ mGW := mInS 3 (by decide +kernel) rfl
theorem wd_X6_isBetween : yX6_isBetween.cls ≠ "java/lang/invoke/MethodHandle" ∧ yX6_isBetween.cls ≠ "java/lang/invoke/VarHandle" ∧ (parseMethodDescriptor yX6_isBetween.desc).map (fun d => d.parameters.length) = some 2 := by decide +kernel
theorem wc_X6_isText : Cond.code yX6_isText cX6_isText 4 (some .boolean) ∈ mGW := mIn 411 (by decide +kernel) rfl
theorem wi_X6_isText : Cond.instanceMethod yX6_isText ∈ mGW := mIn 410 (by decide +kernel) rfl
theorem wl_X6_isText : Cond.selects RX6 yX6_isText yX6_isText ∈ mGW := mInS 4 (by decide +kernel) rfl
theorem wd_X6_isText : yX6_isText.cls ≠ "java/lang/invoke/MethodHandle" ∧ yX6_isText.cls ≠ "java/lang/invoke/VarHandle" ∧ (parseMethodDescriptor yX6_isText.desc).map (fun d => d.parameters.length) = some 2 := by decide +kernel
theorem wc_X7_init : Cond.code yX7_init cX7_init 2 (none) ∈ mGW := mIn 25 (by decide +kernel) rfl
theorem wi_X7_init : Cond.instanceMethod yX7_init ∈ mGW := mIn 24 (by decide +kernel) rfl
theorem wd_X7_init : yX7_init.cls ≠ "java/lang/invoke/MethodHandle" ∧ yX7_init.cls ≠ "java/lang/invoke/VarHandle" ∧ (parseMethodDescriptor yX7_init.desc).map (fun d => d.parameters.length) = some 0 := by decide +kernel
theorem wc_X7_feed : Cond.code yX7_feed cX7_feed 8 (some .int) ∈ mGW := mIn 357 (by decide +kernel) rfl
theorem wi_X7_feed : Cond.instanceMethod yX7_feed ∈ mGW := mIn 355 (by decide +kernel) rfl
theorem wl_X7_feed : Cond.selects RX7 yX7_feed yX7_feed ∈ mGW := mIn 356 (by decide +kernel) rfl
theorem wd_X7_feed : yX7_feed.cls ≠ "java/lang/invoke/MethodHandle" ∧ yX7_feed.cls ≠ "java/lang/invoke/VarHandle" ∧ (parseMethodDescriptor yX7_feed.desc).map (fun d => d.parameters.length) = some 6 := by decide +kernel
theorem wc_X7_act : Cond.code yX7_act cX7_act 2 (some .int) ∈ mGW := mIn 371 (by decide +kernel) rfl
theorem wi_X7_act : Cond.instanceMethod yX7_act ∈ mGW := mIn 369 (by decide +kernel) rfl
theorem wl_X7_act : Cond.selects RX7 yX7_act yX7_act ∈ mGW := mIn 370 (by decide +kernel) rfl
theorem wd_X7_act : yX7_act.cls ≠ "java/lang/invoke/MethodHandle" ∧ yX7_act.cls ≠ "java/lang/invoke/VarHandle" ∧ (parseMethodDescriptor yX7_act.desc).map (fun d => d.parameters.length) = some 0 := by decide +kernel
theorem wc_X7_undo : Cond.code yX7_undo cX7_undo 1 (some .int) ∈ mGW := mIn 667 (by decide +kernel) rfl
theorem wi_X7_undo : Cond.instanceMethod yX7_undo ∈ mGW := mIn 665 (by decide +kernel) rfl
theorem wl_X7_undo : Cond.selects RX7 yX7_undo yX7_undo ∈ mGW := mIn 666 (by decide +kernel) rfl
theorem wd_X7_undo : yX7_undo.cls ≠ "java/lang/invoke/MethodHandle" ∧ yX7_undo.cls ≠ "java/lang/invoke/VarHandle" ∧ (parseMethodDescriptor yX7_undo.desc).map (fun d => d.parameters.length) = some 0 := by decide +kernel
theorem wc_X7_log : Cond.code yX7_log cX7_log 3 (some .int) ∈ mGW := mIn 676 (by decide +kernel) rfl
theorem wi_X7_log : Cond.instanceMethod yX7_log ∈ mGW := mIn 674 (by decide +kernel) rfl
theorem wl_X7_log : Cond.selects RX7 yX7_log yX7_log ∈ mGW := mIn 675 (by decide +kernel) rfl
theorem wd_X7_log : yX7_log.cls ≠ "java/lang/invoke/MethodHandle" ∧ yX7_log.cls ≠ "java/lang/invoke/VarHandle" ∧ (parseMethodDescriptor yX7_log.desc).map (fun d => d.parameters.length) = some 2 := by decide +kernel
theorem wc_X7_print : Cond.code yX7_print cX7_print 3 (some .int) ∈ mGW := mIn 680 (by decide +kernel) rfl
theorem wi_X7_print : Cond.instanceMethod yX7_print ∈ mGW := mIn 678 (by decide +kernel) rfl
theorem wl_X7_print : Cond.selects RX7 yX7_print yX7_print ∈ mGW := mIn 679 (by decide +kernel) rfl
theorem wd_X7_print : yX7_print.cls ≠ "java/lang/invoke/MethodHandle" ∧ yX7_print.cls ≠ "java/lang/invoke/VarHandle" ∧ (parseMethodDescriptor yX7_print.desc).map (fun d => d.parameters.length) = some 2 := by decide +kernel
theorem wc_X7_told : Cond.code yX7_told cX7_told 2 (some .int) ∈ mGW := mIn 860 (by decide +kernel) rfl
theorem wi_X7_told : Cond.instanceMethod yX7_told ∈ mGW := mIn 858 (by decide +kernel) rfl
theorem wl_X7_told : Cond.selects RX7 yX7_told yX7_told ∈ mGW := mIn 859 (by decide +kernel) rfl
theorem wd_X7_told : yX7_told.cls ≠ "java/lang/invoke/MethodHandle" ∧ yX7_told.cls ≠ "java/lang/invoke/VarHandle" ∧ (parseMethodDescriptor yX7_told.desc).map (fun d => d.parameters.length) = some 1 := by decide +kernel
theorem wc_X7_hand : Cond.code yX7_hand cX7_hand 3 (some .int) ∈ mGW := mIn 870 (by decide +kernel) rfl
theorem wi_X7_hand : Cond.instanceMethod yX7_hand ∈ mGW := mIn 868 (by decide +kernel) rfl
theorem wl_X7_hand : Cond.selects RX7 yX7_hand yX7_hand ∈ mGW := mIn 869 (by decide +kernel) rfl
theorem wd_X7_hand : yX7_hand.cls ≠ "java/lang/invoke/MethodHandle" ∧ yX7_hand.cls ≠ "java/lang/invoke/VarHandle" ∧ (parseMethodDescriptor yX7_hand.desc).map (fun d => d.parameters.length) = some 2 := by decide +kernel
theorem wc_X7_trick : Cond.code yX7_trick cX7_trick 5 (some .int) ∈ mGW := mIn 874 (by decide +kernel) rfl
theorem wi_X7_trick : Cond.instanceMethod yX7_trick ∈ mGW := mIn 872 (by decide +kernel) rfl
theorem wl_X7_trick : Cond.selects RX7 yX7_trick yX7_trick ∈ mGW := mIn 873 (by decide +kernel) rfl
theorem wd_X7_trick : yX7_trick.cls ≠ "java/lang/invoke/MethodHandle" ∧ yX7_trick.cls ≠ "java/lang/invoke/VarHandle" ∧ (parseMethodDescriptor yX7_trick.desc).map (fun d => d.parameters.length) = some 2 := by decide +kernel
theorem wc_X7_strength : Cond.code yX7_strength cX7_strength 3 (some .int) ∈ mGW := mIn 883 (by decide +kernel) rfl
theorem wi_X7_strength : Cond.instanceMethod yX7_strength ∈ mGW := mIn 881 (by decide +kernel) rfl
theorem wl_X7_strength : Cond.selects RX7 yX7_strength yX7_strength ∈ mGW := mIn 882 (by decide +kernel) rfl
theorem wd_X7_strength : yX7_strength.cls ≠ "java/lang/invoke/MethodHandle" ∧ yX7_strength.cls ≠ "java/lang/invoke/VarHandle" ∧ (parseMethodDescriptor yX7_strength.desc).map (fun d => d.parameters.length) = some 2 := by decide +kernel
theorem wc_X7_taken : Cond.code yX7_taken cX7_taken 6 (some .int) ∈ mGW := mIn 889 (by decide +kernel) rfl
theorem wi_X7_taken : Cond.instanceMethod yX7_taken ∈ mGW := mIn 887 (by decide +kernel) rfl
theorem wl_X7_taken : Cond.selects RX7 yX7_taken yX7_taken ∈ mGW := mIn 888 (by decide +kernel) rfl
theorem wd_X7_taken : yX7_taken.cls ≠ "java/lang/invoke/MethodHandle" ∧ yX7_taken.cls ≠ "java/lang/invoke/VarHandle" ∧ (parseMethodDescriptor yX7_taken.desc).map (fun d => d.parameters.length) = some 2 := by decide +kernel
theorem wc_X7_score : Cond.code yX7_score cX7_score 3 (some .int) ∈ mGW := mIn 893 (by decide +kernel) rfl
theorem wi_X7_score : Cond.instanceMethod yX7_score ∈ mGW := mIn 891 (by decide +kernel) rfl
theorem wl_X7_score : Cond.selects RX7 yX7_score yX7_score ∈ mGW := mIn 892 (by decide +kernel) rfl
theorem wd_X7_score : yX7_score.cls ≠ "java/lang/invoke/MethodHandle" ∧ yX7_score.cls ≠ "java/lang/invoke/VarHandle" ∧ (parseMethodDescriptor yX7_score.desc).map (fun d => d.parameters.length) = some 1 := by decide +kernel
theorem wc_X7_table : Cond.code yX7_table cX7_table 6 (some .int) ∈ mGW := mIn 901 (by decide +kernel) rfl
theorem wi_X7_table : Cond.instanceMethod yX7_table ∈ mGW := mIn 899 (by decide +kernel) rfl
theorem wl_X7_table : Cond.selects RX7 yX7_table yX7_table ∈ mGW := mIn 900 (by decide +kernel) rfl
theorem wd_X7_table : yX7_table.cls ≠ "java/lang/invoke/MethodHandle" ∧ yX7_table.cls ≠ "java/lang/invoke/VarHandle" ∧ (parseMethodDescriptor yX7_table.desc).map (fun d => d.parameters.length) = some 5 := by decide +kernel
theorem wc_X7_total : Cond.code yX7_total cX7_total 3 (some .int) ∈ mGW := mIn 905 (by decide +kernel) rfl
theorem wi_X7_total : Cond.instanceMethod yX7_total ∈ mGW := mIn 903 (by decide +kernel) rfl
theorem wl_X7_total : Cond.selects RX7 yX7_total yX7_total ∈ mGW := mIn 904 (by decide +kernel) rfl
theorem wd_X7_total : yX7_total.cls ≠ "java/lang/invoke/MethodHandle" ∧ yX7_total.cls ≠ "java/lang/invoke/VarHandle" ∧ (parseMethodDescriptor yX7_total.desc).map (fun d => d.parameters.length) = some 2 := by decide +kernel
theorem wc_X7_open : Cond.code yX7_open cX7_open 1 (some .int) ∈ mGW := mIn 913 (by decide +kernel) rfl
theorem wi_X7_open : Cond.instanceMethod yX7_open ∈ mGW := mIn 911 (by decide +kernel) rfl
theorem wl_X7_open : Cond.selects RX7 yX7_open yX7_open ∈ mGW := mIn 912 (by decide +kernel) rfl
theorem wd_X7_open : yX7_open.cls ≠ "java/lang/invoke/MethodHandle" ∧ yX7_open.cls ≠ "java/lang/invoke/VarHandle" ∧ (parseMethodDescriptor yX7_open.desc).map (fun d => d.parameters.length) = some 0 := by decide +kernel
theorem wc_X7_gains : Cond.code yX7_gains cX7_gains 2 (some .int) ∈ mGW := mIn 918 (by decide +kernel) rfl
theorem wi_X7_gains : Cond.instanceMethod yX7_gains ∈ mGW := mIn 916 (by decide +kernel) rfl
theorem wl_X7_gains : Cond.selects RX7 yX7_gains yX7_gains ∈ mGW := mIn 917 (by decide +kernel) rfl
theorem wd_X7_gains : yX7_gains.cls ≠ "java/lang/invoke/MethodHandle" ∧ yX7_gains.cls ≠ "java/lang/invoke/VarHandle" ∧ (parseMethodDescriptor yX7_gains.desc).map (fun d => d.parameters.length) = some 1 := by decide +kernel
theorem wc_X7_best : Cond.code yX7_best cX7_best 10 (some .int) ∈ mGW := mIn 926 (by decide +kernel) rfl
theorem wi_X7_best : Cond.instanceMethod yX7_best ∈ mGW := mIn 924 (by decide +kernel) rfl
theorem wl_X7_best : Cond.selects RX7 yX7_best yX7_best ∈ mGW := mIn 925 (by decide +kernel) rfl
theorem wd_X7_best : yX7_best.cls ≠ "java/lang/invoke/MethodHandle" ∧ yX7_best.cls ≠ "java/lang/invoke/VarHandle" ∧ (parseMethodDescriptor yX7_best.desc).map (fun d => d.parameters.length) = some 1 := by decide +kernel
theorem wc_X7_drawn : Cond.code yX7_drawn cX7_drawn 2 (some .int) ∈ mGW := mIn 930 (by decide +kernel) rfl
theorem wi_X7_drawn : Cond.instanceMethod yX7_drawn ∈ mGW := mIn 928 (by decide +kernel) rfl
theorem wl_X7_drawn : Cond.selects RX7 yX7_drawn yX7_drawn ∈ mGW := mIn 929 (by decide +kernel) rfl
theorem wd_X7_drawn : yX7_drawn.cls ≠ "java/lang/invoke/MethodHandle" ∧ yX7_drawn.cls ≠ "java/lang/invoke/VarHandle" ∧ (parseMethodDescriptor yX7_drawn.desc).map (fun d => d.parameters.length) = some 1 := by decide +kernel
theorem wc_X7_chance : Cond.code yX7_chance cX7_chance 6 (some .int) ∈ mGW := mIn 942 (by decide +kernel) rfl
theorem wi_X7_chance : Cond.instanceMethod yX7_chance ∈ mGW := mIn 940 (by decide +kernel) rfl
theorem wl_X7_chance : Cond.selects RX7 yX7_chance yX7_chance ∈ mGW := mIn 941 (by decide +kernel) rfl
theorem wd_X7_chance : yX7_chance.cls ≠ "java/lang/invoke/MethodHandle" ∧ yX7_chance.cls ≠ "java/lang/invoke/VarHandle" ∧ (parseMethodDescriptor yX7_chance.desc).map (fun d => d.parameters.length) = some 3 := by decide +kernel
theorem wc_X7_replay : Cond.code yX7_replay cX7_replay 4 (some .int) ∈ mGW := mIn 949 (by decide +kernel) rfl
theorem wi_X7_replay : Cond.instanceMethod yX7_replay ∈ mGW := mIn 947 (by decide +kernel) rfl
theorem wl_X7_replay : Cond.selects RX7 yX7_replay yX7_replay ∈ mGW := mIn 948 (by decide +kernel) rfl
theorem wd_X7_replay : yX7_replay.cls ≠ "java/lang/invoke/MethodHandle" ∧ yX7_replay.cls ≠ "java/lang/invoke/VarHandle" ∧ (parseMethodDescriptor yX7_replay.desc).map (fun d => d.parameters.length) = some 2 := by decide +kernel
theorem wc_X7_tells : Cond.code yX7_tells cX7_tells 4 (some .int) ∈ mGW := mIn 953 (by decide +kernel) rfl
theorem wi_X7_tells : Cond.instanceMethod yX7_tells ∈ mGW := mIn 951 (by decide +kernel) rfl
theorem wl_X7_tells : Cond.selects RX7 yX7_tells yX7_tells ∈ mGW := mIn 952 (by decide +kernel) rfl
theorem wd_X7_tells : yX7_tells.cls ≠ "java/lang/invoke/MethodHandle" ∧ yX7_tells.cls ≠ "java/lang/invoke/VarHandle" ∧ (parseMethodDescriptor yX7_tells.desc).map (fun d => d.parameters.length) = some 2 := by decide +kernel
theorem wc_X7_film : Cond.code yX7_film cX7_film 5 (some .int) ∈ mGW := mIn 982 (by decide +kernel) rfl
theorem wi_X7_film : Cond.instanceMethod yX7_film ∈ mGW := mIn 980 (by decide +kernel) rfl
theorem wl_X7_film : Cond.selects RX7 yX7_film yX7_film ∈ mGW := mIn 981 (by decide +kernel) rfl
theorem wd_X7_film : yX7_film.cls ≠ "java/lang/invoke/MethodHandle" ∧ yX7_film.cls ≠ "java/lang/invoke/VarHandle" ∧ (parseMethodDescriptor yX7_film.desc).map (fun d => d.parameters.length) = some 1 := by decide +kernel
theorem wc_X7_image : Cond.code yX7_image cX7_image 1 (some .int) ∈ mGW := mIn 992 (by decide +kernel) rfl
theorem wi_X7_image : Cond.instanceMethod yX7_image ∈ mGW := mIn 990 (by decide +kernel) rfl
theorem wl_X7_image : Cond.selects RX7 yX7_image yX7_image ∈ mGW := mIn 991 (by decide +kernel) rfl
theorem wd_X7_image : yX7_image.cls ≠ "java/lang/invoke/MethodHandle" ∧ yX7_image.cls ≠ "java/lang/invoke/VarHandle" ∧ (parseMethodDescriptor yX7_image.desc).map (fun d => d.parameters.length) = some 0 := by decide +kernel
theorem wc_X7_back : Cond.code yX7_back cX7_back 1 (some .int) ∈ mGW := mIn 1001 (by decide +kernel) rfl
theorem wi_X7_back : Cond.instanceMethod yX7_back ∈ mGW := mIn 999 (by decide +kernel) rfl
theorem wl_X7_back : Cond.selects RX7 yX7_back yX7_back ∈ mGW := mIn 1000 (by decide +kernel) rfl
theorem wd_X7_back : yX7_back.cls ≠ "java/lang/invoke/MethodHandle" ∧ yX7_back.cls ≠ "java/lang/invoke/VarHandle" ∧ (parseMethodDescriptor yX7_back.desc).map (fun d => d.parameters.length) = some 0 := by decide +kernel
theorem wc_X7_sheet : Cond.code yX7_sheet cX7_sheet 5 (some .int) ∈ mGW := mIn 1005 (by decide +kernel) rfl
theorem wi_X7_sheet : Cond.instanceMethod yX7_sheet ∈ mGW := mIn 1003 (by decide +kernel) rfl
theorem wl_X7_sheet : Cond.selects RX7 yX7_sheet yX7_sheet ∈ mGW := mIn 1004 (by decide +kernel) rfl
theorem wd_X7_sheet : yX7_sheet.cls ≠ "java/lang/invoke/MethodHandle" ∧ yX7_sheet.cls ≠ "java/lang/invoke/VarHandle" ∧ (parseMethodDescriptor yX7_sheet.desc).map (fun d => d.parameters.length) = some 3 := by decide +kernel
theorem wc_X7_cell : Cond.code yX7_cell cX7_cell 5 (some .int) ∈ mGW := mIn 1009 (by decide +kernel) rfl
theorem wi_X7_cell : Cond.instanceMethod yX7_cell ∈ mGW := mIn 1007 (by decide +kernel) rfl
theorem wl_X7_cell : Cond.selects RX7 yX7_cell yX7_cell ∈ mGW := mIn 1008 (by decide +kernel) rfl
theorem wd_X7_cell : yX7_cell.cls ≠ "java/lang/invoke/MethodHandle" ∧ yX7_cell.cls ≠ "java/lang/invoke/VarHandle" ∧ (parseMethodDescriptor yX7_cell.desc).map (fun d => d.parameters.length) = some 3 := by decide +kernel
theorem wc_X7_copy : Cond.code yX7_copy cX7_copy 8 (some .int) ∈ mGW := mIn 1013 (by decide +kernel) rfl
theorem wi_X7_copy : Cond.instanceMethod yX7_copy ∈ mGW := mIn 1011 (by decide +kernel) rfl
theorem wl_X7_copy : Cond.selects RX7 yX7_copy yX7_copy ∈ mGW := mIn 1012 (by decide +kernel) rfl
theorem wd_X7_copy : yX7_copy.cls ≠ "java/lang/invoke/MethodHandle" ∧ yX7_copy.cls ≠ "java/lang/invoke/VarHandle" ∧ (parseMethodDescriptor yX7_copy.desc).map (fun d => d.parameters.length) = some 5 := by decide +kernel
theorem wc_X7_refusalOf : Cond.code yX7_refusalOf cX7_refusalOf 3 (some .int) ∈ mGW := mIn 477 (by decide +kernel) rfl
theorem wi_X7_refusalOf : Cond.instanceMethod yX7_refusalOf ∈ mGW := mIn 476 (by decide +kernel) rfl
theorem wl_X7_refusalOf : Cond.selects RX7 yX7_refusalOf yX7_refusalOf ∈ mGW := mInS 8 (by decide +kernel) rfl
theorem wd_X7_refusalOf : yX7_refusalOf.cls ≠ "java/lang/invoke/MethodHandle" ∧ yX7_refusalOf.cls ≠ "java/lang/invoke/VarHandle" ∧ (parseMethodDescriptor yX7_refusalOf.desc).map (fun d => d.parameters.length) = some 2 := by decide +kernel
theorem wc_X7_fitsWord : Cond.code yX7_fitsWord cX7_fitsWord 2 (some .boolean) ∈ mGW := mIn 504 (by decide +kernel) rfl
theorem wt_X7_fitsWord : Cond.static yX7_fitsWord ∈ mGW := mIn 503 (by decide +kernel) rfl
theorem wd_X7_fitsWord : yX7_fitsWord.cls ≠ "java/lang/invoke/MethodHandle" ∧ yX7_fitsWord.cls ≠ "java/lang/invoke/VarHandle" ∧ (parseMethodDescriptor yX7_fitsWord.desc).map (fun d => d.parameters.length) = some 2 := by decide +kernel
theorem wc_X7_isFair : Cond.code yX7_isFair cX7_isFair 4 (some .boolean) ∈ mGW := mIn 508 (by decide +kernel) rfl
theorem wi_X7_isFair : Cond.instanceMethod yX7_isFair ∈ mGW := mIn 507 (by decide +kernel) rfl
theorem wl_X7_isFair : Cond.selects RX7 yX7_isFair yX7_isFair ∈ mGW := mInS 9 (by decide +kernel) rfl
theorem wd_X7_isFair : yX7_isFair.cls ≠ "java/lang/invoke/MethodHandle" ∧ yX7_isFair.cls ≠ "java/lang/invoke/VarHandle" ∧ (parseMethodDescriptor yX7_isFair.desc).map (fun d => d.parameters.length) = some 3 := by decide +kernel
theorem wc_X7_goThrough : Cond.code yX7_goThrough cX7_goThrough 4 (none) ∈ mGW := mIn 671 (by decide +kernel) rfl
theorem wi_X7_goThrough : Cond.instanceMethod yX7_goThrough ∈ mGW := mIn 670 (by decide +kernel) rfl
theorem wl_X7_goThrough : Cond.selects RX7 yX7_goThrough yX7_goThrough ∈ mGW := mInS 17 (by decide +kernel) rfl
theorem wd_X7_goThrough : yX7_goThrough.cls ≠ "java/lang/invoke/MethodHandle" ∧ yX7_goThrough.cls ≠ "java/lang/invoke/VarHandle" ∧ (parseMethodDescriptor yX7_goThrough.desc).map (fun d => d.parameters.length) = some 2 := by decide +kernel
theorem wc_X7_writeLine : Cond.code yX7_writeLine cX7_writeLine 4 (none) ∈ mGW := mIn 684 (by decide +kernel) rfl
theorem wi_X7_writeLine : Cond.instanceMethod yX7_writeLine ∈ mGW := mIn 683 (by decide +kernel) rfl
theorem wl_X7_writeLine : Cond.selects RX7 yX7_writeLine yX7_writeLine ∈ mGW := mInS 18 (by decide +kernel) rfl
theorem wd_X7_writeLine : yX7_writeLine.cls ≠ "java/lang/invoke/MethodHandle" ∧ yX7_writeLine.cls ≠ "java/lang/invoke/VarHandle" ∧ (parseMethodDescriptor yX7_writeLine.desc).map (fun d => d.parameters.length) = some 3 := by decide +kernel
theorem wc_X7_wordText : Cond.code yX7_wordText cX7_wordText 1 (some (.object "java/lang/String")) ∈ mGW := mIn 397 (by decide +kernel) rfl
theorem wt_X7_wordText : Cond.static yX7_wordText ∈ mGW := mIn 396 (by decide +kernel) rfl
theorem wd_X7_wordText : yX7_wordText.cls ≠ "java/lang/invoke/MethodHandle" ∧ yX7_wordText.cls ≠ "java/lang/invoke/VarHandle" ∧ (parseMethodDescriptor yX7_wordText.desc).map (fun d => d.parameters.length) = some 1 := by decide +kernel
theorem wc_X7_suitLetter : Cond.code yX7_suitLetter cX7_suitLetter 1 (some .char) ∈ mGW := mIn 469 (by decide +kernel) rfl
theorem wt_X7_suitLetter : Cond.static yX7_suitLetter ∈ mGW := mIn 468 (by decide +kernel) rfl
theorem wd_X7_suitLetter : yX7_suitLetter.cls ≠ "java/lang/invoke/MethodHandle" ∧ yX7_suitLetter.cls ≠ "java/lang/invoke/VarHandle" ∧ (parseMethodDescriptor yX7_suitLetter.desc).map (fun d => d.parameters.length) = some 1 := by decide +kernel
theorem wc_X7_openNow : Cond.code yX7_openNow cX7_openNow 2 (some .int) ∈ mGW := mIn 538 (by decide +kernel) rfl
theorem wi_X7_openNow : Cond.instanceMethod yX7_openNow ∈ mGW := mIn 537 (by decide +kernel) rfl
theorem wl_X7_openNow : Cond.selects RX7 yX7_openNow yX7_openNow ∈ mGW := mInS 11 (by decide +kernel) rfl
theorem wd_X7_openNow : yX7_openNow.cls ≠ "java/lang/invoke/MethodHandle" ∧ yX7_openNow.cls ≠ "java/lang/invoke/VarHandle" ∧ (parseMethodDescriptor yX7_openNow.desc).map (fun d => d.parameters.length) = some 0 := by decide +kernel
theorem wc_X7_gainsOf : Cond.code yX7_gainsOf cX7_gainsOf 3 (some .int) ∈ mGW := mIn 922 (by decide +kernel) rfl
theorem wi_X7_gainsOf : Cond.instanceMethod yX7_gainsOf ∈ mGW := mIn 921 (by decide +kernel) rfl
theorem wl_X7_gainsOf : Cond.selects RX7 yX7_gainsOf yX7_gainsOf ∈ mGW := mInS 19 (by decide +kernel) rfl
theorem wd_X7_gainsOf : yX7_gainsOf.cls ≠ "java/lang/invoke/MethodHandle" ∧ yX7_gainsOf.cls ≠ "java/lang/invoke/VarHandle" ∧ (parseMethodDescriptor yX7_gainsOf.desc).map (fun d => d.parameters.length) = some 1 := by decide +kernel
theorem wc_X7_mostMade : Cond.code yX7_mostMade cX7_mostMade 12 (some .int) ∈ mGW := mIn 554 (by decide +kernel) rfl
theorem wt_X7_mostMade : Cond.static yX7_mostMade ∈ mGW := mIn 553 (by decide +kernel) rfl
theorem wd_X7_mostMade : yX7_mostMade.cls ≠ "java/lang/invoke/MethodHandle" ∧ yX7_mostMade.cls ≠ "java/lang/invoke/VarHandle" ∧ (parseMethodDescriptor yX7_mostMade.desc).map (fun d => d.parameters.length) = some 3 := by decide +kernel
theorem wc_X7_drawnMade : Cond.code yX7_drawnMade cX7_drawnMade 7 (some .int) ∈ mGW := mIn 934 (by decide +kernel) rfl
theorem wi_X7_drawnMade : Cond.instanceMethod yX7_drawnMade ∈ mGW := mIn 933 (by decide +kernel) rfl
theorem wl_X7_drawnMade : Cond.selects RX7 yX7_drawnMade yX7_drawnMade ∈ mGW := mInS 20 (by decide +kernel) rfl
theorem wd_X7_drawnMade : yX7_drawnMade.cls ≠ "java/lang/invoke/MethodHandle" ∧ yX7_drawnMade.cls ≠ "java/lang/invoke/VarHandle" ∧ (parseMethodDescriptor yX7_drawnMade.desc).map (fun d => d.parameters.length) = some 1 := by decide +kernel
theorem wc_X7_inLowestTerms : Cond.code yX7_inLowestTerms cX7_inLowestTerms 4 (some .int) ∈ mGW := mIn 945 (by decide +kernel) rfl
theorem wt_X7_inLowestTerms : Cond.static yX7_inLowestTerms ∈ mGW := mIn 944 (by decide +kernel) rfl
theorem wd_X7_inLowestTerms : yX7_inLowestTerms.cls ≠ "java/lang/invoke/MethodHandle" ∧ yX7_inLowestTerms.cls ≠ "java/lang/invoke/VarHandle" ∧ (parseMethodDescriptor yX7_inLowestTerms.desc).map (fun d => d.parameters.length) = some 3 := by decide +kernel
theorem wc_X7_firstOtherwise : Cond.code yX7_firstOtherwise cX7_firstOtherwise 5 (some .int) ∈ mGW := mIn 965 (by decide +kernel) rfl
theorem wi_X7_firstOtherwise : Cond.instanceMethod yX7_firstOtherwise ∈ mGW := mIn 964 (by decide +kernel) rfl
theorem wl_X7_firstOtherwise : Cond.selects RX7 yX7_firstOtherwise yX7_firstOtherwise ∈ mGW := mInS 22 (by decide +kernel) rfl
theorem wd_X7_firstOtherwise : yX7_firstOtherwise.cls ≠ "java/lang/invoke/MethodHandle" ∧ yX7_firstOtherwise.cls ≠ "java/lang/invoke/VarHandle" ∧ (parseMethodDescriptor yX7_firstOtherwise.desc).map (fun d => d.parameters.length) = some 1 := by decide +kernel
theorem wc_X7_trumpsThatFit : Cond.code yX7_trumpsThatFit cX7_trumpsThatFit 4 (some .int) ∈ mGW := mIn 969 (by decide +kernel) rfl
theorem wi_X7_trumpsThatFit : Cond.instanceMethod yX7_trumpsThatFit ∈ mGW := mIn 968 (by decide +kernel) rfl
theorem wl_X7_trumpsThatFit : Cond.selects RX7 yX7_trumpsThatFit yX7_trumpsThatFit ∈ mGW := mInS 23 (by decide +kernel) rfl
theorem wd_X7_trumpsThatFit : yX7_trumpsThatFit.cls ≠ "java/lang/invoke/MethodHandle" ∧ yX7_trumpsThatFit.cls ≠ "java/lang/invoke/VarHandle" ∧ (parseMethodDescriptor yX7_trumpsThatFit.desc).map (fun d => d.parameters.length) = some 1 := by decide +kernel
theorem wc_X7_rankingsThatFit : Cond.code yX7_rankingsThatFit cX7_rankingsThatFit 5 (some .int) ∈ mGW := mIn 978 (by decide +kernel) rfl
theorem wi_X7_rankingsThatFit : Cond.instanceMethod yX7_rankingsThatFit ∈ mGW := mIn 977 (by decide +kernel) rfl
theorem wl_X7_rankingsThatFit : Cond.selects RX7 yX7_rankingsThatFit yX7_rankingsThatFit ∈ mGW := mInS 25 (by decide +kernel) rfl
theorem wd_X7_rankingsThatFit : yX7_rankingsThatFit.cls ≠ "java/lang/invoke/MethodHandle" ∧ yX7_rankingsThatFit.cls ≠ "java/lang/invoke/VarHandle" ∧ (parseMethodDescriptor yX7_rankingsThatFit.desc).map (fun d => d.parameters.length) = some 1 := by decide +kernel
theorem wc_X7_wouldBeSo : Cond.code yX7_wouldBeSo cX7_wouldBeSo 5 (some .boolean) ∈ mGW := mIn 973 (by decide +kernel) rfl
theorem wi_X7_wouldBeSo : Cond.instanceMethod yX7_wouldBeSo ∈ mGW := mIn 972 (by decide +kernel) rfl
theorem wl_X7_wouldBeSo : Cond.selects RX7 yX7_wouldBeSo yX7_wouldBeSo ∈ mGW := mInS 24 (by decide +kernel) rfl
theorem wd_X7_wouldBeSo : yX7_wouldBeSo.cls ≠ "java/lang/invoke/MethodHandle" ∧ yX7_wouldBeSo.cls ≠ "java/lang/invoke/VarHandle" ∧ (parseMethodDescriptor yX7_wouldBeSo.desc).map (fun d => d.parameters.length) = some 3 := by decide +kernel
theorem wc_X7_at : Cond.code yX7_at cX7_at 2 (some .int) ∈ mGW := mIn 386 (by decide +kernel) rfl
theorem wt_X7_at : Cond.static yX7_at ∈ mGW := mIn 385 (by decide +kernel) rfl
theorem wd_X7_at : yX7_at.cls ≠ "java/lang/invoke/MethodHandle" ∧ yX7_at.cls ≠ "java/lang/invoke/VarHandle" ∧ (parseMethodDescriptor yX7_at.desc).map (fun d => d.parameters.length) = some 2 := by decide +kernel
theorem wc_X7_set : Cond.code yX7_set cX7_set 3 (none) ∈ mGW := mIn 367 (by decide +kernel) rfl
theorem wt_X7_set : Cond.static yX7_set ∈ mGW := mIn 366 (by decide +kernel) rfl
theorem wd_X7_set : yX7_set.cls ≠ "java/lang/invoke/MethodHandle" ∧ yX7_set.cls ≠ "java/lang/invoke/VarHandle" ∧ (parseMethodDescriptor yX7_set.desc).map (fun d => d.parameters.length) = some 3 := by decide +kernel
theorem wc_X7_fill : Cond.code yX7_fill cX7_fill 3 (none) ∈ mGW := mIn 234 (by decide +kernel) rfl
theorem wt_X7_fill : Cond.static yX7_fill ∈ mGW := mIn 233 (by decide +kernel) rfl
theorem wd_X7_fill : yX7_fill.cls ≠ "java/lang/invoke/MethodHandle" ∧ yX7_fill.cls ≠ "java/lang/invoke/VarHandle" ∧ (parseMethodDescriptor yX7_fill.desc).map (fun d => d.parameters.length) = some 2 := by decide +kernel
theorem wc_X7_take : Cond.code yX7_take cX7_take 2 (none) ∈ mGW := mIn 545 (by decide +kernel) rfl
theorem wt_X7_take : Cond.static yX7_take ∈ mGW := mIn 544 (by decide +kernel) rfl
theorem wd_X7_take : yX7_take.cls ≠ "java/lang/invoke/MethodHandle" ∧ yX7_take.cls ≠ "java/lang/invoke/VarHandle" ∧ (parseMethodDescriptor yX7_take.desc).map (fun d => d.parameters.length) = some 2 := by decide +kernel
theorem wc_X7_sheetAt : Cond.code yX7_sheetAt cX7_sheetAt 2 (some (.object "TrickHouse$Sheet")) ∈ mGW := mIn 957 (by decide +kernel) rfl
theorem wi_X7_sheetAt : Cond.instanceMethod yX7_sheetAt ∈ mGW := mIn 956 (by decide +kernel) rfl
theorem wl_X7_sheetAt : Cond.selects RX7 yX7_sheetAt yX7_sheetAt ∈ mGW := mInS 21 (by decide +kernel) rfl
theorem wd_X7_sheetAt : yX7_sheetAt.cls ≠ "java/lang/invoke/MethodHandle" ∧ yX7_sheetAt.cls ≠ "java/lang/invoke/VarHandle" ∧ (parseMethodDescriptor yX7_sheetAt.desc).map (fun d => d.parameters.length) = some 1 := by decide +kernel
theorem wc_X7_isByte : Cond.code yX7_isByte cX7_isByte 1 (some .boolean) ∈ mGW := mIn 360 (by decide +kernel) rfl
theorem wt_X7_isByte : Cond.static yX7_isByte ∈ mGW := mIn 359 (by decide +kernel) rfl
theorem wd_X7_isByte : yX7_isByte.cls ≠ "java/lang/invoke/MethodHandle" ∧ yX7_isByte.cls ≠ "java/lang/invoke/VarHandle" ∧ (parseMethodDescriptor yX7_isByte.desc).map (fun d => d.parameters.length) = some 1 := by decide +kernel
theorem wc_X7_isCard : Cond.code yX7_isCard cX7_isCard 1 (some .boolean) ∈ mGW := mIn 572 (by decide +kernel) rfl
theorem wt_X7_isCard : Cond.static yX7_isCard ∈ mGW := mIn 571 (by decide +kernel) rfl
theorem wd_X7_isCard : yX7_isCard.cls ≠ "java/lang/invoke/MethodHandle" ∧ yX7_isCard.cls ≠ "java/lang/invoke/VarHandle" ∧ (parseMethodDescriptor yX7_isCard.desc).map (fun d => d.parameters.length) = some 1 := by decide +kernel
theorem wc_X7_isHouse : Cond.code yX7_isHouse cX7_isHouse 1 (some .boolean) ∈ mGW := mIn 896 (by decide +kernel) rfl
theorem wt_X7_isHouse : Cond.static yX7_isHouse ∈ mGW := mIn 895 (by decide +kernel) rfl
theorem wd_X7_isHouse : yX7_isHouse.cls ≠ "java/lang/invoke/MethodHandle" ∧ yX7_isHouse.cls ≠ "java/lang/invoke/VarHandle" ∧ (parseMethodDescriptor yX7_isHouse.desc).map (fun d => d.parameters.length) = some 1 := by decide +kernel
theorem wc_X7_nextSeed : Cond.code yX7_nextSeed cX7_nextSeed 1 (some .int) ∈ mGW := mIn 611 (by decide +kernel) rfl
theorem wt_X7_nextSeed : Cond.static yX7_nextSeed ∈ mGW := mIn 610 (by decide +kernel) rfl
theorem wd_X7_nextSeed : yX7_nextSeed.cls ≠ "java/lang/invoke/MethodHandle" ∧ yX7_nextSeed.cls ≠ "java/lang/invoke/VarHandle" ∧ (parseMethodDescriptor yX7_nextSeed.desc).map (fun d => d.parameters.length) = some 1 := by decide +kernel
theorem wc_X7_bitOf : Cond.code yX7_bitOf cX7_bitOf 1 (some .int) ∈ mGW := mIn 533 (by decide +kernel) rfl
theorem wt_X7_bitOf : Cond.static yX7_bitOf ∈ mGW := mIn 532 (by decide +kernel) rfl
theorem wd_X7_bitOf : yX7_bitOf.cls ≠ "java/lang/invoke/MethodHandle" ∧ yX7_bitOf.cls ≠ "java/lang/invoke/VarHandle" ∧ (parseMethodDescriptor yX7_bitOf.desc).map (fun d => d.parameters.length) = some 1 := by decide +kernel
theorem wc_X7_bitsOfSuit : Cond.code yX7_bitsOfSuit cX7_bitsOfSuit 1 (some .int) ∈ mGW := mIn 520 (by decide +kernel) rfl
theorem wt_X7_bitsOfSuit : Cond.static yX7_bitsOfSuit ∈ mGW := mIn 519 (by decide +kernel) rfl
theorem wd_X7_bitsOfSuit : yX7_bitsOfSuit.cls ≠ "java/lang/invoke/MethodHandle" ∧ yX7_bitsOfSuit.cls ≠ "java/lang/invoke/VarHandle" ∧ (parseMethodDescriptor yX7_bitsOfSuit.desc).map (fun d => d.parameters.length) = some 1 := by decide +kernel
theorem wc_X7_lowestCard : Cond.code yX7_lowestCard cX7_lowestCard 1 (some .int) ∈ mGW := mIn 565 (by decide +kernel) rfl
theorem wt_X7_lowestCard : Cond.static yX7_lowestCard ∈ mGW := mIn 564 (by decide +kernel) rfl
theorem wd_X7_lowestCard : yX7_lowestCard.cls ≠ "java/lang/invoke/MethodHandle" ∧ yX7_lowestCard.cls ≠ "java/lang/invoke/VarHandle" ∧ (parseMethodDescriptor yX7_lowestCard.desc).map (fun d => d.parameters.length) = some 1 := by decide +kernel
theorem wc_X7_cardByNumber : Cond.code yX7_cardByNumber cX7_cardByNumber 4 (some .int) ∈ mGW := mIn 938 (by decide +kernel) rfl
theorem wt_X7_cardByNumber : Cond.static yX7_cardByNumber ∈ mGW := mIn 937 (by decide +kernel) rfl
theorem wd_X7_cardByNumber : yX7_cardByNumber.cls ≠ "java/lang/invoke/MethodHandle" ∧ yX7_cardByNumber.cls ≠ "java/lang/invoke/VarHandle" ∧ (parseMethodDescriptor yX7_cardByNumber.desc).map (fun d => d.parameters.length) = some 2 := by decide +kernel
theorem wc_X7_strengthOf : Cond.code yX7_strengthOf cX7_strengthOf 4 (some .int) ∈ mGW := mIn 527 (by decide +kernel) rfl
theorem wt_X7_strengthOf : Cond.static yX7_strengthOf ∈ mGW := mIn 526 (by decide +kernel) rfl
theorem wd_X7_strengthOf : yX7_strengthOf.cls ≠ "java/lang/invoke/MethodHandle" ∧ yX7_strengthOf.cls ≠ "java/lang/invoke/VarHandle" ∧ (parseMethodDescriptor yX7_strengthOf.desc).map (fun d => d.parameters.length) = some 3 := by decide +kernel
theorem wc_X7_scoreBy : Cond.code yX7_scoreBy cX7_scoreBy 9 (some .int) ∈ mGW := mIn 657 (by decide +kernel) rfl
theorem wt_X7_scoreBy : Cond.static yX7_scoreBy ∈ mGW := mIn 656 (by decide +kernel) rfl
theorem wd_X7_scoreBy : yX7_scoreBy.cls ≠ "java/lang/invoke/MethodHandle" ∧ yX7_scoreBy.cls ≠ "java/lang/invoke/VarHandle" ∧ (parseMethodDescriptor yX7_scoreBy.desc).map (fun d => d.parameters.length) = some 5 := by decide +kernel
theorem wc_X8_init : Cond.code yX8_init cX8_init 1 (none) ∈ mGW := mIn 1022 (by decide +kernel) rfl
theorem wi_X8_init : Cond.instanceMethod yX8_init ∈ mGW := mIn 1021 (by decide +kernel) rfl
theorem wd_X8_init : yX8_init.cls ≠ "java/lang/invoke/MethodHandle" ∧ yX8_init.cls ≠ "java/lang/invoke/VarHandle" ∧ (parseMethodDescriptor yX8_init.desc).map (fun d => d.parameters.length) = some 0 := by decide +kernel
theorem wc_X8_in : Cond.code yX8_in cX8_in 3 (some .boolean) ∈ mGW := mIn 1238 (by decide +kernel) rfl
theorem wt_X8_in : Cond.static yX8_in ∈ mGW := mIn 1237 (by decide +kernel) rfl
theorem wd_X8_in : yX8_in.cls ≠ "java/lang/invoke/MethodHandle" ∧ yX8_in.cls ≠ "java/lang/invoke/VarHandle" ∧ (parseMethodDescriptor yX8_in.desc).map (fun d => d.parameters.length) = some 3 := by decide +kernel
theorem wc_X8_side : Cond.code yX8_side cX8_side 1 (some .int) ∈ mGW := mIn 1211 (by decide +kernel) rfl
theorem wt_X8_side : Cond.static yX8_side ∈ mGW := mIn 1210 (by decide +kernel) rfl
theorem wd_X8_side : yX8_side.cls ≠ "java/lang/invoke/MethodHandle" ∧ yX8_side.cls ≠ "java/lang/invoke/VarHandle" ∧ (parseMethodDescriptor yX8_side.desc).map (fun d => d.parameters.length) = some 1 := by decide +kernel
theorem wc_X8_bit : Cond.code yX8_bit cX8_bit 1 (some .int) ∈ mGW := mIn 1208 (by decide +kernel) rfl
theorem wt_X8_bit : Cond.static yX8_bit ∈ mGW := mIn 1207 (by decide +kernel) rfl
theorem wd_X8_bit : yX8_bit.cls ≠ "java/lang/invoke/MethodHandle" ∧ yX8_bit.cls ≠ "java/lang/invoke/VarHandle" ∧ (parseMethodDescriptor yX8_bit.desc).map (fun d => d.parameters.length) = some 1 := by decide +kernel
theorem wc_X8_has : Cond.code yX8_has cX8_has 2 (some .boolean) ∈ mGW := mIn 1205 (by decide +kernel) rfl
theorem wt_X8_has : Cond.static yX8_has ∈ mGW := mIn 1204 (by decide +kernel) rfl
theorem wd_X8_has : yX8_has.cls ≠ "java/lang/invoke/MethodHandle" ∧ yX8_has.cls ≠ "java/lang/invoke/VarHandle" ∧ (parseMethodDescriptor yX8_has.desc).map (fun d => d.parameters.length) = some 2 := by decide +kernel
theorem wc_X8_clears : Cond.code yX8_clears cX8_clears 3 (none) ∈ mGW := mIn 1033 (by decide +kernel) rfl
theorem wi_X8_clears : Cond.instanceMethod yX8_clears ∈ mGW := mIn 1032 (by decide +kernel) rfl
theorem wl_X8_clears : Cond.selects RX8 yX8_clears yX8_clears ∈ mGW := mInS 27 (by decide +kernel) rfl
theorem wd_X8_clears : yX8_clears.cls ≠ "java/lang/invoke/MethodHandle" ∧ yX8_clears.cls ≠ "java/lang/invoke/VarHandle" ∧ (parseMethodDescriptor yX8_clears.desc).map (fun d => d.parameters.length) = some 0 := by decide +kernel
theorem wc_X8_begins : Cond.code yX8_begins cX8_begins 2 (none) ∈ mGW := mIn 1029 (by decide +kernel) rfl
theorem wi_X8_begins : Cond.instanceMethod yX8_begins ∈ mGW := mIn 1028 (by decide +kernel) rfl
theorem wl_X8_begins : Cond.selects RX8 yX8_begins yX8_begins ∈ mGW := mInS 26 (by decide +kernel) rfl
theorem wd_X8_begins : yX8_begins.cls ≠ "java/lang/invoke/MethodHandle" ∧ yX8_begins.cls ≠ "java/lang/invoke/VarHandle" ∧ (parseMethodDescriptor yX8_begins.desc).map (fun d => d.parameters.length) = some 0 := by decide +kernel
theorem wc_X8_strengthBy : Cond.code yX8_strengthBy cX8_strengthBy 5 (some .int) ∈ mGW := mIn 1201 (by decide +kernel) rfl
theorem wt_X8_strengthBy : Cond.static yX8_strengthBy ∈ mGW := mIn 1200 (by decide +kernel) rfl
theorem wd_X8_strengthBy : yX8_strengthBy.cls ≠ "java/lang/invoke/MethodHandle" ∧ yX8_strengthBy.cls ≠ "java/lang/invoke/VarHandle" ∧ (parseMethodDescriptor yX8_strengthBy.desc).map (fun d => d.parameters.length) = some 3 := by decide +kernel
theorem wc_X8_wonBy : Cond.code yX8_wonBy cX8_wonBy 9 (some .int) ∈ mGW := mIn 1223 (by decide +kernel) rfl
theorem wi_X8_wonBy : Cond.instanceMethod yX8_wonBy ∈ mGW := mIn 1222 (by decide +kernel) rfl
theorem wl_X8_wonBy : Cond.selects RX8 yX8_wonBy yX8_wonBy ∈ mGW := mInS 34 (by decide +kernel) rfl
theorem wd_X8_wonBy : yX8_wonBy.cls ≠ "java/lang/invoke/MethodHandle" ∧ yX8_wonBy.cls ≠ "java/lang/invoke/VarHandle" ∧ (parseMethodDescriptor yX8_wonBy.desc).map (fun d => d.parameters.length) = some 3 := by decide +kernel
theorem wc_X8_trumpNow : Cond.code yX8_trumpNow cX8_trumpNow 1 (some .int) ∈ mGW := mIn 1198 (by decide +kernel) rfl
theorem wi_X8_trumpNow : Cond.instanceMethod yX8_trumpNow ∈ mGW := mIn 1197 (by decide +kernel) rfl
theorem wl_X8_trumpNow : Cond.selects RX8 yX8_trumpNow yX8_trumpNow ∈ mGW := mInS 31 (by decide +kernel) rfl
theorem wd_X8_trumpNow : yX8_trumpNow.cls ≠ "java/lang/invoke/MethodHandle" ∧ yX8_trumpNow.cls ≠ "java/lang/invoke/VarHandle" ∧ (parseMethodDescriptor yX8_trumpNow.desc).map (fun d => d.parameters.length) = some 0 := by decide +kernel
theorem wc_X8_ofSuit : Cond.code yX8_ofSuit cX8_ofSuit 2 (some .int) ∈ mGW := mIn 1194 (by decide +kernel) rfl
theorem wt_X8_ofSuit : Cond.static yX8_ofSuit ∈ mGW := mIn 1193 (by decide +kernel) rfl
theorem wd_X8_ofSuit : yX8_ofSuit.cls ≠ "java/lang/invoke/MethodHandle" ∧ yX8_ofSuit.cls ≠ "java/lang/invoke/VarHandle" ∧ (parseMethodDescriptor yX8_ofSuit.desc).map (fun d => d.parameters.length) = some 2 := by decide +kernel
theorem wc_X8_mayPlay : Cond.code yX8_mayPlay cX8_mayPlay 7 (some .int) ∈ mGW := mIn 1191 (by decide +kernel) rfl
theorem wi_X8_mayPlay : Cond.instanceMethod yX8_mayPlay ∈ mGW := mIn 1190 (by decide +kernel) rfl
theorem wl_X8_mayPlay : Cond.selects RX8 yX8_mayPlay yX8_mayPlay ∈ mGW := mInS 30 (by decide +kernel) rfl
theorem wd_X8_mayPlay : yX8_mayPlay.cls ≠ "java/lang/invoke/MethodHandle" ∧ yX8_mayPlay.cls ≠ "java/lang/invoke/VarHandle" ∧ (parseMethodDescriptor yX8_mayPlay.desc).map (fun d => d.parameters.length) = some 0 := by decide +kernel
theorem wc_X8_plain : Cond.code yX8_plain cX8_plain 7 (some .int) ∈ mGW := mIn 1341 (by decide +kernel) rfl
theorem wt_X8_plain : Cond.static yX8_plain ∈ mGW := mIn 1340 (by decide +kernel) rfl
theorem wd_X8_plain : yX8_plain.cls ≠ "java/lang/invoke/MethodHandle" ∧ yX8_plain.cls ≠ "java/lang/invoke/VarHandle" ∧ (parseMethodDescriptor yX8_plain.desc).map (fun d => d.parameters.length) = some 4 := by decide +kernel
theorem wc_X8_scored : Cond.code yX8_scored cX8_scored 5 (some .int) ∈ mGW := mIn 1338 (by decide +kernel) rfl
theorem wt_X8_scored : Cond.static yX8_scored ∈ mGW := mIn 1337 (by decide +kernel) rfl
theorem wd_X8_scored : yX8_scored.cls ≠ "java/lang/invoke/MethodHandle" ∧ yX8_scored.cls ≠ "java/lang/invoke/VarHandle" ∧ (parseMethodDescriptor yX8_scored.desc).map (fun d => d.parameters.length) = some 5 := by decide +kernel
theorem wc_X8_endsDeal : Cond.code yX8_endsDeal cX8_endsDeal 3 (none) ∈ mGW := mIn 1335 (by decide +kernel) rfl
theorem wi_X8_endsDeal : Cond.instanceMethod yX8_endsDeal ∈ mGW := mIn 1334 (by decide +kernel) rfl
theorem wl_X8_endsDeal : Cond.selects RX8 yX8_endsDeal yX8_endsDeal ∈ mGW := mInS 51 (by decide +kernel) rfl
theorem wd_X8_endsDeal : yX8_endsDeal.cls ≠ "java/lang/invoke/MethodHandle" ∧ yX8_endsDeal.cls ≠ "java/lang/invoke/VarHandle" ∧ (parseMethodDescriptor yX8_endsDeal.desc).map (fun d => d.parameters.length) = some 1 := by decide +kernel
theorem wc_X8_deals : Cond.code yX8_deals cX8_deals 6 (none) ∈ mGW := mIn 1322 (by decide +kernel) rfl
theorem wi_X8_deals : Cond.instanceMethod yX8_deals ∈ mGW := mIn 1321 (by decide +kernel) rfl
theorem wl_X8_deals : Cond.selects RX8 yX8_deals yX8_deals ∈ mGW := mInS 48 (by decide +kernel) rfl
theorem wd_X8_deals : yX8_deals.cls ≠ "java/lang/invoke/MethodHandle" ∧ yX8_deals.cls ≠ "java/lang/invoke/VarHandle" ∧ (parseMethodDescriptor yX8_deals.desc).map (fun d => d.parameters.length) = some 1 := by decide +kernel
theorem wc_X8_leads : Cond.code yX8_leads cX8_leads 2 (none) ∈ mGW := mIn 1227 (by decide +kernel) rfl
theorem wi_X8_leads : Cond.instanceMethod yX8_leads ∈ mGW := mIn 1226 (by decide +kernel) rfl
theorem wl_X8_leads : Cond.selects RX8 yX8_leads yX8_leads ∈ mGW := mInS 35 (by decide +kernel) rfl
theorem wd_X8_leads : yX8_leads.cls ≠ "java/lang/invoke/MethodHandle" ∧ yX8_leads.cls ≠ "java/lang/invoke/VarHandle" ∧ (parseMethodDescriptor yX8_leads.desc).map (fun d => d.parameters.length) = some 1 := by decide +kernel
theorem wc_X8_passes : Cond.code yX8_passes cX8_passes 1 (none) ∈ mGW := mIn 1331 (by decide +kernel) rfl
theorem wi_X8_passes : Cond.instanceMethod yX8_passes ∈ mGW := mIn 1330 (by decide +kernel) rfl
theorem wl_X8_passes : Cond.selects RX8 yX8_passes yX8_passes ∈ mGW := mInS 50 (by decide +kernel) rfl
theorem wd_X8_passes : yX8_passes.cls ≠ "java/lang/invoke/MethodHandle" ∧ yX8_passes.cls ≠ "java/lang/invoke/VarHandle" ∧ (parseMethodDescriptor yX8_passes.desc).map (fun d => d.parameters.length) = some 0 := by decide +kernel
theorem wc_X8_bids : Cond.code yX8_bids cX8_bids 3 (none) ∈ mGW := mIn 1327 (by decide +kernel) rfl
theorem wi_X8_bids : Cond.instanceMethod yX8_bids ∈ mGW := mIn 1326 (by decide +kernel) rfl
theorem wl_X8_bids : Cond.selects RX8 yX8_bids yX8_bids ∈ mGW := mInS 49 (by decide +kernel) rfl
theorem wd_X8_bids : yX8_bids.cls ≠ "java/lang/invoke/MethodHandle" ∧ yX8_bids.cls ≠ "java/lang/invoke/VarHandle" ∧ (parseMethodDescriptor yX8_bids.desc).map (fun d => d.parameters.length) = some 2 := by decide +kernel
theorem wc_X8_plays : Cond.code yX8_plays cX8_plays 3 (none) ∈ mGW := mIn 1219 (by decide +kernel) rfl
theorem wi_X8_plays : Cond.instanceMethod yX8_plays ∈ mGW := mIn 1218 (by decide +kernel) rfl
theorem wl_X8_plays : Cond.selects RX8 yX8_plays yX8_plays ∈ mGW := mInS 33 (by decide +kernel) rfl
theorem wd_X8_plays : yX8_plays.cls ≠ "java/lang/invoke/MethodHandle" ∧ yX8_plays.cls ≠ "java/lang/invoke/VarHandle" ∧ (parseMethodDescriptor yX8_plays.desc).map (fun d => d.parameters.length) = some 1 := by decide +kernel
theorem wc_X8_doesAct : Cond.code yX8_doesAct cX8_doesAct 4 (none) ∈ mGW := mIn 1318 (by decide +kernel) rfl
theorem wi_X8_doesAct : Cond.instanceMethod yX8_doesAct ∈ mGW := mIn 1317 (by decide +kernel) rfl
theorem wl_X8_doesAct : Cond.selects RX8 yX8_doesAct yX8_doesAct ∈ mGW := mInS 47 (by decide +kernel) rfl
theorem wd_X8_doesAct : yX8_doesAct.cls ≠ "java/lang/invoke/MethodHandle" ∧ yX8_doesAct.cls ≠ "java/lang/invoke/VarHandle" ∧ (parseMethodDescriptor yX8_doesAct.desc).map (fun d => d.parameters.length) = some 3 := by decide +kernel
theorem wc_X8_goesThrough : Cond.code yX8_goesThrough cX8_goesThrough 3 (none) ∈ mGW := mIn 1349 (by decide +kernel) rfl
theorem wi_X8_goesThrough : Cond.instanceMethod yX8_goesThrough ∈ mGW := mIn 1348 (by decide +kernel) rfl
theorem wl_X8_goesThrough : Cond.selects RX8 yX8_goesThrough yX8_goesThrough ∈ mGW := mInS 52 (by decide +kernel) rfl
theorem wd_X8_goesThrough : yX8_goesThrough.cls ≠ "java/lang/invoke/MethodHandle" ∧ yX8_goesThrough.cls ≠ "java/lang/invoke/VarHandle" ∧ (parseMethodDescriptor yX8_goesThrough.desc).map (fun d => d.parameters.length) = some 1 := by decide +kernel
theorem wc_X8_isLate : Cond.code yX8_isLate cX8_isLate 1 (some .boolean) ∈ mGW := mIn 1183 (by decide +kernel) rfl
theorem wi_X8_isLate : Cond.instanceMethod yX8_isLate ∈ mGW := mIn 1182 (by decide +kernel) rfl
theorem wl_X8_isLate : Cond.selects RX8 yX8_isLate yX8_isLate ∈ mGW := mInS 28 (by decide +kernel) rfl
theorem wd_X8_isLate : yX8_isLate.cls ≠ "java/lang/invoke/MethodHandle" ∧ yX8_isLate.cls ≠ "java/lang/invoke/VarHandle" ∧ (parseMethodDescriptor yX8_isLate.desc).map (fun d => d.parameters.length) = some 0 := by decide +kernel
theorem wc_X8_tried : Cond.code yX8_tried cX8_tried 6 (some .int) ∈ mGW := mIn 1215 (by decide +kernel) rfl
theorem wi_X8_tried : Cond.instanceMethod yX8_tried ∈ mGW := mIn 1214 (by decide +kernel) rfl
theorem wl_X8_tried : Cond.selects RX8 yX8_tried yX8_tried ∈ mGW := mInS 32 (by decide +kernel) rfl
theorem wd_X8_tried : yX8_tried.cls ≠ "java/lang/invoke/MethodHandle" ∧ yX8_tried.cls ≠ "java/lang/invoke/VarHandle" ∧ (parseMethodDescriptor yX8_tried.desc).map (fun d => d.parameters.length) = some 1 := by decide +kernel
theorem wc_X8_solved : Cond.code yX8_solved cX8_solved 6 (some .int) ∈ mGW := mIn 1187 (by decide +kernel) rfl
theorem wi_X8_solved : Cond.instanceMethod yX8_solved ∈ mGW := mIn 1186 (by decide +kernel) rfl
theorem wl_X8_solved : Cond.selects RX8 yX8_solved yX8_solved ∈ mGW := mInS 29 (by decide +kernel) rfl
theorem wd_X8_solved : yX8_solved.cls ≠ "java/lang/invoke/MethodHandle" ∧ yX8_solved.cls ≠ "java/lang/invoke/VarHandle" ∧ (parseMethodDescriptor yX8_solved.desc).map (fun d => d.parameters.length) = some 0 := by decide +kernel
theorem wc_X8_forTurn : Cond.code yX8_forTurn cX8_forTurn 2 (some .int) ∈ mGW := mIn 1231 (by decide +kernel) rfl
theorem wi_X8_forTurn : Cond.instanceMethod yX8_forTurn ∈ mGW := mIn 1230 (by decide +kernel) rfl
theorem wl_X8_forTurn : Cond.selects RX8 yX8_forTurn yX8_forTurn ∈ mGW := mInS 36 (by decide +kernel) rfl
theorem wd_X8_forTurn : yX8_forTurn.cls ≠ "java/lang/invoke/MethodHandle" ∧ yX8_forTurn.cls ≠ "java/lang/invoke/VarHandle" ∧ (parseMethodDescriptor yX8_forTurn.desc).map (fun d => d.parameters.length) = some 1 := by decide +kernel
theorem wc_X8_open : Cond.code yX8_open cX8_open 1 (some .int) ∈ mGW := mIn 1179 (by decide +kernel) rfl
theorem wi_X8_open : Cond.instanceMethod yX8_open ∈ mGW := mIn 1177 (by decide +kernel) rfl
theorem wl_X8_open : Cond.selects RX8 yX8_open yX8_open ∈ mGW := mIn 1178 (by decide +kernel) rfl
theorem wd_X8_open : yX8_open.cls ≠ "java/lang/invoke/MethodHandle" ∧ yX8_open.cls ≠ "java/lang/invoke/VarHandle" ∧ (parseMethodDescriptor yX8_open.desc).map (fun d => d.parameters.length) = some 0 := by decide +kernel
theorem wc_X8_gains : Cond.code yX8_gains cX8_gains 2 (some .int) ∈ mGW := mIn 1235 (by decide +kernel) rfl
theorem wi_X8_gains : Cond.instanceMethod yX8_gains ∈ mGW := mIn 1233 (by decide +kernel) rfl
theorem wl_X8_gains : Cond.selects RX8 yX8_gains yX8_gains ∈ mGW := mIn 1234 (by decide +kernel) rfl
theorem wd_X8_gains : yX8_gains.cls ≠ "java/lang/invoke/MethodHandle" ∧ yX8_gains.cls ≠ "java/lang/invoke/VarHandle" ∧ (parseMethodDescriptor yX8_gains.desc).map (fun d => d.parameters.length) = some 1 := by decide +kernel
theorem wc_X8_best : Cond.code yX8_best cX8_best 9 (some .int) ∈ mGW := mIn 1242 (by decide +kernel) rfl
theorem wi_X8_best : Cond.instanceMethod yX8_best ∈ mGW := mIn 1240 (by decide +kernel) rfl
theorem wl_X8_best : Cond.selects RX8 yX8_best yX8_best ∈ mGW := mIn 1241 (by decide +kernel) rfl
theorem wd_X8_best : yX8_best.cls ≠ "java/lang/invoke/MethodHandle" ∧ yX8_best.cls ≠ "java/lang/invoke/VarHandle" ∧ (parseMethodDescriptor yX8_best.desc).map (fun d => d.parameters.length) = some 1 := by decide +kernel
theorem wc_X8_isByte : Cond.code yX8_isByte cX8_isByte 1 (some .boolean) ∈ mGW := mIn 1249 (by decide +kernel) rfl
theorem wt_X8_isByte : Cond.static yX8_isByte ∈ mGW := mIn 1248 (by decide +kernel) rfl
theorem wd_X8_isByte : yX8_isByte.cls ≠ "java/lang/invoke/MethodHandle" ∧ yX8_isByte.cls ≠ "java/lang/invoke/VarHandle" ∧ (parseMethodDescriptor yX8_isByte.desc).map (fun d => d.parameters.length) = some 1 := by decide +kernel
theorem wc_X8_feed : Cond.code yX8_feed cX8_feed 8 (some .int) ∈ mGW := mIn 1246 (by decide +kernel) rfl
theorem wi_X8_feed : Cond.instanceMethod yX8_feed ∈ mGW := mIn 1244 (by decide +kernel) rfl
theorem wl_X8_feed : Cond.selects RX8 yX8_feed yX8_feed ∈ mGW := mIn 1245 (by decide +kernel) rfl
theorem wd_X8_feed : yX8_feed.cls ≠ "java/lang/invoke/MethodHandle" ∧ yX8_feed.cls ≠ "java/lang/invoke/VarHandle" ∧ (parseMethodDescriptor yX8_feed.desc).map (fun d => d.parameters.length) = some 6 := by decide +kernel
theorem wc_X8_byteAt : Cond.code yX8_byteAt cX8_byteAt 2 (some .int) ∈ mGW := mIn 1265 (by decide +kernel) rfl
theorem wi_X8_byteAt : Cond.instanceMethod yX8_byteAt ∈ mGW := mIn 1264 (by decide +kernel) rfl
theorem wl_X8_byteAt : Cond.selects RX8 yX8_byteAt yX8_byteAt ∈ mGW := mInS 39 (by decide +kernel) rfl
theorem wd_X8_byteAt : yX8_byteAt.cls ≠ "java/lang/invoke/MethodHandle" ∧ yX8_byteAt.cls ≠ "java/lang/invoke/VarHandle" ∧ (parseMethodDescriptor yX8_byteAt.desc).map (fun d => d.parameters.length) = some 1 := by decide +kernel
theorem wc_X8_isWord : Cond.code yX8_isWord cX8_isWord 3 (some .boolean) ∈ mGW := mIn 1274 (by decide +kernel) rfl
theorem wi_X8_isWord : Cond.instanceMethod yX8_isWord ∈ mGW := mIn 1273 (by decide +kernel) rfl
theorem wl_X8_isWord : Cond.selects RX8 yX8_isWord yX8_isWord ∈ mGW := mInS 41 (by decide +kernel) rfl
theorem wd_X8_isWord : yX8_isWord.cls ≠ "java/lang/invoke/MethodHandle" ∧ yX8_isWord.cls ≠ "java/lang/invoke/VarHandle" ∧ (parseMethodDescriptor yX8_isWord.desc).map (fun d => d.parameters.length) = some 1 := by decide +kernel
theorem wc_X8_wordOf : Cond.code yX8_wordOf cX8_wordOf 1 (some (.object "java/lang/String")) ∈ mGW := mIn 1287 (by decide +kernel) rfl
theorem wt_X8_wordOf : Cond.static yX8_wordOf ∈ mGW := mIn 1286 (by decide +kernel) rfl
theorem wd_X8_wordOf : yX8_wordOf.cls ≠ "java/lang/invoke/MethodHandle" ∧ yX8_wordOf.cls ≠ "java/lang/invoke/VarHandle" ∧ (parseMethodDescriptor yX8_wordOf.desc).map (fun d => d.parameters.length) = some 1 := by decide +kernel
theorem wc_X8_wordRead : Cond.code yX8_wordRead cX8_wordRead 2 (some .int) ∈ mGW := mIn 1284 (by decide +kernel) rfl
theorem wi_X8_wordRead : Cond.instanceMethod yX8_wordRead ∈ mGW := mIn 1283 (by decide +kernel) rfl
theorem wl_X8_wordRead : Cond.selects RX8 yX8_wordRead yX8_wordRead ∈ mGW := mInS 42 (by decide +kernel) rfl
theorem wd_X8_wordRead : yX8_wordRead.cls ≠ "java/lang/invoke/MethodHandle" ∧ yX8_wordRead.cls ≠ "java/lang/invoke/VarHandle" ∧ (parseMethodDescriptor yX8_wordRead.desc).map (fun d => d.parameters.length) = some 0 := by decide +kernel
theorem wc_X8_suitRead : Cond.code yX8_suitRead cX8_suitRead 1 (some .int) ∈ mGW := mIn 1269 (by decide +kernel) rfl
theorem wi_X8_suitRead : Cond.instanceMethod yX8_suitRead ∈ mGW := mIn 1268 (by decide +kernel) rfl
theorem wl_X8_suitRead : Cond.selects RX8 yX8_suitRead yX8_suitRead ∈ mGW := mInS 40 (by decide +kernel) rfl
theorem wd_X8_suitRead : yX8_suitRead.cls ≠ "java/lang/invoke/MethodHandle" ∧ yX8_suitRead.cls ≠ "java/lang/invoke/VarHandle" ∧ (parseMethodDescriptor yX8_suitRead.desc).map (fun d => d.parameters.length) = some 0 := by decide +kernel
theorem wc_X8_next : Cond.code yX8_next cX8_next 2 (none) ∈ mGW := mIn 1261 (by decide +kernel) rfl
theorem wi_X8_next : Cond.instanceMethod yX8_next ∈ mGW := mIn 1260 (by decide +kernel) rfl
theorem wl_X8_next : Cond.selects RX8 yX8_next yX8_next ∈ mGW := mInS 38 (by decide +kernel) rfl
theorem wd_X8_next : yX8_next.cls ≠ "java/lang/invoke/MethodHandle" ∧ yX8_next.cls ≠ "java/lang/invoke/VarHandle" ∧ (parseMethodDescriptor yX8_next.desc).map (fun d => d.parameters.length) = some 0 := by decide +kernel
theorem wc_X8_takes : Cond.code yX8_takes cX8_takes 4 (some .int) ∈ mGW := mIn 1300 (by decide +kernel) rfl
theorem wi_X8_takes : Cond.instanceMethod yX8_takes ∈ mGW := mIn 1299 (by decide +kernel) rfl
theorem wl_X8_takes : Cond.selects RX8 yX8_takes yX8_takes ∈ mGW := mInS 43 (by decide +kernel) rfl
theorem wd_X8_takes : yX8_takes.cls ≠ "java/lang/invoke/MethodHandle" ∧ yX8_takes.cls ≠ "java/lang/invoke/VarHandle" ∧ (parseMethodDescriptor yX8_takes.desc).map (fun d => d.parameters.length) = some 2 := by decide +kernel
theorem wc_X8_read : Cond.code yX8_read cX8_read 2 (some .int) ∈ mGW := mIn 1257 (by decide +kernel) rfl
theorem wi_X8_read : Cond.instanceMethod yX8_read ∈ mGW := mIn 1256 (by decide +kernel) rfl
theorem wl_X8_read : Cond.selects RX8 yX8_read yX8_read ∈ mGW := mInS 37 (by decide +kernel) rfl
theorem wd_X8_read : yX8_read.cls ≠ "java/lang/invoke/MethodHandle" ∧ yX8_read.cls ≠ "java/lang/invoke/VarHandle" ∧ (parseMethodDescriptor yX8_read.desc).map (fun d => d.parameters.length) = some 0 := by decide +kernel
theorem wc_X8_isTime : Cond.code yX8_isTime cX8_isTime 2 (some .boolean) ∈ mGW := mIn 1305 (by decide +kernel) rfl
theorem wi_X8_isTime : Cond.instanceMethod yX8_isTime ∈ mGW := mIn 1304 (by decide +kernel) rfl
theorem wl_X8_isTime : Cond.selects RX8 yX8_isTime yX8_isTime ∈ mGW := mInS 44 (by decide +kernel) rfl
theorem wd_X8_isTime : yX8_isTime.cls ≠ "java/lang/invoke/MethodHandle" ∧ yX8_isTime.cls ≠ "java/lang/invoke/VarHandle" ∧ (parseMethodDescriptor yX8_isTime.desc).map (fun d => d.parameters.length) = some 1 := by decide +kernel
theorem wc_X8_isNumber : Cond.code yX8_isNumber cX8_isNumber 2 (some .boolean) ∈ mGW := mIn 1309 (by decide +kernel) rfl
theorem wi_X8_isNumber : Cond.instanceMethod yX8_isNumber ∈ mGW := mIn 1308 (by decide +kernel) rfl
theorem wl_X8_isNumber : Cond.selects RX8 yX8_isNumber yX8_isNumber ∈ mGW := mInS 45 (by decide +kernel) rfl
theorem wd_X8_isNumber : yX8_isNumber.cls ≠ "java/lang/invoke/MethodHandle" ∧ yX8_isNumber.cls ≠ "java/lang/invoke/VarHandle" ∧ (parseMethodDescriptor yX8_isNumber.desc).map (fun d => d.parameters.length) = some 1 := by decide +kernel
theorem wc_X8_isFair : Cond.code yX8_isFair cX8_isFair 2 (some .boolean) ∈ mGW := mIn 1313 (by decide +kernel) rfl
theorem wi_X8_isFair : Cond.instanceMethod yX8_isFair ∈ mGW := mIn 1312 (by decide +kernel) rfl
theorem wl_X8_isFair : Cond.selects RX8 yX8_isFair yX8_isFair ∈ mGW := mInS 46 (by decide +kernel) rfl
theorem wd_X8_isFair : yX8_isFair.cls ≠ "java/lang/invoke/MethodHandle" ∧ yX8_isFair.cls ≠ "java/lang/invoke/VarHandle" ∧ (parseMethodDescriptor yX8_isFair.desc).map (fun d => d.parameters.length) = some 1 := by decide +kernel
theorem wc_X8_act : Cond.code yX8_act cX8_act 2 (some .int) ∈ mGW := mIn 1253 (by decide +kernel) rfl
theorem wi_X8_act : Cond.instanceMethod yX8_act ∈ mGW := mIn 1251 (by decide +kernel) rfl
theorem wl_X8_act : Cond.selects RX8 yX8_act yX8_act ∈ mGW := mIn 1252 (by decide +kernel) rfl
theorem wd_X8_act : yX8_act.cls ≠ "java/lang/invoke/MethodHandle" ∧ yX8_act.cls ≠ "java/lang/invoke/VarHandle" ∧ (parseMethodDescriptor yX8_act.desc).map (fun d => d.parameters.length) = some 0 := by decide +kernel
theorem wc_X8_undo : Cond.code yX8_undo cX8_undo 1 (some .int) ∈ mGW := mIn 1345 (by decide +kernel) rfl
theorem wi_X8_undo : Cond.instanceMethod yX8_undo ∈ mGW := mIn 1343 (by decide +kernel) rfl
theorem wl_X8_undo : Cond.selects RX8 yX8_undo yX8_undo ∈ mGW := mIn 1344 (by decide +kernel) rfl
theorem wd_X8_undo : yX8_undo.cls ≠ "java/lang/invoke/MethodHandle" ∧ yX8_undo.cls ≠ "java/lang/invoke/VarHandle" ∧ (parseMethodDescriptor yX8_undo.desc).map (fun d => d.parameters.length) = some 0 := by decide +kernel
theorem wc_X8_log : Cond.code yX8_log cX8_log 3 (some .int) ∈ mGW := mIn 1353 (by decide +kernel) rfl
theorem wi_X8_log : Cond.instanceMethod yX8_log ∈ mGW := mIn 1351 (by decide +kernel) rfl
theorem wl_X8_log : Cond.selects RX8 yX8_log yX8_log ∈ mGW := mIn 1352 (by decide +kernel) rfl
theorem wd_X8_log : yX8_log.cls ≠ "java/lang/invoke/MethodHandle" ∧ yX8_log.cls ≠ "java/lang/invoke/VarHandle" ∧ (parseMethodDescriptor yX8_log.desc).map (fun d => d.parameters.length) = some 2 := by decide +kernel
theorem wc_X8_textOf : Cond.code yX8_textOf cX8_textOf 4 (some (.object "java/lang/String")) ∈ mGW := mIn 1361 (by decide +kernel) rfl
theorem wi_X8_textOf : Cond.instanceMethod yX8_textOf ∈ mGW := mIn 1360 (by decide +kernel) rfl
theorem wl_X8_textOf : Cond.selects RX8 yX8_textOf yX8_textOf ∈ mGW := mInS 53 (by decide +kernel) rfl
theorem wd_X8_textOf : yX8_textOf.cls ≠ "java/lang/invoke/MethodHandle" ∧ yX8_textOf.cls ≠ "java/lang/invoke/VarHandle" ∧ (parseMethodDescriptor yX8_textOf.desc).map (fun d => d.parameters.length) = some 1 := by decide +kernel
theorem wc_X8_print : Cond.code yX8_print cX8_print 4 (some .int) ∈ mGW := mIn 1357 (by decide +kernel) rfl
theorem wi_X8_print : Cond.instanceMethod yX8_print ∈ mGW := mIn 1355 (by decide +kernel) rfl
theorem wl_X8_print : Cond.selects RX8 yX8_print yX8_print ∈ mGW := mIn 1356 (by decide +kernel) rfl
theorem wd_X8_print : yX8_print.cls ≠ "java/lang/invoke/MethodHandle" ∧ yX8_print.cls ≠ "java/lang/invoke/VarHandle" ∧ (parseMethodDescriptor yX8_print.desc).map (fun d => d.parameters.length) = some 2 := by decide +kernel
theorem wc_X8_answer : Cond.code yX8_answer cX8_answer 2 (some .int) ∈ mGW := mIn 1426 (by decide +kernel) rfl
theorem wi_X8_answer : Cond.instanceMethod yX8_answer ∈ mGW := mIn 1425 (by decide +kernel) rfl
theorem wl_X8_answer : Cond.selects RX8 yX8_answer yX8_answer ∈ mGW := mInS 54 (by decide +kernel) rfl
theorem wd_X8_answer : yX8_answer.cls ≠ "java/lang/invoke/MethodHandle" ∧ yX8_answer.cls ≠ "java/lang/invoke/VarHandle" ∧ (parseMethodDescriptor yX8_answer.desc).map (fun d => d.parameters.length) = some 1 := by decide +kernel
theorem wc_X8_told : Cond.code yX8_told cX8_told 2 (some .int) ∈ mGW := mIn 1422 (by decide +kernel) rfl
theorem wi_X8_told : Cond.instanceMethod yX8_told ∈ mGW := mIn 1420 (by decide +kernel) rfl
theorem wl_X8_told : Cond.selects RX8 yX8_told yX8_told ∈ mGW := mIn 1421 (by decide +kernel) rfl
theorem wd_X8_told : yX8_told.cls ≠ "java/lang/invoke/MethodHandle" ∧ yX8_told.cls ≠ "java/lang/invoke/VarHandle" ∧ (parseMethodDescriptor yX8_told.desc).map (fun d => d.parameters.length) = some 1 := by decide +kernel
theorem wc_X8_hand : Cond.code yX8_hand cX8_hand 3 (some .int) ∈ mGW := mIn 1430 (by decide +kernel) rfl
theorem wi_X8_hand : Cond.instanceMethod yX8_hand ∈ mGW := mIn 1428 (by decide +kernel) rfl
theorem wl_X8_hand : Cond.selects RX8 yX8_hand yX8_hand ∈ mGW := mIn 1429 (by decide +kernel) rfl
theorem wd_X8_hand : yX8_hand.cls ≠ "java/lang/invoke/MethodHandle" ∧ yX8_hand.cls ≠ "java/lang/invoke/VarHandle" ∧ (parseMethodDescriptor yX8_hand.desc).map (fun d => d.parameters.length) = some 2 := by decide +kernel
theorem wc_X8_trick : Cond.code yX8_trick cX8_trick 3 (some .int) ∈ mGW := mIn 1434 (by decide +kernel) rfl
theorem wi_X8_trick : Cond.instanceMethod yX8_trick ∈ mGW := mIn 1432 (by decide +kernel) rfl
theorem wl_X8_trick : Cond.selects RX8 yX8_trick yX8_trick ∈ mGW := mIn 1433 (by decide +kernel) rfl
theorem wd_X8_trick : yX8_trick.cls ≠ "java/lang/invoke/MethodHandle" ∧ yX8_trick.cls ≠ "java/lang/invoke/VarHandle" ∧ (parseMethodDescriptor yX8_trick.desc).map (fun d => d.parameters.length) = some 2 := by decide +kernel
theorem wc_X8_strength : Cond.code yX8_strength cX8_strength 5 (some .int) ∈ mGW := mIn 1438 (by decide +kernel) rfl
theorem wi_X8_strength : Cond.instanceMethod yX8_strength ∈ mGW := mIn 1436 (by decide +kernel) rfl
theorem wl_X8_strength : Cond.selects RX8 yX8_strength yX8_strength ∈ mGW := mIn 1437 (by decide +kernel) rfl
theorem wd_X8_strength : yX8_strength.cls ≠ "java/lang/invoke/MethodHandle" ∧ yX8_strength.cls ≠ "java/lang/invoke/VarHandle" ∧ (parseMethodDescriptor yX8_strength.desc).map (fun d => d.parameters.length) = some 2 := by decide +kernel
theorem wc_X8_taken : Cond.code yX8_taken cX8_taken 5 (some .int) ∈ mGW := mIn 1442 (by decide +kernel) rfl
theorem wi_X8_taken : Cond.instanceMethod yX8_taken ∈ mGW := mIn 1440 (by decide +kernel) rfl
theorem wl_X8_taken : Cond.selects RX8 yX8_taken yX8_taken ∈ mGW := mIn 1441 (by decide +kernel) rfl
theorem wd_X8_taken : yX8_taken.cls ≠ "java/lang/invoke/MethodHandle" ∧ yX8_taken.cls ≠ "java/lang/invoke/VarHandle" ∧ (parseMethodDescriptor yX8_taken.desc).map (fun d => d.parameters.length) = some 2 := by decide +kernel
theorem wc_X8_isHouse : Cond.code yX8_isHouse cX8_isHouse 1 (some .boolean) ∈ mGW := mIn 1449 (by decide +kernel) rfl
theorem wt_X8_isHouse : Cond.static yX8_isHouse ∈ mGW := mIn 1448 (by decide +kernel) rfl
theorem wd_X8_isHouse : yX8_isHouse.cls ≠ "java/lang/invoke/MethodHandle" ∧ yX8_isHouse.cls ≠ "java/lang/invoke/VarHandle" ∧ (parseMethodDescriptor yX8_isHouse.desc).map (fun d => d.parameters.length) = some 1 := by decide +kernel
theorem wc_X8_score : Cond.code yX8_score cX8_score 2 (some .int) ∈ mGW := mIn 1446 (by decide +kernel) rfl
theorem wi_X8_score : Cond.instanceMethod yX8_score ∈ mGW := mIn 1444 (by decide +kernel) rfl
theorem wl_X8_score : Cond.selects RX8 yX8_score yX8_score ∈ mGW := mIn 1445 (by decide +kernel) rfl
theorem wd_X8_score : yX8_score.cls ≠ "java/lang/invoke/MethodHandle" ∧ yX8_score.cls ≠ "java/lang/invoke/VarHandle" ∧ (parseMethodDescriptor yX8_score.desc).map (fun d => d.parameters.length) = some 1 := by decide +kernel
theorem wc_X8_table : Cond.code yX8_table cX8_table 6 (some .int) ∈ mGW := mIn 1453 (by decide +kernel) rfl
theorem wi_X8_table : Cond.instanceMethod yX8_table ∈ mGW := mIn 1451 (by decide +kernel) rfl
theorem wl_X8_table : Cond.selects RX8 yX8_table yX8_table ∈ mGW := mIn 1452 (by decide +kernel) rfl
theorem wd_X8_table : yX8_table.cls ≠ "java/lang/invoke/MethodHandle" ∧ yX8_table.cls ≠ "java/lang/invoke/VarHandle" ∧ (parseMethodDescriptor yX8_table.desc).map (fun d => d.parameters.length) = some 5 := by decide +kernel
theorem wc_X8_total : Cond.code yX8_total cX8_total 3 (some .int) ∈ mGW := mIn 1457 (by decide +kernel) rfl
theorem wi_X8_total : Cond.instanceMethod yX8_total ∈ mGW := mIn 1455 (by decide +kernel) rfl
theorem wl_X8_total : Cond.selects RX8 yX8_total yX8_total ∈ mGW := mIn 1456 (by decide +kernel) rfl
theorem wd_X8_total : yX8_total.cls ≠ "java/lang/invoke/MethodHandle" ∧ yX8_total.cls ≠ "java/lang/invoke/VarHandle" ∧ (parseMethodDescriptor yX8_total.desc).map (fun d => d.parameters.length) = some 2 := by decide +kernel
theorem wc_X8_byLot : Cond.code yX8_byLot cX8_byLot 7 (some .int) ∈ mGW := mIn 1465 (by decide +kernel) rfl
theorem wi_X8_byLot : Cond.instanceMethod yX8_byLot ∈ mGW := mIn 1464 (by decide +kernel) rfl
theorem wl_X8_byLot : Cond.selects RX8 yX8_byLot yX8_byLot ∈ mGW := mInS 55 (by decide +kernel) rfl
theorem wd_X8_byLot : yX8_byLot.cls ≠ "java/lang/invoke/MethodHandle" ∧ yX8_byLot.cls ≠ "java/lang/invoke/VarHandle" ∧ (parseMethodDescriptor yX8_byLot.desc).map (fun d => d.parameters.length) = some 1 := by decide +kernel
theorem wc_X8_drawn : Cond.code yX8_drawn cX8_drawn 2 (some .int) ∈ mGW := mIn 1461 (by decide +kernel) rfl
theorem wi_X8_drawn : Cond.instanceMethod yX8_drawn ∈ mGW := mIn 1459 (by decide +kernel) rfl
theorem wl_X8_drawn : Cond.selects RX8 yX8_drawn yX8_drawn ∈ mGW := mIn 1460 (by decide +kernel) rfl
theorem wd_X8_drawn : yX8_drawn.cls ≠ "java/lang/invoke/MethodHandle" ∧ yX8_drawn.cls ≠ "java/lang/invoke/VarHandle" ∧ (parseMethodDescriptor yX8_drawn.desc).map (fun d => d.parameters.length) = some 1 := by decide +kernel
theorem wc_X8_common : Cond.code yX8_common cX8_common 2 (some .int) ∈ mGW := mIn 1473 (by decide +kernel) rfl
theorem wt_X8_common : Cond.static yX8_common ∈ mGW := mIn 1472 (by decide +kernel) rfl
theorem wd_X8_common : yX8_common.cls ≠ "java/lang/invoke/MethodHandle" ∧ yX8_common.cls ≠ "java/lang/invoke/VarHandle" ∧ (parseMethodDescriptor yX8_common.desc).map (fun d => d.parameters.length) = some 2 := by decide +kernel
theorem wc_X8_chance : Cond.code yX8_chance cX8_chance 6 (some .int) ∈ mGW := mIn 1470 (by decide +kernel) rfl
theorem wi_X8_chance : Cond.instanceMethod yX8_chance ∈ mGW := mIn 1468 (by decide +kernel) rfl
theorem wl_X8_chance : Cond.selects RX8 yX8_chance yX8_chance ∈ mGW := mIn 1469 (by decide +kernel) rfl
theorem wd_X8_chance : yX8_chance.cls ≠ "java/lang/invoke/MethodHandle" ∧ yX8_chance.cls ≠ "java/lang/invoke/VarHandle" ∧ (parseMethodDescriptor yX8_chance.desc).map (fun d => d.parameters.length) = some 3 := by decide +kernel
theorem wc_X8_replay : Cond.code yX8_replay cX8_replay 4 (some .int) ∈ mGW := mIn 1477 (by decide +kernel) rfl
theorem wi_X8_replay : Cond.instanceMethod yX8_replay ∈ mGW := mIn 1475 (by decide +kernel) rfl
theorem wl_X8_replay : Cond.selects RX8 yX8_replay yX8_replay ∈ mGW := mIn 1476 (by decide +kernel) rfl
theorem wd_X8_replay : yX8_replay.cls ≠ "java/lang/invoke/MethodHandle" ∧ yX8_replay.cls ≠ "java/lang/invoke/VarHandle" ∧ (parseMethodDescriptor yX8_replay.desc).map (fun d => d.parameters.length) = some 2 := by decide +kernel
theorem wc_X8_isSo : Cond.code yX8_isSo cX8_isSo 5 (some .boolean) ∈ mGW := mIn 1488 (by decide +kernel) rfl
theorem wi_X8_isSo : Cond.instanceMethod yX8_isSo ∈ mGW := mIn 1487 (by decide +kernel) rfl
theorem wl_X8_isSo : Cond.selects RX8 yX8_isSo yX8_isSo ∈ mGW := mInS 56 (by decide +kernel) rfl
theorem wd_X8_isSo : yX8_isSo.cls ≠ "java/lang/invoke/MethodHandle" ∧ yX8_isSo.cls ≠ "java/lang/invoke/VarHandle" ∧ (parseMethodDescriptor yX8_isSo.desc).map (fun d => d.parameters.length) = some 3 := by decide +kernel
theorem wc_X8_tells : Cond.code yX8_tells cX8_tells 5 (some .int) ∈ mGW := mIn 1481 (by decide +kernel) rfl
theorem wi_X8_tells : Cond.instanceMethod yX8_tells ∈ mGW := mIn 1479 (by decide +kernel) rfl
theorem wl_X8_tells : Cond.selects RX8 yX8_tells yX8_tells ∈ mGW := mIn 1480 (by decide +kernel) rfl
theorem wd_X8_tells : yX8_tells.cls ≠ "java/lang/invoke/MethodHandle" ∧ yX8_tells.cls ≠ "java/lang/invoke/VarHandle" ∧ (parseMethodDescriptor yX8_tells.desc).map (fun d => d.parameters.length) = some 2 := by decide +kernel
theorem wc_X8_film : Cond.code yX8_film cX8_film 3 (some .int) ∈ mGW := mIn 1492 (by decide +kernel) rfl
theorem wi_X8_film : Cond.instanceMethod yX8_film ∈ mGW := mIn 1490 (by decide +kernel) rfl
theorem wl_X8_film : Cond.selects RX8 yX8_film yX8_film ∈ mGW := mIn 1491 (by decide +kernel) rfl
theorem wd_X8_film : yX8_film.cls ≠ "java/lang/invoke/MethodHandle" ∧ yX8_film.cls ≠ "java/lang/invoke/VarHandle" ∧ (parseMethodDescriptor yX8_film.desc).map (fun d => d.parameters.length) = some 1 := by decide +kernel
theorem wc_X8_logRow : Cond.code yX8_logRow cX8_logRow 2 (some (.array .int)) ∈ mGW := mIn 1500 (by decide +kernel) rfl
theorem wi_X8_logRow : Cond.instanceMethod yX8_logRow ∈ mGW := mIn 1499 (by decide +kernel) rfl
theorem wl_X8_logRow : Cond.selects RX8 yX8_logRow yX8_logRow ∈ mGW := mInS 57 (by decide +kernel) rfl
theorem wd_X8_logRow : yX8_logRow.cls ≠ "java/lang/invoke/MethodHandle" ∧ yX8_logRow.cls ≠ "java/lang/invoke/VarHandle" ∧ (parseMethodDescriptor yX8_logRow.desc).map (fun d => d.parameters.length) = some 1 := by decide +kernel
theorem wc_X8_image : Cond.code yX8_image cX8_image 2 (some .int) ∈ mGW := mIn 1496 (by decide +kernel) rfl
theorem wi_X8_image : Cond.instanceMethod yX8_image ∈ mGW := mIn 1494 (by decide +kernel) rfl
theorem wl_X8_image : Cond.selects RX8 yX8_image yX8_image ∈ mGW := mIn 1495 (by decide +kernel) rfl
theorem wd_X8_image : yX8_image.cls ≠ "java/lang/invoke/MethodHandle" ∧ yX8_image.cls ≠ "java/lang/invoke/VarHandle" ∧ (parseMethodDescriptor yX8_image.desc).map (fun d => d.parameters.length) = some 0 := by decide +kernel
theorem wc_X8_back : Cond.code yX8_back cX8_back 2 (some .int) ∈ mGW := mIn 1505 (by decide +kernel) rfl
theorem wi_X8_back : Cond.instanceMethod yX8_back ∈ mGW := mIn 1503 (by decide +kernel) rfl
theorem wl_X8_back : Cond.selects RX8 yX8_back yX8_back ∈ mGW := mIn 1504 (by decide +kernel) rfl
theorem wd_X8_back : yX8_back.cls ≠ "java/lang/invoke/MethodHandle" ∧ yX8_back.cls ≠ "java/lang/invoke/VarHandle" ∧ (parseMethodDescriptor yX8_back.desc).map (fun d => d.parameters.length) = some 0 := by decide +kernel
theorem wc_X8_isSheet : Cond.code yX8_isSheet cX8_isSheet 1 (some .boolean) ∈ mGW := mIn 1484 (by decide +kernel) rfl
theorem wt_X8_isSheet : Cond.static yX8_isSheet ∈ mGW := mIn 1483 (by decide +kernel) rfl
theorem wd_X8_isSheet : yX8_isSheet.cls ≠ "java/lang/invoke/MethodHandle" ∧ yX8_isSheet.cls ≠ "java/lang/invoke/VarHandle" ∧ (parseMethodDescriptor yX8_isSheet.desc).map (fun d => d.parameters.length) = some 1 := by decide +kernel
theorem wc_X8_sheet : Cond.code yX8_sheet cX8_sheet 5 (some .int) ∈ mGW := mIn 1509 (by decide +kernel) rfl
theorem wi_X8_sheet : Cond.instanceMethod yX8_sheet ∈ mGW := mIn 1507 (by decide +kernel) rfl
theorem wl_X8_sheet : Cond.selects RX8 yX8_sheet yX8_sheet ∈ mGW := mIn 1508 (by decide +kernel) rfl
theorem wd_X8_sheet : yX8_sheet.cls ≠ "java/lang/invoke/MethodHandle" ∧ yX8_sheet.cls ≠ "java/lang/invoke/VarHandle" ∧ (parseMethodDescriptor yX8_sheet.desc).map (fun d => d.parameters.length) = some 3 := by decide +kernel
theorem wc_X8_cell : Cond.code yX8_cell cX8_cell 4 (some .int) ∈ mGW := mIn 1513 (by decide +kernel) rfl
theorem wi_X8_cell : Cond.instanceMethod yX8_cell ∈ mGW := mIn 1511 (by decide +kernel) rfl
theorem wl_X8_cell : Cond.selects RX8 yX8_cell yX8_cell ∈ mGW := mIn 1512 (by decide +kernel) rfl
theorem wd_X8_cell : yX8_cell.cls ≠ "java/lang/invoke/MethodHandle" ∧ yX8_cell.cls ≠ "java/lang/invoke/VarHandle" ∧ (parseMethodDescriptor yX8_cell.desc).map (fun d => d.parameters.length) = some 3 := by decide +kernel
theorem wc_X8_copy : Cond.code yX8_copy cX8_copy 6 (some .int) ∈ mGW := mIn 1517 (by decide +kernel) rfl
theorem wi_X8_copy : Cond.instanceMethod yX8_copy ∈ mGW := mIn 1515 (by decide +kernel) rfl
theorem wl_X8_copy : Cond.selects RX8 yX8_copy yX8_copy ∈ mGW := mIn 1516 (by decide +kernel) rfl
theorem wd_X8_copy : yX8_copy.cls ≠ "java/lang/invoke/MethodHandle" ∧ yX8_copy.cls ≠ "java/lang/invoke/VarHandle" ∧ (parseMethodDescriptor yX8_copy.desc).map (fun d => d.parameters.length) = some 5 := by decide +kernel
theorem wc_J5_init_d00df : Cond.code yJ5_init_d00df cJ5_init_d00df 2 (none) ∈ mGW := mIn 285 (by decide +kernel) rfl
theorem wi_J5_init_d00df : Cond.instanceMethod yJ5_init_d00df ∈ mGW := mIn 284 (by decide +kernel) rfl
theorem wd_J5_init_d00df : yJ5_init_d00df.cls ≠ "java/lang/invoke/MethodHandle" ∧ yJ5_init_d00df.cls ≠ "java/lang/invoke/VarHandle" ∧ (parseMethodDescriptor yJ5_init_d00df.desc).map (fun d => d.parameters.length) = some 1 := by decide +kernel
theorem wc_J5_length_8abf5 : Cond.code yJ5_length_8abf5 cJ5_length_8abf5 1 (some .int) ∈ mGW := mIn 846 (by decide +kernel) rfl
theorem wi_J5_length_8abf5 : Cond.instanceMethod yJ5_length_8abf5 ∈ mGW := mIn 845 (by decide +kernel) rfl
theorem wd_J5_length_8abf5 : yJ5_length_8abf5.cls ≠ "java/lang/invoke/MethodHandle" ∧ yJ5_length_8abf5.cls ≠ "java/lang/invoke/VarHandle" ∧ (parseMethodDescriptor yJ5_length_8abf5.desc).map (fun d => d.parameters.length) = some 0 := by decide +kernel
theorem wc_J5_ensureCapacityInternal_d00df : Cond.code yJ5_ensureCapacityInternal_d00df cJ5_ensureCapacityInternal_d00df 3 (none) ∈ mGW := mIn 695 (by decide +kernel) rfl
theorem wi_J5_ensureCapacityInternal_d00df : Cond.instanceMethod yJ5_ensureCapacityInternal_d00df ∈ mGW := mIn 694 (by decide +kernel) rfl
theorem wd_J5_ensureCapacityInternal_d00df : yJ5_ensureCapacityInternal_d00df.cls ≠ "java/lang/invoke/MethodHandle" ∧ yJ5_ensureCapacityInternal_d00df.cls ≠ "java/lang/invoke/VarHandle" ∧ (parseMethodDescriptor yJ5_ensureCapacityInternal_d00df.desc).map (fun d => d.parameters.length) = some 1 := by decide +kernel
theorem wc_J5_newCapacity_0f7a4 : Cond.code yJ5_newCapacity_0f7a4 cJ5_newCapacity_0f7a4 6 (some .int) ∈ mGW := mIn 699 (by decide +kernel) rfl
theorem wi_J5_newCapacity_0f7a4 : Cond.instanceMethod yJ5_newCapacity_0f7a4 ∈ mGW := mIn 698 (by decide +kernel) rfl
theorem wd_J5_newCapacity_0f7a4 : yJ5_newCapacity_0f7a4.cls ≠ "java/lang/invoke/MethodHandle" ∧ yJ5_newCapacity_0f7a4.cls ≠ "java/lang/invoke/VarHandle" ∧ (parseMethodDescriptor yJ5_newCapacity_0f7a4.desc).map (fun d => d.parameters.length) = some 1 := by decide +kernel
theorem wc_J5_inflate_da8c8 : Cond.code yJ5_inflate_da8c8 cJ5_inflate_da8c8 2 (none) ∈ mGW := mIn 779 (by decide +kernel) rfl
theorem wi_J5_inflate_da8c8 : Cond.instanceMethod yJ5_inflate_da8c8 ∈ mGW := mIn 778 (by decide +kernel) rfl
theorem wd_J5_inflate_da8c8 : yJ5_inflate_da8c8.cls ≠ "java/lang/invoke/MethodHandle" ∧ yJ5_inflate_da8c8.cls ≠ "java/lang/invoke/VarHandle" ∧ (parseMethodDescriptor yJ5_inflate_da8c8.desc).map (fun d => d.parameters.length) = some 0 := by decide +kernel
theorem wc_J5_setLength_d00df : Cond.code yJ5_setLength_d00df cJ5_setLength_d00df 2 (none) ∈ mGW := mIn 691 (by decide +kernel) rfl
theorem wi_J5_setLength_d00df : Cond.instanceMethod yJ5_setLength_d00df ∈ mGW := mIn 690 (by decide +kernel) rfl
theorem wd_J5_setLength_d00df : yJ5_setLength_d00df.cls ≠ "java/lang/invoke/MethodHandle" ∧ yJ5_setLength_d00df.cls ≠ "java/lang/invoke/VarHandle" ∧ (parseMethodDescriptor yJ5_setLength_d00df.desc).map (fun d => d.parameters.length) = some 1 := by decide +kernel
theorem wc_J5_charAt_5068e : Cond.code yJ5_charAt_5068e cJ5_charAt_5068e 5 (some .char) ∈ mGW := mIn 853 (by decide +kernel) rfl
theorem wi_J5_charAt_5068e : Cond.instanceMethod yJ5_charAt_5068e ∈ mGW := mIn 852 (by decide +kernel) rfl
theorem wd_J5_charAt_5068e : yJ5_charAt_5068e.cls ≠ "java/lang/invoke/MethodHandle" ∧ yJ5_charAt_5068e.cls ≠ "java/lang/invoke/VarHandle" ∧ (parseMethodDescriptor yJ5_charAt_5068e.desc).map (fun d => d.parameters.length) = some 1 := by decide +kernel
theorem wc_J5_append_cf1ce : Cond.code yJ5_append_cf1ce cJ5_append_cf1ce 3 (some (.object "java/lang/AbstractStringBuilder")) ∈ mGW := mIn 746 (by decide +kernel) rfl
theorem wi_J5_append_cf1ce : Cond.instanceMethod yJ5_append_cf1ce ∈ mGW := mIn 745 (by decide +kernel) rfl
theorem wd_J5_append_cf1ce : yJ5_append_cf1ce.cls ≠ "java/lang/invoke/MethodHandle" ∧ yJ5_append_cf1ce.cls ≠ "java/lang/invoke/VarHandle" ∧ (parseMethodDescriptor yJ5_append_cf1ce.desc).map (fun d => d.parameters.length) = some 1 := by decide +kernel
theorem wc_J5_appendNull_278bc : Cond.code yJ5_appendNull_278bc cJ5_appendNull_278bc 3 (some (.object "java/lang/AbstractStringBuilder")) ∈ mGW := mIn 750 (by decide +kernel) rfl
theorem wi_J5_appendNull_278bc : Cond.instanceMethod yJ5_appendNull_278bc ∈ mGW := mIn 749 (by decide +kernel) rfl
theorem wd_J5_appendNull_278bc : yJ5_appendNull_278bc.cls ≠ "java/lang/invoke/MethodHandle" ∧ yJ5_appendNull_278bc.cls ≠ "java/lang/invoke/VarHandle" ∧ (parseMethodDescriptor yJ5_appendNull_278bc.desc).map (fun d => d.parameters.length) = some 0 := by decide +kernel
theorem wc_J5_append_3fe6f : Cond.code yJ5_append_3fe6f cJ5_append_3fe6f 2 (some (.object "java/lang/AbstractStringBuilder")) ∈ mGW := mIn 807 (by decide +kernel) rfl
theorem wi_J5_append_3fe6f : Cond.instanceMethod yJ5_append_3fe6f ∈ mGW := mIn 806 (by decide +kernel) rfl
theorem wd_J5_append_3fe6f : yJ5_append_3fe6f.cls ≠ "java/lang/invoke/MethodHandle" ∧ yJ5_append_3fe6f.cls ≠ "java/lang/invoke/VarHandle" ∧ (parseMethodDescriptor yJ5_append_3fe6f.desc).map (fun d => d.parameters.length) = some 1 := by decide +kernel
theorem wc_J5_append_c97b9 : Cond.code yJ5_append_c97b9 cJ5_append_c97b9 4 (some (.object "java/lang/AbstractStringBuilder")) ∈ mGW := mIn 821 (by decide +kernel) rfl
theorem wi_J5_append_c97b9 : Cond.instanceMethod yJ5_append_c97b9 ∈ mGW := mIn 820 (by decide +kernel) rfl
theorem wd_J5_append_c97b9 : yJ5_append_c97b9.cls ≠ "java/lang/invoke/MethodHandle" ∧ yJ5_append_c97b9.cls ≠ "java/lang/invoke/VarHandle" ∧ (parseMethodDescriptor yJ5_append_c97b9.desc).map (fun d => d.parameters.length) = some 1 := by decide +kernel
theorem wc_J5_getValue_6d5f1 : Cond.code yJ5_getValue_6d5f1 cJ5_getValue_6d5f1 1 (some (.array .byte)) ∈ mGW := mIn 1385 (by decide +kernel) rfl
theorem wi_J5_getValue_6d5f1 : Cond.instanceMethod yJ5_getValue_6d5f1 ∈ mGW := mIn 1382 (by decide +kernel) rfl
theorem wd_J5_getValue_6d5f1 : yJ5_getValue_6d5f1.cls ≠ "java/lang/invoke/MethodHandle" ∧ yJ5_getValue_6d5f1.cls ≠ "java/lang/invoke/VarHandle" ∧ (parseMethodDescriptor yJ5_getValue_6d5f1.desc).map (fun d => d.parameters.length) = some 0 := by decide +kernel
theorem wc_J5_isLatin1_aae02 : Cond.code yJ5_isLatin1_aae02 cJ5_isLatin1_aae02 1 (some .boolean) ∈ mGW := mIn 725 (by decide +kernel) rfl
theorem wi_J5_isLatin1_aae02 : Cond.instanceMethod yJ5_isLatin1_aae02 ∈ mGW := mIn 722 (by decide +kernel) rfl
theorem wd_J5_isLatin1_aae02 : yJ5_isLatin1_aae02.cls ≠ "java/lang/invoke/MethodHandle" ∧ yJ5_isLatin1_aae02.cls ≠ "java/lang/invoke/VarHandle" ∧ (parseMethodDescriptor yJ5_isLatin1_aae02.desc).map (fun d => d.parameters.length) = some 0 := by decide +kernel
theorem wc_J5_inflateIfNeededFor_a7421 : Cond.code yJ5_inflateIfNeededFor_a7421 cJ5_inflateIfNeededFor_a7421 2 (none) ∈ mGW := mIn 774 (by decide +kernel) rfl
theorem wi_J5_inflateIfNeededFor_a7421 : Cond.instanceMethod yJ5_inflateIfNeededFor_a7421 ∈ mGW := mIn 773 (by decide +kernel) rfl
theorem wd_J5_inflateIfNeededFor_a7421 : yJ5_inflateIfNeededFor_a7421.cls ≠ "java/lang/invoke/MethodHandle" ∧ yJ5_inflateIfNeededFor_a7421.cls ≠ "java/lang/invoke/VarHandle" ∧ (parseMethodDescriptor yJ5_inflateIfNeededFor_a7421.desc).map (fun d => d.parameters.length) = some 1 := by decide +kernel
theorem wc_J5_putStringAt_47b60 : Cond.code yJ5_putStringAt_47b60 cJ5_putStringAt_47b60 3 (none) ∈ mGW := mIn 770 (by decide +kernel) rfl
theorem wi_J5_putStringAt_47b60 : Cond.instanceMethod yJ5_putStringAt_47b60 ∈ mGW := mIn 769 (by decide +kernel) rfl
theorem wd_J5_putStringAt_47b60 : yJ5_putStringAt_47b60.cls ≠ "java/lang/invoke/MethodHandle" ∧ yJ5_putStringAt_47b60.cls ≠ "java/lang/invoke/VarHandle" ∧ (parseMethodDescriptor yJ5_putStringAt_47b60.desc).map (fun d => d.parameters.length) = some 2 := by decide +kernel
theorem wc_J6_getChars_ba4f3 : Cond.code yJ6_getChars_ba4f3 cJ6_getChars_ba4f3 7 (some .int) ∈ mGW := mIn 827 (by decide +kernel) rfl
theorem wt_J6_getChars_ba4f3 : Cond.static yJ6_getChars_ba4f3 ∈ mGW := mIn 826 (by decide +kernel) rfl
theorem wd_J6_getChars_ba4f3 : yJ6_getChars_ba4f3.cls ≠ "java/lang/invoke/MethodHandle" ∧ yJ6_getChars_ba4f3.cls ≠ "java/lang/invoke/VarHandle" ∧ (parseMethodDescriptor yJ6_getChars_ba4f3.desc).map (fun d => d.parameters.length) = some 3 := by decide +kernel
theorem wc_J6_stringSize_0f7a4 : Cond.code yJ6_stringSize_0f7a4 cJ6_stringSize_0f7a4 4 (some .int) ∈ mGW := mIn 824 (by decide +kernel) rfl
theorem wt_J6_stringSize_0f7a4 : Cond.static yJ6_stringSize_0f7a4 ∈ mGW := mIn 823 (by decide +kernel) rfl
theorem wd_J6_stringSize_0f7a4 : yJ6_stringSize_0f7a4.cls ≠ "java/lang/invoke/MethodHandle" ∧ yJ6_stringSize_0f7a4.cls ≠ "java/lang/invoke/VarHandle" ∧ (parseMethodDescriptor yJ6_stringSize_0f7a4.desc).map (fun d => d.parameters.length) = some 1 := by decide +kernel
theorem wc_J6_bitCount_0f7a4 : Cond.code yJ6_bitCount_0f7a4 cJ6_bitCount_0f7a4 1 (some .int) ∈ mGW := mIn 559 (by decide +kernel) rfl
theorem wt_J6_bitCount_0f7a4 : Cond.static yJ6_bitCount_0f7a4 ∈ mGW := mIn 558 (by decide +kernel) rfl
theorem wd_J6_bitCount_0f7a4 : yJ6_bitCount_0f7a4.cls ≠ "java/lang/invoke/MethodHandle" ∧ yJ6_bitCount_0f7a4.cls ≠ "java/lang/invoke/VarHandle" ∧ (parseMethodDescriptor yJ6_bitCount_0f7a4.desc).map (fun d => d.parameters.length) = some 1 := by decide +kernel
theorem wc_J9_max_7cf53 : Cond.code yJ9_max_7cf53 cJ9_max_7cf53 2 (some .int) ∈ mGW := mIn 530 (by decide +kernel) rfl
theorem wt_J9_max_7cf53 : Cond.static yJ9_max_7cf53 ∈ mGW := mIn 529 (by decide +kernel) rfl
theorem wd_J9_max_7cf53 : yJ9_max_7cf53.cls ≠ "java/lang/invoke/MethodHandle" ∧ yJ9_max_7cf53.cls ≠ "java/lang/invoke/VarHandle" ∧ (parseMethodDescriptor yJ9_max_7cf53.desc).map (fun d => d.parameters.length) = some 2 := by decide +kernel
theorem wc_J9_min_7cf53 : Cond.code yJ9_min_7cf53 cJ9_min_7cf53 2 (some .int) ∈ mGW := mIn 548 (by decide +kernel) rfl
theorem wt_J9_min_7cf53 : Cond.static yJ9_min_7cf53 ∈ mGW := mIn 547 (by decide +kernel) rfl
theorem wd_J9_min_7cf53 : yJ9_min_7cf53.cls ≠ "java/lang/invoke/MethodHandle" ∧ yJ9_min_7cf53.cls ≠ "java/lang/invoke/VarHandle" ∧ (parseMethodDescriptor yJ9_min_7cf53.desc).map (fun d => d.parameters.length) = some 2 := by decide +kernel
theorem wc_J0_init_81219 : Cond.code yJ0_init_81219 cJ0_init_81219 2 (none) ∈ mGW := mIn 1376 (by decide +kernel) rfl
theorem wi_J0_init_81219 : Cond.instanceMethod yJ0_init_81219 ∈ mGW := mIn 1375 (by decide +kernel) rfl
theorem wd_J0_init_81219 : yJ0_init_81219.cls ≠ "java/lang/invoke/MethodHandle" ∧ yJ0_init_81219.cls ≠ "java/lang/invoke/VarHandle" ∧ (parseMethodDescriptor yJ0_init_81219.desc).map (fun d => d.parameters.length) = some 1 := by decide +kernel
theorem wc_J0_length_8abf5 : Cond.code yJ0_length_8abf5 cJ0_length_8abf5 1 (some .int) ∈ mGW := mIn 415 (by decide +kernel) rfl
theorem wi_J0_length_8abf5 : Cond.instanceMethod yJ0_length_8abf5 ∈ mGW := mIn 413 (by decide +kernel) rfl
theorem wl_J0_length_8abf5 : Cond.selects RJ0 yJ0_length_8abf5 yJ0_length_8abf5 ∈ mGW := mIn 414 (by decide +kernel) rfl
theorem wd_J0_length_8abf5 : yJ0_length_8abf5.cls ≠ "java/lang/invoke/MethodHandle" ∧ yJ0_length_8abf5.cls ≠ "java/lang/invoke/VarHandle" ∧ (parseMethodDescriptor yJ0_length_8abf5.desc).map (fun d => d.parameters.length) = some 0 := by decide +kernel
theorem wc_J0_charAt_5068e : Cond.code yJ0_charAt_5068e cJ0_charAt_5068e 2 (some .char) ∈ mGW := mIn 424 (by decide +kernel) rfl
theorem wi_J0_charAt_5068e : Cond.instanceMethod yJ0_charAt_5068e ∈ mGW := mIn 422 (by decide +kernel) rfl
theorem wl_J0_charAt_5068e : Cond.selects RJ0 yJ0_charAt_5068e yJ0_charAt_5068e ∈ mGW := mIn 423 (by decide +kernel) rfl
theorem wd_J0_charAt_5068e : yJ0_charAt_5068e.cls ≠ "java/lang/invoke/MethodHandle" ∧ yJ0_charAt_5068e.cls ≠ "java/lang/invoke/VarHandle" ∧ (parseMethodDescriptor yJ0_charAt_5068e.desc).map (fun d => d.parameters.length) = some 1 := by decide +kernel
theorem wc_J0_getBytes_840e7 : Cond.code yJ0_getBytes_840e7 cJ0_getBytes_840e7 4 (none) ∈ mGW := mIn 798 (by decide +kernel) rfl
theorem wi_J0_getBytes_840e7 : Cond.instanceMethod yJ0_getBytes_840e7 ∈ mGW := mIn 796 (by decide +kernel) rfl
theorem wl_J0_getBytes_840e7 : Cond.selects RJ0 yJ0_getBytes_840e7 yJ0_getBytes_840e7 ∈ mGW := mIn 797 (by decide +kernel) rfl
theorem wd_J0_getBytes_840e7 : yJ0_getBytes_840e7.cls ≠ "java/lang/invoke/MethodHandle" ∧ yJ0_getBytes_840e7.cls ≠ "java/lang/invoke/VarHandle" ∧ (parseMethodDescriptor yJ0_getBytes_840e7.desc).map (fun d => d.parameters.length) = some 3 := by decide +kernel
theorem wc_J0_init_db425 : Cond.code yJ0_init_db425 cJ0_init_db425 5 (none) ∈ mGW := mIn 1379 (by decide +kernel) rfl
theorem wi_J0_init_db425 : Cond.instanceMethod yJ0_init_db425 ∈ mGW := mIn 1378 (by decide +kernel) rfl
theorem wd_J0_init_db425 : yJ0_init_db425.cls ≠ "java/lang/invoke/MethodHandle" ∧ yJ0_init_db425.cls ≠ "java/lang/invoke/VarHandle" ∧ (parseMethodDescriptor yJ0_init_db425.desc).map (fun d => d.parameters.length) = some 2 := by decide +kernel
theorem wc_J0_coder_7d493 : Cond.code yJ0_coder_7d493 cJ0_coder_7d493 1 (some .byte) ∈ mGW := mIn 419 (by decide +kernel) rfl
theorem wi_J0_coder_7d493 : Cond.instanceMethod yJ0_coder_7d493 ∈ mGW := mIn 417 (by decide +kernel) rfl
theorem wl_J0_coder_7d493 : Cond.selects RJ0 yJ0_coder_7d493 yJ0_coder_7d493 ∈ mGW := mIn 418 (by decide +kernel) rfl
theorem wd_J0_coder_7d493 : yJ0_coder_7d493.cls ≠ "java/lang/invoke/MethodHandle" ∧ yJ0_coder_7d493.cls ≠ "java/lang/invoke/VarHandle" ∧ (parseMethodDescriptor yJ0_coder_7d493.desc).map (fun d => d.parameters.length) = some 0 := by decide +kernel
theorem wc_J0_isLatin1_aae02 : Cond.code yJ0_isLatin1_aae02 cJ0_isLatin1_aae02 1 (some .boolean) ∈ mGW := mIn 428 (by decide +kernel) rfl
theorem wi_J0_isLatin1_aae02 : Cond.instanceMethod yJ0_isLatin1_aae02 ∈ mGW := mIn 426 (by decide +kernel) rfl
theorem wl_J0_isLatin1_aae02 : Cond.selects RJ0 yJ0_isLatin1_aae02 yJ0_isLatin1_aae02 ∈ mGW := mIn 427 (by decide +kernel) rfl
theorem wd_J0_isLatin1_aae02 : yJ0_isLatin1_aae02.cls ≠ "java/lang/invoke/MethodHandle" ∧ yJ0_isLatin1_aae02.cls ≠ "java/lang/invoke/VarHandle" ∧ (parseMethodDescriptor yJ0_isLatin1_aae02.desc).map (fun d => d.parameters.length) = some 0 := by decide +kernel
theorem wc_J0_checkIndex_df160 : Cond.code yJ0_checkIndex_df160 cJ0_checkIndex_df160 2 (none) ∈ mGW := mIn 434 (by decide +kernel) rfl
theorem wt_J0_checkIndex_df160 : Cond.static yJ0_checkIndex_df160 ∈ mGW := mIn 433 (by decide +kernel) rfl
theorem wd_J0_checkIndex_df160 : yJ0_checkIndex_df160.cls ≠ "java/lang/invoke/MethodHandle" ∧ yJ0_checkIndex_df160.cls ≠ "java/lang/invoke/VarHandle" ∧ (parseMethodDescriptor yJ0_checkIndex_df160.desc).map (fun d => d.parameters.length) = some 2 := by decide +kernel
theorem wc_J0_checkBoundsOffCount_cabcc : Cond.code yJ0_checkBoundsOffCount_cabcc cJ0_checkBoundsOffCount_cabcc 3 (some .int) ∈ mGW := mIn 791 (by decide +kernel) rfl
theorem wt_J0_checkBoundsOffCount_cabcc : Cond.static yJ0_checkBoundsOffCount_cabcc ∈ mGW := mIn 790 (by decide +kernel) rfl
theorem wd_J0_checkBoundsOffCount_cabcc : yJ0_checkBoundsOffCount_cabcc.cls ≠ "java/lang/invoke/MethodHandle" ∧ yJ0_checkBoundsOffCount_cabcc.cls ≠ "java/lang/invoke/VarHandle" ∧ (parseMethodDescriptor yJ0_checkBoundsOffCount_cabcc.desc).map (fun d => d.parameters.length) = some 3 := by decide +kernel
theorem wc_J0_checkBoundsBeginEnd_23922 : Cond.code yJ0_checkBoundsBeginEnd_23922 cJ0_checkBoundsBeginEnd_23922 3 (none) ∈ mGW := mIn 759 (by decide +kernel) rfl
theorem wt_J0_checkBoundsBeginEnd_23922 : Cond.static yJ0_checkBoundsBeginEnd_23922 ∈ mGW := mIn 758 (by decide +kernel) rfl
theorem wd_J0_checkBoundsBeginEnd_23922 : yJ0_checkBoundsBeginEnd_23922.cls ≠ "java/lang/invoke/MethodHandle" ∧ yJ0_checkBoundsBeginEnd_23922.cls ≠ "java/lang/invoke/VarHandle" ∧ (parseMethodDescriptor yJ0_checkBoundsBeginEnd_23922.desc).map (fun d => d.parameters.length) = some 3 := by decide +kernel
theorem wc_J4_init_da8c8 : Cond.code yJ4_init_da8c8 cJ4_init_da8c8 1 (none) ∈ mGW := mIn 282 (by decide +kernel) rfl
theorem wi_J4_init_da8c8 : Cond.instanceMethod yJ4_init_da8c8 ∈ mGW := mIn 281 (by decide +kernel) rfl
theorem wd_J4_init_da8c8 : yJ4_init_da8c8.cls ≠ "java/lang/invoke/MethodHandle" ∧ yJ4_init_da8c8.cls ≠ "java/lang/invoke/VarHandle" ∧ (parseMethodDescriptor yJ4_init_da8c8.desc).map (fun d => d.parameters.length) = some 0 := by decide +kernel
theorem wc_J4_append_15ec4 : Cond.code yJ4_append_15ec4 cJ4_append_15ec4 2 (some (.object "java/lang/StringBuilder")) ∈ mGW := mIn 743 (by decide +kernel) rfl
theorem wi_J4_append_15ec4 : Cond.instanceMethod yJ4_append_15ec4 ∈ mGW := mIn 741 (by decide +kernel) rfl
theorem wl_J4_append_15ec4 : Cond.selects RJ4 yJ4_append_15ec4 yJ4_append_15ec4 ∈ mGW := mIn 742 (by decide +kernel) rfl
theorem wd_J4_append_15ec4 : yJ4_append_15ec4.cls ≠ "java/lang/invoke/MethodHandle" ∧ yJ4_append_15ec4.cls ≠ "java/lang/invoke/VarHandle" ∧ (parseMethodDescriptor yJ4_append_15ec4.desc).map (fun d => d.parameters.length) = some 1 := by decide +kernel
theorem wc_J4_append_cf468 : Cond.code yJ4_append_cf468 cJ4_append_cf468 2 (some (.object "java/lang/StringBuilder")) ∈ mGW := mIn 804 (by decide +kernel) rfl
theorem wi_J4_append_cf468 : Cond.instanceMethod yJ4_append_cf468 ∈ mGW := mIn 802 (by decide +kernel) rfl
theorem wl_J4_append_cf468 : Cond.selects RJ4 yJ4_append_cf468 yJ4_append_cf468 ∈ mGW := mIn 803 (by decide +kernel) rfl
theorem wd_J4_append_cf468 : yJ4_append_cf468.cls ≠ "java/lang/invoke/MethodHandle" ∧ yJ4_append_cf468.cls ≠ "java/lang/invoke/VarHandle" ∧ (parseMethodDescriptor yJ4_append_cf468.desc).map (fun d => d.parameters.length) = some 1 := by decide +kernel
theorem wc_J4_append_bf812 : Cond.code yJ4_append_bf812 cJ4_append_bf812 2 (some (.object "java/lang/StringBuilder")) ∈ mGW := mIn 818 (by decide +kernel) rfl
theorem wi_J4_append_bf812 : Cond.instanceMethod yJ4_append_bf812 ∈ mGW := mIn 816 (by decide +kernel) rfl
theorem wl_J4_append_bf812 : Cond.selects RJ4 yJ4_append_bf812 yJ4_append_bf812 ∈ mGW := mIn 817 (by decide +kernel) rfl
theorem wd_J4_append_bf812 : yJ4_append_bf812.cls ≠ "java/lang/invoke/MethodHandle" ∧ yJ4_append_bf812.cls ≠ "java/lang/invoke/VarHandle" ∧ (parseMethodDescriptor yJ4_append_bf812.desc).map (fun d => d.parameters.length) = some 1 := by decide +kernel
theorem wc_J4_toString_0e30d : Cond.code yJ4_toString_0e30d cJ4_toString_0e30d 1 (some (.object "java/lang/String")) ∈ mGW := mIn 1371 (by decide +kernel) rfl
theorem wi_J4_toString_0e30d : Cond.instanceMethod yJ4_toString_0e30d ∈ mGW := mIn 1369 (by decide +kernel) rfl
theorem wl_J4_toString_0e30d : Cond.selects RJ4 yJ4_toString_0e30d yJ4_toString_0e30d ∈ mGW := mIn 1370 (by decide +kernel) rfl
theorem wd_J4_toString_0e30d : yJ4_toString_0e30d.cls ≠ "java/lang/invoke/MethodHandle" ∧ yJ4_toString_0e30d.cls ≠ "java/lang/invoke/VarHandle" ∧ (parseMethodDescriptor yJ4_toString_0e30d.desc).map (fun d => d.parameters.length) = some 0 := by decide +kernel
theorem wc_J4_charAt_5068e : Cond.code yJ4_charAt_5068e cJ4_charAt_5068e 2 (some .char) ∈ mGW := mIn 850 (by decide +kernel) rfl
theorem wi_J4_charAt_5068e : Cond.instanceMethod yJ4_charAt_5068e ∈ mGW := mIn 848 (by decide +kernel) rfl
theorem wl_J4_charAt_5068e : Cond.selects RJ4 yJ4_charAt_5068e yJ4_charAt_5068e ∈ mGW := mIn 849 (by decide +kernel) rfl
theorem wd_J4_charAt_5068e : yJ4_charAt_5068e.cls ≠ "java/lang/invoke/MethodHandle" ∧ yJ4_charAt_5068e.cls ≠ "java/lang/invoke/VarHandle" ∧ (parseMethodDescriptor yJ4_charAt_5068e.desc).map (fun d => d.parameters.length) = some 1 := by decide +kernel
theorem wc_J4_setLength_d00df : Cond.code yJ4_setLength_d00df cJ4_setLength_d00df 2 (none) ∈ mGW := mIn 688 (by decide +kernel) rfl
theorem wi_J4_setLength_d00df : Cond.instanceMethod yJ4_setLength_d00df ∈ mGW := mIn 686 (by decide +kernel) rfl
theorem wl_J4_setLength_d00df : Cond.selects RJ4 yJ4_setLength_d00df yJ4_setLength_d00df ∈ mGW := mIn 687 (by decide +kernel) rfl
theorem wd_J4_setLength_d00df : yJ4_setLength_d00df.cls ≠ "java/lang/invoke/MethodHandle" ∧ yJ4_setLength_d00df.cls ≠ "java/lang/invoke/VarHandle" ∧ (parseMethodDescriptor yJ4_setLength_d00df.desc).map (fun d => d.parameters.length) = some 1 := by decide +kernel
theorem wc_J4_length_8abf5 : Cond.code yJ4_length_8abf5 cJ4_length_8abf5 1 (some .int) ∈ mGW := mIn 843 (by decide +kernel) rfl
theorem wi_J4_length_8abf5 : Cond.instanceMethod yJ4_length_8abf5 ∈ mGW := mIn 841 (by decide +kernel) rfl
theorem wl_J4_length_8abf5 : Cond.selects RJ4 yJ4_length_8abf5 yJ4_length_8abf5 ∈ mGW := mIn 842 (by decide +kernel) rfl
theorem wd_J4_length_8abf5 : yJ4_length_8abf5.cls ≠ "java/lang/invoke/MethodHandle" ∧ yJ4_length_8abf5.cls ≠ "java/lang/invoke/VarHandle" ∧ (parseMethodDescriptor yJ4_length_8abf5.desc).map (fun d => d.parameters.length) = some 0 := by decide +kernel
theorem wc_J1_charAt_3b067 : Cond.code yJ1_charAt_3b067 cJ1_charAt_3b067 2 (some .char) ∈ mGW := mIn 431 (by decide +kernel) rfl
theorem wt_J1_charAt_3b067 : Cond.static yJ1_charAt_3b067 ∈ mGW := mIn 430 (by decide +kernel) rfl
theorem wd_J1_charAt_3b067 : yJ1_charAt_3b067.cls ≠ "java/lang/invoke/MethodHandle" ∧ yJ1_charAt_3b067.cls ≠ "java/lang/invoke/VarHandle" ∧ (parseMethodDescriptor yJ1_charAt_3b067.desc).map (fun d => d.parameters.length) = some 2 := by decide +kernel
theorem wc_J1_canEncode_fc78d : Cond.code yJ1_canEncode_fc78d cJ1_canEncode_fc78d 1 (some .boolean) ∈ mGW := mIn 810 (by decide +kernel) rfl
theorem wt_J1_canEncode_fc78d : Cond.static yJ1_canEncode_fc78d ∈ mGW := mIn 809 (by decide +kernel) rfl
theorem wd_J1_canEncode_fc78d : yJ1_canEncode_fc78d.cls ≠ "java/lang/invoke/MethodHandle" ∧ yJ1_canEncode_fc78d.cls ≠ "java/lang/invoke/VarHandle" ∧ (parseMethodDescriptor yJ1_canEncode_fc78d.desc).map (fun d => d.parameters.length) = some 1 := by decide +kernel
theorem wc_J1_fillNull_b72d1 : Cond.code yJ1_fillNull_b72d1 cJ1_fillNull_b72d1 3 (none) ∈ mGW := mIn 728 (by decide +kernel) rfl
theorem wt_J1_fillNull_b72d1 : Cond.static yJ1_fillNull_b72d1 ∈ mGW := mIn 727 (by decide +kernel) rfl
theorem wd_J1_fillNull_b72d1 : yJ1_fillNull_b72d1.cls ≠ "java/lang/invoke/MethodHandle" ∧ yJ1_fillNull_b72d1.cls ≠ "java/lang/invoke/VarHandle" ∧ (parseMethodDescriptor yJ1_fillNull_b72d1.desc).map (fun d => d.parameters.length) = some 3 := by decide +kernel
theorem wc_J1_inflate_0e8fd : Cond.code yJ1_inflate_0e8fd cJ1_inflate_0e8fd 5 (none) ∈ mGW := mIn 782 (by decide +kernel) rfl
theorem wt_J1_inflate_0e8fd : Cond.static yJ1_inflate_0e8fd ∈ mGW := mIn 781 (by decide +kernel) rfl
theorem wd_J1_inflate_0e8fd : yJ1_inflate_0e8fd.cls ≠ "java/lang/invoke/MethodHandle" ∧ yJ1_inflate_0e8fd.cls ≠ "java/lang/invoke/VarHandle" ∧ (parseMethodDescriptor yJ1_inflate_0e8fd.desc).map (fun d => d.parameters.length) = some 5 := by decide +kernel
theorem wc_J2_newBytesFor_77867 : Cond.code yJ2_newBytesFor_77867 cJ2_newBytesFor_77867 1 (some (.array .byte)) ∈ mGW := mIn 291 (by decide +kernel) rfl
theorem wt_J2_newBytesFor_77867 : Cond.static yJ2_newBytesFor_77867 ∈ mGW := mIn 290 (by decide +kernel) rfl
theorem wd_J2_newBytesFor_77867 : yJ2_newBytesFor_77867.cls ≠ "java/lang/invoke/MethodHandle" ∧ yJ2_newBytesFor_77867.cls ≠ "java/lang/invoke/VarHandle" ∧ (parseMethodDescriptor yJ2_newBytesFor_77867.desc).map (fun d => d.parameters.length) = some 1 := by decide +kernel
theorem wc_J2_newBytesLength_0f7a4 : Cond.code yJ2_newBytesLength_0f7a4 cJ2_newBytesLength_0f7a4 1 (some .int) ∈ mGW := mIn 294 (by decide +kernel) rfl
theorem wt_J2_newBytesLength_0f7a4 : Cond.static yJ2_newBytesLength_0f7a4 ∈ mGW := mIn 293 (by decide +kernel) rfl
theorem wd_J2_newBytesLength_0f7a4 : yJ2_newBytesLength_0f7a4.cls ≠ "java/lang/invoke/MethodHandle" ∧ yJ2_newBytesLength_0f7a4.cls ≠ "java/lang/invoke/VarHandle" ∧ (parseMethodDescriptor yJ2_newBytesLength_0f7a4.desc).map (fun d => d.parameters.length) = some 1 := by decide +kernel
theorem wc_J2_putChar_b72d1 : Cond.code yJ2_putChar_b72d1 cJ2_putChar_b72d1 3 (none) ∈ mGW := mIn 765 (by decide +kernel) rfl
theorem wt_J2_putChar_b72d1 : Cond.static yJ2_putChar_b72d1 ∈ mGW := mIn 764 (by decide +kernel) rfl
theorem wd_J2_putChar_b72d1 : yJ2_putChar_b72d1.cls ≠ "java/lang/invoke/MethodHandle" ∧ yJ2_putChar_b72d1.cls ≠ "java/lang/invoke/VarHandle" ∧ (parseMethodDescriptor yJ2_putChar_b72d1.desc).map (fun d => d.parameters.length) = some 3 := by decide +kernel
theorem wc_J2_getChar_3b067 : Cond.code yJ2_getChar_3b067 cJ2_getChar_3b067 2 (some .char) ∈ mGW := mIn 452 (by decide +kernel) rfl
theorem wt_J2_getChar_3b067 : Cond.static yJ2_getChar_3b067 ∈ mGW := mIn 451 (by decide +kernel) rfl
theorem wd_J2_getChar_3b067 : yJ2_getChar_3b067.cls ≠ "java/lang/invoke/MethodHandle" ∧ yJ2_getChar_3b067.cls ≠ "java/lang/invoke/VarHandle" ∧ (parseMethodDescriptor yJ2_getChar_3b067.desc).map (fun d => d.parameters.length) = some 2 := by decide +kernel
theorem wc_J2_length_9d52b : Cond.code yJ2_length_9d52b cJ2_length_9d52b 1 (some .int) ∈ mGW := mIn 448 (by decide +kernel) rfl
theorem wt_J2_length_9d52b : Cond.static yJ2_length_9d52b ∈ mGW := mIn 447 (by decide +kernel) rfl
theorem wd_J2_length_9d52b : yJ2_length_9d52b.cls ≠ "java/lang/invoke/MethodHandle" ∧ yJ2_length_9d52b.cls ≠ "java/lang/invoke/VarHandle" ∧ (parseMethodDescriptor yJ2_length_9d52b.desc).map (fun d => d.parameters.length) = some 1 := by decide +kernel
theorem wc_J2_coderFromArrayLen_85cad : Cond.code yJ2_coderFromArrayLen_85cad cJ2_coderFromArrayLen_85cad 2 (some .byte) ∈ mGW := mIn 1406 (by decide +kernel) rfl
theorem wt_J2_coderFromArrayLen_85cad : Cond.static yJ2_coderFromArrayLen_85cad ∈ mGW := mIn 1405 (by decide +kernel) rfl
theorem wd_J2_coderFromArrayLen_85cad : yJ2_coderFromArrayLen_85cad.cls ≠ "java/lang/invoke/MethodHandle" ∧ yJ2_coderFromArrayLen_85cad.cls ≠ "java/lang/invoke/VarHandle" ∧ (parseMethodDescriptor yJ2_coderFromArrayLen_85cad.desc).map (fun d => d.parameters.length) = some 2 := by decide +kernel
theorem wc_J2_compress_39247 : Cond.code yJ2_compress_39247 cJ2_compress_39247 6 (some (.array .byte)) ∈ mGW := mIn 1399 (by decide +kernel) rfl
theorem wt_J2_compress_39247 : Cond.static yJ2_compress_39247 ∈ mGW := mIn 1398 (by decide +kernel) rfl
theorem wd_J2_compress_39247 : yJ2_compress_39247.cls ≠ "java/lang/invoke/MethodHandle" ∧ yJ2_compress_39247.cls ≠ "java/lang/invoke/VarHandle" ∧ (parseMethodDescriptor yJ2_compress_39247.desc).map (fun d => d.parameters.length) = some 3 := by decide +kernel
theorem wc_J2_compress_5af95 : Cond.code yJ2_compress_5af95 cJ2_compress_5af95 7 (some .int) ∈ mGW := mIn 1402 (by decide +kernel) rfl
theorem wt_J2_compress_5af95 : Cond.static yJ2_compress_5af95 ∈ mGW := mIn 1401 (by decide +kernel) rfl
theorem wd_J2_compress_5af95 : yJ2_compress_5af95.cls ≠ "java/lang/invoke/MethodHandle" ∧ yJ2_compress_5af95.cls ≠ "java/lang/invoke/VarHandle" ∧ (parseMethodDescriptor yJ2_compress_5af95.desc).map (fun d => d.parameters.length) = some 5 := by decide +kernel
theorem wc_J2_fillNull_b72d1 : Cond.code yJ2_fillNull_b72d1 cJ2_fillNull_b72d1 3 (none) ∈ mGW := mIn 737 (by decide +kernel) rfl
theorem wt_J2_fillNull_b72d1 : Cond.static yJ2_fillNull_b72d1 ∈ mGW := mIn 736 (by decide +kernel) rfl
theorem wd_J2_fillNull_b72d1 : yJ2_fillNull_b72d1.cls ≠ "java/lang/invoke/MethodHandle" ∧ yJ2_fillNull_b72d1.cls ≠ "java/lang/invoke/VarHandle" ∧ (parseMethodDescriptor yJ2_fillNull_b72d1.desc).map (fun d => d.parameters.length) = some 3 := by decide +kernel
theorem wc_J2_putCharSB_b72d1 : Cond.code yJ2_putCharSB_b72d1 cJ2_putCharSB_b72d1 3 (none) ∈ mGW := mIn 813 (by decide +kernel) rfl
theorem wt_J2_putCharSB_b72d1 : Cond.static yJ2_putCharSB_b72d1 ∈ mGW := mIn 812 (by decide +kernel) rfl
theorem wd_J2_putCharSB_b72d1 : yJ2_putCharSB_b72d1.cls ≠ "java/lang/invoke/MethodHandle" ∧ yJ2_putCharSB_b72d1.cls ≠ "java/lang/invoke/VarHandle" ∧ (parseMethodDescriptor yJ2_putCharSB_b72d1.desc).map (fun d => d.parameters.length) = some 3 := by decide +kernel
theorem wc_J2_getChars_46870 : Cond.code yJ2_getChars_46870 cJ2_getChars_46870 5 (some .int) ∈ mGW := mIn 834 (by decide +kernel) rfl
theorem wt_J2_getChars_46870 : Cond.static yJ2_getChars_46870 ∈ mGW := mIn 833 (by decide +kernel) rfl
theorem wd_J2_getChars_46870 : yJ2_getChars_46870.cls ≠ "java/lang/invoke/MethodHandle" ∧ yJ2_getChars_46870.cls ≠ "java/lang/invoke/VarHandle" ∧ (parseMethodDescriptor yJ2_getChars_46870.desc).map (fun d => d.parameters.length) = some 4 := by decide +kernel
theorem wc_J2_putCharsAt_cd4e5 : Cond.code yJ2_putCharsAt_cd4e5 cJ2_putCharsAt_cd4e5 7 (some .int) ∈ mGW := mIn 753 (by decide +kernel) rfl
theorem wt_J2_putCharsAt_cd4e5 : Cond.static yJ2_putCharsAt_cd4e5 ∈ mGW := mIn 752 (by decide +kernel) rfl
theorem wd_J2_putCharsAt_cd4e5 : yJ2_putCharsAt_cd4e5.cls ≠ "java/lang/invoke/MethodHandle" ∧ yJ2_putCharsAt_cd4e5.cls ≠ "java/lang/invoke/VarHandle" ∧ (parseMethodDescriptor yJ2_putCharsAt_cd4e5.desc).map (fun d => d.parameters.length) = some 6 := by decide +kernel
theorem wc_J2_charAt_3b067 : Cond.code yJ2_charAt_3b067 cJ2_charAt_3b067 2 (some .char) ∈ mGW := mIn 442 (by decide +kernel) rfl
theorem wt_J2_charAt_3b067 : Cond.static yJ2_charAt_3b067 ∈ mGW := mIn 441 (by decide +kernel) rfl
theorem wd_J2_charAt_3b067 : yJ2_charAt_3b067.cls ≠ "java/lang/invoke/MethodHandle" ∧ yJ2_charAt_3b067.cls ≠ "java/lang/invoke/VarHandle" ∧ (parseMethodDescriptor yJ2_charAt_3b067.desc).map (fun d => d.parameters.length) = some 2 := by decide +kernel
theorem wc_J2_inflate_0e8fd : Cond.code yJ2_inflate_0e8fd cJ2_inflate_0e8fd 6 (none) ∈ mGW := mIn 785 (by decide +kernel) rfl
theorem wt_J2_inflate_0e8fd : Cond.static yJ2_inflate_0e8fd ∈ mGW := mIn 784 (by decide +kernel) rfl
theorem wd_J2_inflate_0e8fd : yJ2_inflate_0e8fd.cls ≠ "java/lang/invoke/MethodHandle" ∧ yJ2_inflate_0e8fd.cls ≠ "java/lang/invoke/VarHandle" ∧ (parseMethodDescriptor yJ2_inflate_0e8fd.desc).map (fun d => d.parameters.length) = some 5 := by decide +kernel
theorem wc_J2_getChars_ba4f3 : Cond.code yJ2_getChars_ba4f3 cJ2_getChars_ba4f3 7 (some .int) ∈ mGW := mIn 837 (by decide +kernel) rfl
theorem wt_J2_getChars_ba4f3 : Cond.static yJ2_getChars_ba4f3 ∈ mGW := mIn 836 (by decide +kernel) rfl
theorem wd_J2_getChars_ba4f3 : yJ2_getChars_ba4f3.cls ≠ "java/lang/invoke/MethodHandle" ∧ yJ2_getChars_ba4f3.cls ≠ "java/lang/invoke/VarHandle" ∧ (parseMethodDescriptor yJ2_getChars_ba4f3.desc).map (fun d => d.parameters.length) = some 3 := by decide +kernel
theorem wc_J2_checkIndex_2214a : Cond.code yJ2_checkIndex_2214a cJ2_checkIndex_2214a 2 (none) ∈ mGW := mIn 445 (by decide +kernel) rfl
theorem wt_J2_checkIndex_2214a : Cond.static yJ2_checkIndex_2214a ∈ mGW := mIn 444 (by decide +kernel) rfl
theorem wd_J2_checkIndex_2214a : yJ2_checkIndex_2214a.cls ≠ "java/lang/invoke/MethodHandle" ∧ yJ2_checkIndex_2214a.cls ≠ "java/lang/invoke/VarHandle" ∧ (parseMethodDescriptor yJ2_checkIndex_2214a.desc).map (fun d => d.parameters.length) = some 2 := by decide +kernel
theorem wc_J2_checkBoundsBeginEnd_d044e : Cond.code yJ2_checkBoundsBeginEnd_d044e cJ2_checkBoundsBeginEnd_d044e 3 (none) ∈ mGW := mIn 756 (by decide +kernel) rfl
theorem wt_J2_checkBoundsBeginEnd_d044e : Cond.static yJ2_checkBoundsBeginEnd_d044e ∈ mGW := mIn 755 (by decide +kernel) rfl
theorem wd_J2_checkBoundsBeginEnd_d044e : yJ2_checkBoundsBeginEnd_d044e.cls ≠ "java/lang/invoke/MethodHandle" ∧ yJ2_checkBoundsBeginEnd_d044e.cls ≠ "java/lang/invoke/VarHandle" ∧ (parseMethodDescriptor yJ2_checkBoundsBeginEnd_d044e.desc).map (fun d => d.parameters.length) = some 3 := by decide +kernel
theorem wc_J2_checkBoundsOffCount_d044e : Cond.code yJ2_checkBoundsOffCount_d044e cJ2_checkBoundsOffCount_d044e 3 (none) ∈ mGW := mIn 788 (by decide +kernel) rfl
theorem wt_J2_checkBoundsOffCount_d044e : Cond.static yJ2_checkBoundsOffCount_d044e ∈ mGW := mIn 787 (by decide +kernel) rfl
theorem wd_J2_checkBoundsOffCount_d044e : yJ2_checkBoundsOffCount_d044e.cls ≠ "java/lang/invoke/MethodHandle" ∧ yJ2_checkBoundsOffCount_d044e.cls ≠ "java/lang/invoke/VarHandle" ∧ (parseMethodDescriptor yJ2_checkBoundsOffCount_d044e.desc).map (fun d => d.parameters.length) = some 3 := by decide +kernel
theorem wc_J7_rangeCheck_23922 : Cond.code yJ7_rangeCheck_23922 cJ7_rangeCheck_23922 3 (none) ∈ mGW := mIn 734 (by decide +kernel) rfl
theorem wt_J7_rangeCheck_23922 : Cond.static yJ7_rangeCheck_23922 ∈ mGW := mIn 733 (by decide +kernel) rfl
theorem wd_J7_rangeCheck_23922 : yJ7_rangeCheck_23922.cls ≠ "java/lang/invoke/MethodHandle" ∧ yJ7_rangeCheck_23922.cls ≠ "java/lang/invoke/VarHandle" ∧ (parseMethodDescriptor yJ7_rangeCheck_23922.desc).map (fun d => d.parameters.length) = some 3 := by decide +kernel
theorem wc_J7_fill_eb02e : Cond.code yJ7_fill_eb02e cJ7_fill_eb02e 5 (none) ∈ mGW := mIn 731 (by decide +kernel) rfl
theorem wt_J7_fill_eb02e : Cond.static yJ7_fill_eb02e ∈ mGW := mIn 730 (by decide +kernel) rfl
theorem wd_J7_fill_eb02e : yJ7_fill_eb02e.cls ≠ "java/lang/invoke/MethodHandle" ∧ yJ7_fill_eb02e.cls ≠ "java/lang/invoke/VarHandle" ∧ (parseMethodDescriptor yJ7_fill_eb02e.desc).map (fun d => d.parameters.length) = some 4 := by decide +kernel
theorem wc_J7_copyOf_9075b : Cond.code yJ7_copyOf_9075b cJ7_copyOf_9075b 3 (some (.array .byte)) ∈ mGW := mIn 711 (by decide +kernel) rfl
theorem wt_J7_copyOf_9075b : Cond.static yJ7_copyOf_9075b ∈ mGW := mIn 710 (by decide +kernel) rfl
theorem wd_J7_copyOf_9075b : yJ7_copyOf_9075b.cls ≠ "java/lang/invoke/MethodHandle" ∧ yJ7_copyOf_9075b.cls ≠ "java/lang/invoke/VarHandle" ∧ (parseMethodDescriptor yJ7_copyOf_9075b.desc).map (fun d => d.parameters.length) = some 2 := by decide +kernel
theorem wc_J7_checkLength_df160 : Cond.code yJ7_checkLength_df160 cJ7_checkLength_df160 2 (none) ∈ mGW := mIn 1396 (by decide +kernel) rfl
theorem wt_J7_checkLength_df160 : Cond.static yJ7_checkLength_df160 ∈ mGW := mIn 1395 (by decide +kernel) rfl
theorem wd_J7_checkLength_df160 : yJ7_checkLength_df160.cls ≠ "java/lang/invoke/MethodHandle" ∧ yJ7_checkLength_df160.cls ≠ "java/lang/invoke/VarHandle" ∧ (parseMethodDescriptor yJ7_checkLength_df160.desc).map (fun d => d.parameters.length) = some 2 := by decide +kernel
theorem wc_J7_copyOfRange_39247 : Cond.code yJ7_copyOfRange_39247 cJ7_copyOfRange_39247 3 (some (.array .byte)) ∈ mGW := mIn 1390 (by decide +kernel) rfl
theorem wt_J7_copyOfRange_39247 : Cond.static yJ7_copyOfRange_39247 ∈ mGW := mIn 1389 (by decide +kernel) rfl
theorem wd_J7_copyOfRange_39247 : yJ7_copyOfRange_39247.cls ≠ "java/lang/invoke/MethodHandle" ∧ yJ7_copyOfRange_39247.cls ≠ "java/lang/invoke/VarHandle" ∧ (parseMethodDescriptor yJ7_copyOfRange_39247.desc).map (fun d => d.parameters.length) = some 3 := by decide +kernel
theorem wc_J7_copyOfRangeByte_39247 : Cond.code yJ7_copyOfRangeByte_39247 cJ7_copyOfRangeByte_39247 5 (some (.array .byte)) ∈ mGW := mIn 1393 (by decide +kernel) rfl
theorem wt_J7_copyOfRangeByte_39247 : Cond.static yJ7_copyOfRangeByte_39247 ∈ mGW := mIn 1392 (by decide +kernel) rfl
theorem wd_J7_copyOfRangeByte_39247 : yJ7_copyOfRangeByte_39247.cls ≠ "java/lang/invoke/MethodHandle" ∧ yJ7_copyOfRangeByte_39247.cls ≠ "java/lang/invoke/VarHandle" ∧ (parseMethodDescriptor yJ7_copyOfRangeByte_39247.desc).map (fun d => d.parameters.length) = some 3 := by decide +kernel
theorem wc_J8_newLength_cabcc : Cond.code yJ8_newLength_cabcc cJ8_newLength_cabcc 4 (some .int) ∈ mGW := mIn 702 (by decide +kernel) rfl
theorem wt_J8_newLength_cabcc : Cond.static yJ8_newLength_cabcc ∈ mGW := mIn 701 (by decide +kernel) rfl
theorem wd_J8_newLength_cabcc : yJ8_newLength_cabcc.cls ≠ "java/lang/invoke/MethodHandle" ∧ yJ8_newLength_cabcc.cls ≠ "java/lang/invoke/VarHandle" ∧ (parseMethodDescriptor yJ8_newLength_cabcc.desc).map (fun d => d.parameters.length) = some 3 := by decide +kernel
theorem wc_J8_hugeLength_7cf53 : Cond.code yJ8_hugeLength_7cf53 cJ8_hugeLength_7cf53 3 (some .int) ∈ mGW := mIn 707 (by decide +kernel) rfl
theorem wt_J8_hugeLength_7cf53 : Cond.static yJ8_hugeLength_7cf53 ∈ mGW := mIn 706 (by decide +kernel) rfl
theorem wd_J8_hugeLength_7cf53 : yJ8_hugeLength_7cf53.cls ≠ "java/lang/invoke/MethodHandle" ∧ yJ8_hugeLength_7cf53.cls ≠ "java/lang/invoke/VarHandle" ∧ (parseMethodDescriptor yJ8_hugeLength_7cf53.desc).map (fun d => d.parameters.length) = some 2 := by decide +kernel
theorem wc_J3_checkIndex_8e157 : Cond.code yJ3_checkIndex_8e157 cJ3_checkIndex_8e157 3 (some .int) ∈ mGW := mIn 439 (by decide +kernel) rfl
theorem wt_J3_checkIndex_8e157 : Cond.static yJ3_checkIndex_8e157 ∈ mGW := mIn 438 (by decide +kernel) rfl
theorem wd_J3_checkIndex_8e157 : yJ3_checkIndex_8e157.cls ≠ "java/lang/invoke/MethodHandle" ∧ yJ3_checkIndex_8e157.cls ≠ "java/lang/invoke/VarHandle" ∧ (parseMethodDescriptor yJ3_checkIndex_8e157.desc).map (fun d => d.parameters.length) = some 3 := by decide +kernel
theorem wc_J3_checkFromToIndex_8c36e : Cond.code yJ3_checkFromToIndex_8c36e cJ3_checkFromToIndex_8c36e 4 (some .int) ∈ mGW := mIn 762 (by decide +kernel) rfl
theorem wt_J3_checkFromToIndex_8c36e : Cond.static yJ3_checkFromToIndex_8c36e ∈ mGW := mIn 761 (by decide +kernel) rfl
theorem wd_J3_checkFromToIndex_8c36e : yJ3_checkFromToIndex_8c36e.cls ≠ "java/lang/invoke/MethodHandle" ∧ yJ3_checkFromToIndex_8c36e.cls ≠ "java/lang/invoke/VarHandle" ∧ (parseMethodDescriptor yJ3_checkFromToIndex_8c36e.desc).map (fun d => d.parameters.length) = some 4 := by decide +kernel
theorem wc_J3_checkFromIndexSize_8c36e : Cond.code yJ3_checkFromIndexSize_8c36e cJ3_checkFromIndexSize_8c36e 4 (some .int) ∈ mGW := mIn 794 (by decide +kernel) rfl
theorem wt_J3_checkFromIndexSize_8c36e : Cond.static yJ3_checkFromIndexSize_8c36e ∈ mGW := mIn 793 (by decide +kernel) rfl
theorem wd_J3_checkFromIndexSize_8c36e : yJ3_checkFromIndexSize_8c36e.cls ≠ "java/lang/invoke/MethodHandle" ∧ yJ3_checkFromIndexSize_8c36e.cls ≠ "java/lang/invoke/VarHandle" ∧ (parseMethodDescriptor yJ3_checkFromIndexSize_8c36e.desc).map (fun d => d.parameters.length) = some 4 := by decide +kernel
theorem wm_RX0_28 : Cond.methodLinkNest RX0 28 yX7_set "TrickHouse" ∈ lw_tbl := mInN 595 (by decide +kernel)
theorem wm_RX0_32 : Cond.methodLinkNest RX0 32 yX7_take "TrickHouse" ∈ lw_tbl := mInN 997 (by decide +kernel)
theorem wm_RX1_15 : Cond.methodLinkNest RX1 15 yX7_fill "TrickHouse" ∈ lw_tbl := mInN 232 (by decide +kernel)
theorem wm_RX1_41 : Cond.methodLinkNest RX1 41 yX7_at "TrickHouse" ∈ lw_tbl := mInN 617 (by decide +kernel)
theorem wm_RX1_45 : Cond.methodLinkNest RX1 45 yX7_set "TrickHouse" ∈ lw_tbl := mInN 618 (by decide +kernel)
theorem wk_RX2_41 : Cond.methodLink RX2 41 yX2_begin ∈ mGW := mIn 240 (by decide +kernel) rfl
theorem wk_RX2_45 : Cond.methodLink RX2 45 yX2_clear ∈ mGW := mIn 608 (by decide +kernel) rfl
theorem wk_RX2_79 : Cond.methodLink RX2 79 yX2_full ∈ mGW := mIn 498 (by decide +kernel) rfl
theorem wk_RX2_86 : Cond.methodLink RX2 86 yX2_strongerTrumps ∈ mGW := mIn 521 (by decide +kernel) rfl
theorem wk_RX2_93 : Cond.methodLink RX2 93 yJ9_max_7cf53 ∈ mGW := mIn 528 (by decide +kernel) rfl
theorem wk_RX2_103 : Cond.methodLink RX2 103 yX2_winnerOf ∈ mGW := mIn 574 (by decide +kernel) rfl
theorem wk_RX2_106 : Cond.methodLink RX2 106 yX2_addWon ∈ mGW := mIn 578 (by decide +kernel) rfl
theorem wm_RX2_33 : Cond.methodLinkNest RX2 33 yX7_fill "TrickHouse" ∈ lw_tbl := mInN 239 (by decide +kernel)
theorem wm_RX2_48 : Cond.methodLinkNest RX2 48 yX7_set "TrickHouse" ∈ lw_tbl := mInN 573 (by decide +kernel)
theorem wm_RX2_52 : Cond.methodLinkNest RX2 52 yX7_nextSeed "TrickHouse" ∈ lw_tbl := mInN 609 (by decide +kernel)
theorem wm_RX2_56 : Cond.methodLinkNest RX2 56 yX7_at "TrickHouse" ∈ lw_tbl := mInN 517 (by decide +kernel)
theorem wm_RX2_60 : Cond.methodLinkNest RX2 60 yX7_bitOf "TrickHouse" ∈ lw_tbl := mInN 531 (by decide +kernel)
theorem wm_RX2_63 : Cond.methodLinkNest RX2 63 yX7_take "TrickHouse" ∈ lw_tbl := mInN 543 (by decide +kernel)
theorem wm_RX2_83 : Cond.methodLinkNest RX2 83 yX7_bitsOfSuit "TrickHouse" ∈ lw_tbl := mInN 518 (by decide +kernel)
theorem wm_RX2_89 : Cond.methodLinkNest RX2 89 yX7_strengthOf "TrickHouse" ∈ lw_tbl := mInN 525 (by decide +kernel)
theorem wm_RX2_99 : Cond.methodLinkNest RX2 99 yX7_isCard "TrickHouse" ∈ lw_tbl := mInN 570 (by decide +kernel)
theorem wm_RX3_15 : Cond.methodLinkNest RX3 15 yX7_fill "TrickHouse" ∈ lw_tbl := mInN 248 (by decide +kernel)
theorem wm_RX3_44 : Cond.methodLinkNest RX3 44 yX7_at "TrickHouse" ∈ lw_tbl := mInN 654 (by decide +kernel)
theorem wm_RX3_48 : Cond.methodLinkNest RX3 48 yX7_scoreBy "TrickHouse" ∈ lw_tbl := mInN 655 (by decide +kernel)
theorem wm_RX3_52 : Cond.methodLinkNest RX3 52 yX7_set "TrickHouse" ∈ lw_tbl := mInN 658 (by decide +kernel)
theorem wm_RX4_22 : Cond.methodLinkNest RX4 22 yX7_fill "TrickHouse" ∈ lw_tbl := mInN 987 (by decide +kernel)
theorem wk_RX5_32 : Cond.methodLink RX5 32 yX5_clear ∈ mGW := mIn 224 (by decide +kernel) rfl
theorem wk_RX5_48 : Cond.methodLink RX5 48 yX1_begin ∈ mGW := mIn 228 (by decide +kernel) rfl
theorem wk_RX5_52 : Cond.methodLink RX5 52 yX2_clear ∈ mGW := mIn 235 (by decide +kernel) rfl
theorem wk_RX5_53 : Cond.methodLink RX5 53 yX3_clear ∈ mGW := mIn 244 (by decide +kernel) rfl
theorem wk_RX5_58 : Cond.methodLink RX5 58 yX2_left ∈ mGW := mIn 494 (by decide +kernel) rfl
theorem wk_RX5_62 : Cond.methodLink RX5 62 yX1_mayDouble ∈ mGW := mIn 482 (by decide +kernel) rfl
theorem wk_RX5_66 : Cond.methodLink RX5 66 yX1_mayRedouble ∈ mGW := mIn 486 (by decide +kernel) rfl
theorem wk_RX5_69 : Cond.methodLink RX5 69 yX5_isNearEnd ∈ mGW := mIn 490 (by decide +kernel) rfl
theorem wk_RX5_72 : Cond.methodLink RX5 72 yX5_beginDeal ∈ mGW := mIn 600 (by decide +kernel) rfl
theorem wk_RX5_75 : Cond.methodLink RX5 75 yX1_bid ∈ mGW := mIn 613 (by decide +kernel) rfl
theorem wk_RX5_79 : Cond.methodLink RX5 79 yX5_pass ∈ mGW := mIn 619 (by decide +kernel) rfl
theorem wk_RX5_82 : Cond.methodLink RX5 82 yX1_redoubleOrDouble ∈ mGW := mIn 640 (by decide +kernel) rfl
theorem wk_RX5_85 : Cond.methodLink RX5 85 yX5_playCard ∈ mGW := mIn 644 (by decide +kernel) rfl
theorem wk_RX5_88 : Cond.methodLink RX5 88 yX5_claim ∈ mGW := mIn 659 (by decide +kernel) rfl
theorem wk_RX5_91 : Cond.methodLink RX5 91 yX2_dealOut ∈ mGW := mIn 604 (by decide +kernel) rfl
theorem wk_RX5_94 : Cond.methodLink RX5 94 yX1_pass ∈ mGW := mIn 623 (by decide +kernel) rfl
theorem wk_RX5_95 : Cond.methodLink RX5 95 yX1_hasContract ∈ mGW := mIn 627 (by decide +kernel) rfl
theorem wk_RX5_98 : Cond.methodLink RX5 98 yX1_nameDeclarer ∈ mGW := mIn 631 (by decide +kernel) rfl
theorem wk_RX5_107 : Cond.methodLink RX5 107 yX2_begin ∈ mGW := mIn 635 (by decide +kernel) rfl
theorem wk_RX5_113 : Cond.methodLink RX5 113 yX5_endDeal ∈ mGW := mIn 636 (by decide +kernel) rfl
theorem wk_RX5_116 : Cond.methodLink RX5 116 yX2_lay ∈ mGW := mIn 648 (by decide +kernel) rfl
theorem wk_RX5_130 : Cond.methodLink RX5 130 yX3_settle ∈ mGW := mIn 650 (by decide +kernel) rfl
theorem wk_RX5_134 : Cond.methodLink RX5 134 yX2_addWon ∈ mGW := mIn 663 (by decide +kernel) rfl
theorem wk_RX5_137 : Cond.methodLink RX5 137 yX5_inTurn ∈ mGW := mIn 865 (by decide +kernel) rfl
theorem wk_RX5_146 : Cond.methodLink RX5 146 yX2_full ∈ mGW := mIn 866 (by decide +kernel) rfl
theorem wm_RX5_11 : Cond.methodLinkNest RX5 11 yX1_init "TrickHouse" ∈ lw_tbl := mInN 98 (by decide +kernel)
theorem wm_RX5_20 : Cond.methodLinkNest RX5 20 yX2_init "TrickHouse" ∈ lw_tbl := mInN 143 (by decide +kernel)
theorem wm_RX5_27 : Cond.methodLinkNest RX5 27 yX3_init "TrickHouse" ∈ lw_tbl := mInN 196 (by decide +kernel)
theorem wm_RX5_126 : Cond.methodLinkNest RX5 126 yX7_at "TrickHouse" ∈ lw_tbl := mInN 649 (by decide +kernel)
theorem wk_RX6_35 : Cond.methodLink RX6 35 yX6_readWord ∈ mGW := mIn 376 (by decide +kernel) rfl
theorem wk_RX6_41 : Cond.methodLink RX6 41 yX6_readNumber ∈ mGW := mIn 459 (by decide +kernel) rfl
theorem wk_RX6_44 : Cond.methodLink RX6 44 yX6_readSuit ∈ mGW := mIn 463 (by decide +kernel) rfl
theorem wk_RX6_48 : Cond.methodLink RX6 48 yX6_readEnd ∈ mGW := mIn 470 (by decide +kernel) rfl
theorem wk_RX6_51 : Cond.methodLink RX6 51 yX6_skipBlanks ∈ mGW := mIn 380 (by decide +kernel) rfl
theorem wk_RX6_54 : Cond.methodLink RX6 54 yX6_skipLetters ∈ mGW := mIn 387 (by decide +kernel) rfl
theorem wk_RX6_61 : Cond.methodLink RX6 61 yX6_isText ∈ mGW := mIn 408 (by decide +kernel) rfl
theorem wk_RX6_65 : Cond.methodLink RX6 65 yX6_isBetween ∈ mGW := mIn 391 (by decide +kernel) rfl
theorem wk_RX6_77 : Cond.methodLink RX6 77 yJ0_length_8abf5 ∈ mGW := mIn 412 (by decide +kernel) rfl
theorem wk_RX6_83 : Cond.methodLink RX6 83 yJ0_charAt_5068e ∈ mGW := mIn 421 (by decide +kernel) rfl
theorem wm_RX6_19 : Cond.methodLinkNest RX6 19 yX7_set "TrickHouse" ∈ lw_tbl := mInN 365 (by decide +kernel)
theorem wm_RX6_57 : Cond.methodLinkNest RX6 57 yX7_wordText "TrickHouse" ∈ lw_tbl := mInN 395 (by decide +kernel)
theorem wm_RX6_69 : Cond.methodLinkNest RX6 69 yX7_at "TrickHouse" ∈ lw_tbl := mInN 384 (by decide +kernel)
theorem wm_RX6_73 : Cond.methodLinkNest RX6 73 yX7_suitLetter "TrickHouse" ∈ lw_tbl := mInN 467 (by decide +kernel)
theorem wk_RX7_28 : Cond.methodLink RX7 28 yX5_init ∈ mGW := mIn 92 (by decide +kernel) rfl
theorem wk_RX7_44 : Cond.methodLink RX7 44 yJ4_init_da8c8 ∈ mGW := mIn 280 (by decide +kernel) rfl
theorem wk_RX7_50 : Cond.methodLink RX7 50 yX7_isByte ∈ mGW := mIn 358 (by decide +kernel) rfl
theorem wk_RX7_58 : Cond.methodLink RX7 58 yX6_add ∈ mGW := mIn 361 (by decide +kernel) rfl
theorem wk_RX7_62 : Cond.methodLink RX7 62 yX6_read ∈ mGW := mIn 372 (by decide +kernel) rfl
theorem wk_RX7_74 : Cond.methodLink RX7 74 yX7_refusalOf ∈ mGW := mIn 474 (by decide +kernel) rfl
theorem wk_RX7_81 : Cond.methodLink RX7 81 yX7_isFair ∈ mGW := mIn 505 (by decide +kernel) rfl
theorem wk_RX7_85 : Cond.methodLink RX7 85 yX5_inTurn ∈ mGW := mIn 587 (by decide +kernel) rfl
theorem wk_RX7_89 : Cond.methodLink RX7 89 yX0_add ∈ mGW := mIn 591 (by decide +kernel) rfl
theorem wk_RX7_92 : Cond.methodLink RX7 92 yX5_perform ∈ mGW := mIn 596 (by decide +kernel) rfl
theorem wk_RX7_99 : Cond.methodLink RX7 99 yX7_goThrough ∈ mGW := mIn 668 (by decide +kernel) rfl
theorem wk_RX7_107 : Cond.methodLink RX7 107 yX7_at ∈ mGW := mIn 555 (by decide +kernel) rfl
theorem wk_RX7_120 : Cond.methodLink RX7 120 yX7_writeLine ∈ mGW := mIn 681 (by decide +kernel) rfl
theorem wk_RX7_123 : Cond.methodLink RX7 123 yJ4_length_8abf5 ∈ mGW := mIn 840 (by decide +kernel) rfl
theorem wk_RX7_126 : Cond.methodLink RX7 126 yJ4_charAt_5068e ∈ mGW := mIn 847 (by decide +kernel) rfl
theorem wk_RX7_130 : Cond.methodLink RX7 130 yX5_standing ∈ mGW := mIn 861 (by decide +kernel) rfl
theorem wk_RX7_152 : Cond.methodLink RX7 152 yX2_allowed ∈ mGW := mIn 513 (by decide +kernel) rfl
theorem wk_RX7_156 : Cond.methodLink RX7 156 yX2_full ∈ mGW := mIn 875 (by decide +kernel) rfl
theorem wk_RX7_168 : Cond.methodLink RX7 168 yX2_cardAt ∈ mGW := mIn 876 (by decide +kernel) rfl
theorem wk_RX7_171 : Cond.methodLink RX7 171 yX7_isCard ∈ mGW := mIn 884 (by decide +kernel) rfl
theorem wk_RX7_177 : Cond.methodLink RX7 177 yX7_strengthOf ∈ mGW := mIn 885 (by decide +kernel) rfl
theorem wk_RX7_190 : Cond.methodLink RX7 190 yX7_isHouse ∈ mGW := mIn 894 (by decide +kernel) rfl
theorem wk_RX7_211 : Cond.methodLink RX7 211 yX7_scoreBy ∈ mGW := mIn 897 (by decide +kernel) rfl
theorem wk_RX7_215 : Cond.methodLink RX7 215 yX3_totalOf ∈ mGW := mIn 906 (by decide +kernel) rfl
theorem wk_RX7_218 : Cond.methodLink RX7 218 yX5_isNearEnd ∈ mGW := mIn 914 (by decide +kernel) rfl
theorem wk_RX7_222 : Cond.methodLink RX7 222 yX7_openNow ∈ mGW := mIn 535 (by decide +kernel) rfl
theorem wk_RX7_225 : Cond.methodLink RX7 225 yX7_bitOf ∈ mGW := mIn 534 (by decide +kernel) rfl
theorem wk_RX7_228 : Cond.methodLink RX7 228 yX7_gainsOf ∈ mGW := mIn 919 (by decide +kernel) rfl
theorem wk_RX7_231 : Cond.methodLink RX7 231 yJ6_bitCount_0f7a4 ∈ mGW := mIn 557 (by decide +kernel) rfl
theorem wk_RX7_236 : Cond.methodLink RX7 236 yX7_lowestCard ∈ mGW := mIn 563 (by decide +kernel) rfl
theorem wk_RX7_239 : Cond.methodLink RX7 239 yX7_drawnMade ∈ mGW := mIn 931 (by decide +kernel) rfl
theorem wk_RX7_243 : Cond.methodLink RX7 243 yX7_inLowestTerms ∈ mGW := mIn 943 (by decide +kernel) rfl
theorem wk_RX7_246 : Cond.methodLink RX7 246 yX7_sheetAt ∈ mGW := mIn 954 (by decide +kernel) rfl
theorem wk_RX7_250 : Cond.methodLink RX7 250 yX4_isMissing ∈ mGW := mIn 958 (by decide +kernel) rfl
theorem wk_RX7_254 : Cond.methodLink RX7 254 yX7_firstOtherwise ∈ mGW := mIn 962 (by decide +kernel) rfl
theorem wk_RX7_258 : Cond.methodLink RX7 258 yX7_trumpsThatFit ∈ mGW := mIn 966 (by decide +kernel) rfl
theorem wk_RX7_261 : Cond.methodLink RX7 261 yX7_rankingsThatFit ∈ mGW := mIn 975 (by decide +kernel) rfl
theorem wk_RX7_264 : Cond.methodLink RX7 264 yX4_become ∈ mGW := mIn 983 (by decide +kernel) rfl
theorem wk_RX7_271 : Cond.methodLink RX7 271 yX7_set ∈ mGW := mIn 988 (by decide +kernel) rfl
theorem wk_RX7_275 : Cond.methodLink RX7 275 yX0_become ∈ mGW := mIn 993 (by decide +kernel) rfl
theorem wk_RX7_284 : Cond.methodLink RX7 284 yX4_holds ∈ mGW := mIn 1014 (by decide +kernel) rfl
theorem wk_RX7_294 : Cond.methodLink RX7 294 yX5_isTimeFor ∈ mGW := mIn 478 (by decide +kernel) rfl
theorem wk_RX7_297 : Cond.methodLink RX7 297 yX7_fitsWord ∈ mGW := mIn 502 (by decide +kernel) rfl
theorem wk_RX7_300 : Cond.methodLink RX7 300 yX1_isAbove ∈ mGW := mIn 509 (by decide +kernel) rfl
theorem wk_RX7_303 : Cond.methodLink RX7 303 yX5_clear ∈ mGW := mIn 672 (by decide +kernel) rfl
theorem wk_RX7_306 : Cond.methodLink RX7 306 yJ4_setLength_d00df ∈ mGW := mIn 685 (by decide +kernel) rfl
theorem wk_RX7_309 : Cond.methodLink RX7 309 yX7_wordText ∈ mGW := mIn 739 (by decide +kernel) rfl
theorem wk_RX7_313 : Cond.methodLink RX7 313 yJ4_append_15ec4 ∈ mGW := mIn 740 (by decide +kernel) rfl
theorem wk_RX7_317 : Cond.methodLink RX7 317 yJ4_append_cf468 ∈ mGW := mIn 801 (by decide +kernel) rfl
theorem wk_RX7_320 : Cond.methodLink RX7 320 yX7_suitLetter ∈ mGW := mIn 814 (by decide +kernel) rfl
theorem wk_RX7_323 : Cond.methodLink RX7 323 yJ4_append_bf812 ∈ mGW := mIn 815 (by decide +kernel) rfl
theorem wk_RX7_345 : Cond.methodLink RX7 345 yX2_become ∈ mGW := mIn 539 (by decide +kernel) rfl
theorem wk_RX7_348 : Cond.methodLink RX7 348 yX7_mostMade ∈ mGW := mIn 552 (by decide +kernel) rfl
theorem wk_RX7_355 : Cond.methodLink RX7 355 yX2_lay ∈ mGW := mIn 566 (by decide +kernel) rfl
theorem wk_RX7_358 : Cond.methodLink RX7 358 yX2_left ∈ mGW := mIn 556 (by decide +kernel) rfl
theorem wk_RX7_361 : Cond.methodLink RX7 361 yX2_lift ∈ mGW := mIn 582 (by decide +kernel) rfl
theorem wk_RX7_364 : Cond.methodLink RX7 364 yJ9_max_7cf53 ∈ mGW := mIn 586 (by decide +kernel) rfl
theorem wk_RX7_369 : Cond.methodLink RX7 369 yJ9_min_7cf53 ∈ mGW := mIn 546 (by decide +kernel) rfl
theorem wk_RX7_372 : Cond.methodLink RX7 372 yX7_nextSeed ∈ mGW := mIn 935 (by decide +kernel) rfl
theorem wk_RX7_375 : Cond.methodLink RX7 375 yX7_cardByNumber ∈ mGW := mIn 936 (by decide +kernel) rfl
theorem wk_RX7_381 : Cond.methodLink RX7 381 yX7_wouldBeSo ∈ mGW := mIn 970 (by decide +kernel) rfl
theorem wk_RX7_385 : Cond.methodLink RX7 385 yX2_winnerOf ∈ mGW := mIn 974 (by decide +kernel) rfl
theorem wm_RX7_9 : Cond.methodLinkNest RX7 9 yX6_init "TrickHouse" ∈ lw_tbl := mInN 31 (by decide +kernel)
theorem wm_RX7_18 : Cond.methodLinkNest RX7 18 yX0_init "TrickHouse" ∈ lw_tbl := mInN 65 (by decide +kernel)
theorem wm_RX7_49 : Cond.methodLinkNest RX7 49 yX4_init "TrickHouse" ∈ lw_tbl := mInN 312 (by decide +kernel)
theorem wk_RX8_76 : Cond.methodLink RX8 76 yX8_begins ∈ mGW := mIn 1026 (by decide +kernel) rfl
theorem wk_RX8_115 : Cond.methodLink RX8 115 yX8_clears ∈ mGW := mIn 1030 (by decide +kernel) rfl
theorem wk_RX8_122 : Cond.methodLink RX8 122 yX8_strengthBy ∈ mGW := mIn 1199 (by decide +kernel) rfl
theorem wk_RX8_126 : Cond.methodLink RX8 126 yX8_ofSuit ∈ mGW := mIn 1192 (by decide +kernel) rfl
theorem wk_RX8_130 : Cond.methodLink RX8 130 yX8_trumpNow ∈ mGW := mIn 1195 (by decide +kernel) rfl
theorem wk_RX8_134 : Cond.methodLink RX8 134 yJ9_max_7cf53 ∈ mGW := mIn 1202 (by decide +kernel) rfl
theorem wk_RX8_139 : Cond.methodLink RX8 139 yX8_has ∈ mGW := mIn 1203 (by decide +kernel) rfl
theorem wk_RX8_143 : Cond.methodLink RX8 143 yX8_bit ∈ mGW := mIn 1206 (by decide +kernel) rfl
theorem wk_RX8_147 : Cond.methodLink RX8 147 yX8_plain ∈ mGW := mIn 1339 (by decide +kernel) rfl
theorem wk_RX8_151 : Cond.methodLink RX8 151 yX8_side ∈ mGW := mIn 1209 (by decide +kernel) rfl
theorem wk_RX8_166 : Cond.methodLink RX8 166 yX8_scored ∈ mGW := mIn 1336 (by decide +kernel) rfl
theorem wk_RX8_171 : Cond.methodLink RX8 171 yX8_endsDeal ∈ mGW := mIn 1332 (by decide +kernel) rfl
theorem wk_RX8_175 : Cond.methodLink RX8 175 yX8_leads ∈ mGW := mIn 1224 (by decide +kernel) rfl
theorem wk_RX8_179 : Cond.methodLink RX8 179 yX8_wonBy ∈ mGW := mIn 1220 (by decide +kernel) rfl
theorem wk_RX8_182 : Cond.methodLink RX8 182 yX8_deals ∈ mGW := mIn 1319 (by decide +kernel) rfl
theorem wk_RX8_185 : Cond.methodLink RX8 185 yX8_bids ∈ mGW := mIn 1324 (by decide +kernel) rfl
theorem wk_RX8_189 : Cond.methodLink RX8 189 yX8_passes ∈ mGW := mIn 1328 (by decide +kernel) rfl
theorem wk_RX8_191 : Cond.methodLink RX8 191 yX8_plays ∈ mGW := mIn 1216 (by decide +kernel) rfl
theorem wk_RX8_194 : Cond.methodLink RX8 194 yX8_doesAct ∈ mGW := mIn 1315 (by decide +kernel) rfl
theorem wk_RX8_198 : Cond.methodLink RX8 198 yX8_solved ∈ mGW := mIn 1184 (by decide +kernel) rfl
theorem wk_RX8_201 : Cond.methodLink RX8 201 yX8_mayPlay ∈ mGW := mIn 1188 (by decide +kernel) rfl
theorem wk_RX8_204 : Cond.methodLink RX8 204 yX8_tried ∈ mGW := mIn 1212 (by decide +kernel) rfl
theorem wk_RX8_207 : Cond.methodLink RX8 207 yX8_isLate ∈ mGW := mIn 1180 (by decide +kernel) rfl
theorem wk_RX8_211 : Cond.methodLink RX8 211 yX8_forTurn ∈ mGW := mIn 1228 (by decide +kernel) rfl
theorem wk_RX8_214 : Cond.methodLink RX8 214 yX8_in ∈ mGW := mIn 1236 (by decide +kernel) rfl
theorem wk_RX8_218 : Cond.methodLink RX8 218 yX8_isByte ∈ mGW := mIn 1247 (by decide +kernel) rfl
theorem wk_RX8_225 : Cond.methodLink RX8 225 yJ0_length_8abf5 ∈ mGW := mIn 1275 (by decide +kernel) rfl
theorem wk_RX8_236 : Cond.methodLink RX8 236 yJ0_charAt_5068e ∈ mGW := mIn 1276 (by decide +kernel) rfl
theorem wk_RX8_240 : Cond.methodLink RX8 240 yX8_byteAt ∈ mGW := mIn 1262 (by decide +kernel) rfl
theorem wk_RX8_259 : Cond.methodLink RX8 259 yX8_wordOf ∈ mGW := mIn 1285 (by decide +kernel) rfl
theorem wk_RX8_263 : Cond.methodLink RX8 263 yX8_isWord ∈ mGW := mIn 1271 (by decide +kernel) rfl
theorem wk_RX8_283 : Cond.methodLink RX8 283 yX8_suitRead ∈ mGW := mIn 1266 (by decide +kernel) rfl
theorem wk_RX8_286 : Cond.methodLink RX8 286 yX8_wordRead ∈ mGW := mIn 1281 (by decide +kernel) rfl
theorem wk_RX8_292 : Cond.methodLink RX8 292 yX8_next ∈ mGW := mIn 1258 (by decide +kernel) rfl
theorem wk_RX8_295 : Cond.methodLink RX8 295 yX8_takes ∈ mGW := mIn 1297 (by decide +kernel) rfl
theorem wk_RX8_305 : Cond.methodLink RX8 305 yX8_open ∈ mGW := mIn 1314 (by decide +kernel) rfl
theorem wk_RX8_308 : Cond.methodLink RX8 308 yX8_read ∈ mGW := mIn 1254 (by decide +kernel) rfl
theorem wk_RX8_314 : Cond.methodLink RX8 314 yX8_isTime ∈ mGW := mIn 1302 (by decide +kernel) rfl
theorem wk_RX8_317 : Cond.methodLink RX8 317 yX8_isNumber ∈ mGW := mIn 1306 (by decide +kernel) rfl
theorem wk_RX8_320 : Cond.methodLink RX8 320 yX8_isFair ∈ mGW := mIn 1310 (by decide +kernel) rfl
theorem wk_RX8_323 : Cond.methodLink RX8 323 yX8_goesThrough ∈ mGW := mIn 1346 (by decide +kernel) rfl
theorem wk_RX8_330 : Cond.methodLink RX8 330 yJ4_init_da8c8 ∈ mGW := mIn 1364 (by decide +kernel) rfl
theorem wk_RX8_331 : Cond.methodLink RX8 331 yJ4_append_15ec4 ∈ mGW := mIn 1365 (by decide +kernel) rfl
theorem wk_RX8_337 : Cond.methodLink RX8 337 yJ4_append_cf468 ∈ mGW := mIn 1367 (by decide +kernel) rfl
theorem wk_RX8_340 : Cond.methodLink RX8 340 yJ4_toString_0e30d ∈ mGW := mIn 1368 (by decide +kernel) rfl
theorem wk_RX8_344 : Cond.methodLink RX8 344 yJ4_append_bf812 ∈ mGW := mIn 1418 (by decide +kernel) rfl
theorem wk_RX8_347 : Cond.methodLink RX8 347 yX8_textOf ∈ mGW := mIn 1358 (by decide +kernel) rfl
theorem wk_RX8_350 : Cond.methodLink RX8 350 yX8_answer ∈ mGW := mIn 1423 (by decide +kernel) rfl
theorem wk_RX8_353 : Cond.methodLink RX8 353 yX8_isHouse ∈ mGW := mIn 1447 (by decide +kernel) rfl
theorem wk_RX8_356 : Cond.methodLink RX8 356 yJ6_bitCount_0f7a4 ∈ mGW := mIn 1466 (by decide +kernel) rfl
theorem wk_RX8_361 : Cond.methodLink RX8 361 yX8_byLot ∈ mGW := mIn 1462 (by decide +kernel) rfl
theorem wk_RX8_364 : Cond.methodLink RX8 364 yX8_common ∈ mGW := mIn 1471 (by decide +kernel) rfl
theorem wk_RX8_367 : Cond.methodLink RX8 367 yX8_isSheet ∈ mGW := mIn 1482 (by decide +kernel) rfl
theorem wk_RX8_370 : Cond.methodLink RX8 370 yX8_isSo ∈ mGW := mIn 1485 (by decide +kernel) rfl
theorem wk_RX8_373 : Cond.methodLink RX8 373 yX8_logRow ∈ mGW := mIn 1497 (by decide +kernel) rfl
theorem wk_RJ5_26 : Cond.methodLink RJ5 26 yJ2_newBytesFor_77867 ∈ mGW := mIn 289 (by decide +kernel) rfl
theorem wk_RJ5_32 : Cond.methodLink RJ5 32 yJ0_length_8abf5 ∈ mGW := mIn 766 (by decide +kernel) rfl
theorem wk_RJ5_40 : Cond.methodLink RJ5 40 yJ0_coder_7d493 ∈ mGW := mIn 775 (by decide +kernel) rfl
theorem wk_RJ5_83 : Cond.methodLink RJ5 83 yJ5_isLatin1_aae02 ∈ mGW := mIn 721 (by decide +kernel) rfl
theorem wk_RJ5_100 : Cond.methodLink RJ5 100 yJ5_ensureCapacityInternal_d00df ∈ mGW := mIn 692 (by decide +kernel) rfl
theorem wk_RJ5_104 : Cond.methodLink RJ5 104 yJ5_newCapacity_0f7a4 ∈ mGW := mIn 696 (by decide +kernel) rfl
theorem wk_RJ5_108 : Cond.methodLink RJ5 108 yJ7_copyOf_9075b ∈ mGW := mIn 709 (by decide +kernel) rfl
theorem wk_RJ5_114 : Cond.methodLink RJ5 114 yJ8_newLength_cabcc ∈ mGW := mIn 700 (by decide +kernel) rfl
theorem wk_RJ5_125 : Cond.methodLink RJ5 125 yJ1_inflate_0e8fd ∈ mGW := mIn 780 (by decide +kernel) rfl
theorem wk_RJ5_133 : Cond.methodLink RJ5 133 yJ1_fillNull_b72d1 ∈ mGW := mIn 726 (by decide +kernel) rfl
theorem wk_RJ5_137 : Cond.methodLink RJ5 137 yJ2_fillNull_b72d1 ∈ mGW := mIn 735 (by decide +kernel) rfl
theorem wk_RJ5_138 : Cond.methodLink RJ5 138 yJ9_min_7cf53 ∈ mGW := mIn 854 (by decide +kernel) rfl
theorem wk_RJ5_144 : Cond.methodLink RJ5 144 yJ0_checkIndex_df160 ∈ mGW := mIn 855 (by decide +kernel) rfl
theorem wk_RJ5_148 : Cond.methodLink RJ5 148 yJ2_getChar_3b067 ∈ mGW := mIn 856 (by decide +kernel) rfl
theorem wk_RJ5_191 : Cond.methodLink RJ5 191 yJ1_canEncode_fc78d ∈ mGW := mIn 808 (by decide +kernel) rfl
theorem wk_RJ5_195 : Cond.methodLink RJ5 195 yJ5_inflate_da8c8 ∈ mGW := mIn 776 (by decide +kernel) rfl
theorem wk_RJ5_197 : Cond.methodLink RJ5 197 yJ2_putCharSB_b72d1 ∈ mGW := mIn 811 (by decide +kernel) rfl
theorem wk_RJ5_204 : Cond.methodLink RJ5 204 yJ5_appendNull_278bc ∈ mGW := mIn 747 (by decide +kernel) rfl
theorem wk_RJ5_208 : Cond.methodLink RJ5 208 yJ5_putStringAt_47b60 ∈ mGW := mIn 767 (by decide +kernel) rfl
theorem wk_RJ5_226 : Cond.methodLink RJ5 226 yJ2_putCharsAt_cd4e5 ∈ mGW := mIn 751 (by decide +kernel) rfl
theorem wk_RJ5_245 : Cond.methodLink RJ5 245 yJ6_stringSize_0f7a4 ∈ mGW := mIn 822 (by decide +kernel) rfl
theorem wk_RJ5_248 : Cond.methodLink RJ5 248 yJ6_getChars_ba4f3 ∈ mGW := mIn 825 (by decide +kernel) rfl
theorem wk_RJ5_251 : Cond.methodLink RJ5 251 yJ2_getChars_46870 ∈ mGW := mIn 832 (by decide +kernel) rfl
theorem wk_RJ5_397 : Cond.methodLink RJ5 397 yJ5_inflateIfNeededFor_a7421 ∈ mGW := mIn 771 (by decide +kernel) rfl
theorem wk_RJ5_399 : Cond.methodLink RJ5 399 yJ0_getBytes_840e7 ∈ mGW := mIn 795 (by decide +kernel) rfl
theorem wk_RJ0_47 : Cond.methodLink RJ0 47 yJ2_coderFromArrayLen_85cad ∈ mGW := mIn 1404 (by decide +kernel) rfl
theorem wk_RJ0_54 : Cond.methodLink RJ0 54 yJ7_copyOfRange_39247 ∈ mGW := mIn 1388 (by decide +kernel) rfl
theorem wk_RJ0_106 : Cond.methodLink RJ0 106 yJ1_inflate_0e8fd ∈ mGW := mIn 800 (by decide +kernel) rfl
theorem wk_RJ0_335 : Cond.methodLink RJ0 335 yJ0_coder_7d493 ∈ mGW := mIn 416 (by decide +kernel) rfl
theorem wk_RJ0_489 : Cond.methodLink RJ0 489 yJ0_init_db425 ∈ mGW := mIn 1377 (by decide +kernel) rfl
theorem wk_RJ0_492 : Cond.methodLink RJ0 492 yJ0_isLatin1_aae02 ∈ mGW := mIn 425 (by decide +kernel) rfl
theorem wk_RJ0_495 : Cond.methodLink RJ0 495 yJ1_charAt_3b067 ∈ mGW := mIn 429 (by decide +kernel) rfl
theorem wk_RJ0_498 : Cond.methodLink RJ0 498 yJ2_charAt_3b067 ∈ mGW := mIn 440 (by decide +kernel) rfl
theorem wk_RJ0_549 : Cond.methodLink RJ0 549 yJ5_length_8abf5 ∈ mGW := mIn 1386 (by decide +kernel) rfl
theorem wk_RJ0_552 : Cond.methodLink RJ0 552 yJ5_getValue_6d5f1 ∈ mGW := mIn 1381 (by decide +kernel) rfl
theorem wk_RJ0_1047 : Cond.methodLink RJ0 1047 yJ5_isLatin1_aae02 ∈ mGW := mIn 1387 (by decide +kernel) rfl
theorem wk_RJ0_1051 : Cond.methodLink RJ0 1051 yJ2_compress_39247 ∈ mGW := mIn 1397 (by decide +kernel) rfl
theorem wk_RJ0_1059 : Cond.methodLink RJ0 1059 yJ3_checkIndex_8e157 ∈ mGW := mIn 437 (by decide +kernel) rfl
theorem wk_RJ0_1062 : Cond.methodLink RJ0 1062 yJ3_checkFromToIndex_8c36e ∈ mGW := mIn 760 (by decide +kernel) rfl
theorem wk_RJ0_1065 : Cond.methodLink RJ0 1065 yJ3_checkFromIndexSize_8c36e ∈ mGW := mIn 792 (by decide +kernel) rfl
theorem wk_RJ4_1 : Cond.methodLink RJ4 1 yJ5_init_d00df ∈ mGW := mIn 283 (by decide +kernel) rfl
theorem wk_RJ4_29 : Cond.methodLink RJ4 29 yJ5_append_cf1ce ∈ mGW := mIn 744 (by decide +kernel) rfl
theorem wk_RJ4_50 : Cond.methodLink RJ4 50 yJ5_append_3fe6f ∈ mGW := mIn 805 (by decide +kernel) rfl
theorem wk_RJ4_53 : Cond.methodLink RJ4 53 yJ5_append_c97b9 ∈ mGW := mIn 819 (by decide +kernel) rfl
theorem wk_RJ4_137 : Cond.methodLink RJ4 137 yJ0_init_81219 ∈ mGW := mIn 1374 (by decide +kernel) rfl
theorem wk_RJ4_329 : Cond.methodLink RJ4 329 yJ5_charAt_5068e ∈ mGW := mIn 851 (by decide +kernel) rfl
theorem wk_RJ4_333 : Cond.methodLink RJ4 333 yJ5_setLength_d00df ∈ mGW := mIn 689 (by decide +kernel) rfl
theorem wk_RJ4_343 : Cond.methodLink RJ4 343 yJ5_length_8abf5 ∈ mGW := mIn 844 (by decide +kernel) rfl
theorem wk_RJ1_9 : Cond.methodLink RJ1 9 yJ0_checkIndex_df160 ∈ mGW := mIn 432 (by decide +kernel) rfl
theorem wk_RJ1_236 : Cond.methodLink RJ1 236 yJ7_fill_eb02e ∈ mGW := mIn 729 (by decide +kernel) rfl
theorem wk_RJ1_240 : Cond.methodLink RJ1 240 yJ2_inflate_0e8fd ∈ mGW := mIn 783 (by decide +kernel) rfl
theorem wk_RJ2_11 : Cond.methodLink RJ2 11 yJ2_newBytesLength_0f7a4 ∈ mGW := mIn 292 (by decide +kernel) rfl
theorem wk_RJ2_48 : Cond.methodLink RJ2 48 yJ2_length_9d52b ∈ mGW := mIn 446 (by decide +kernel) rfl
theorem wk_RJ2_67 : Cond.methodLink RJ2 67 yJ2_checkIndex_2214a ∈ mGW := mIn 443 (by decide +kernel) rfl
theorem wk_RJ2_71 : Cond.methodLink RJ2 71 yJ2_getChar_3b067 ∈ mGW := mIn 450 (by decide +kernel) rfl
theorem wk_RJ2_96 : Cond.methodLink RJ2 96 yJ2_checkBoundsBeginEnd_d044e ∈ mGW := mIn 754 (by decide +kernel) rfl
theorem wk_RJ2_111 : Cond.methodLink RJ2 111 yJ2_putChar_b72d1 ∈ mGW := mIn 763 (by decide +kernel) rfl
theorem wk_RJ2_123 : Cond.methodLink RJ2 123 yJ2_compress_5af95 ∈ mGW := mIn 1400 (by decide +kernel) rfl
theorem wk_RJ2_126 : Cond.methodLink RJ2 126 yJ7_copyOfRange_39247 ∈ mGW := mIn 1403 (by decide +kernel) rfl
theorem wk_RJ2_173 : Cond.methodLink RJ2 173 yJ2_checkBoundsOffCount_d044e ∈ mGW := mIn 786 (by decide +kernel) rfl
theorem wk_RJ2_241 : Cond.methodLink RJ2 241 yJ0_checkBoundsBeginEnd_23922 ∈ mGW := mIn 757 (by decide +kernel) rfl
theorem wk_RJ2_380 : Cond.methodLink RJ2 380 yJ7_fill_eb02e ∈ mGW := mIn 738 (by decide +kernel) rfl
theorem wk_RJ2_393 : Cond.methodLink RJ2 393 yJ2_getChars_ba4f3 ∈ mGW := mIn 835 (by decide +kernel) rfl
theorem wk_RJ2_414 : Cond.methodLink RJ2 414 yJ0_checkIndex_df160 ∈ mGW := mIn 449 (by decide +kernel) rfl
theorem wk_RJ2_419 : Cond.methodLink RJ2 419 yJ0_checkBoundsOffCount_cabcc ∈ mGW := mIn 789 (by decide +kernel) rfl
theorem wk_RJ7_13 : Cond.methodLink RJ7 13 yJ7_rangeCheck_23922 ∈ mGW := mIn 732 (by decide +kernel) rfl
theorem wk_RJ7_304 : Cond.methodLink RJ7 304 yJ9_min_7cf53 ∈ mGW := mIn 719 (by decide +kernel) rfl
theorem wk_RJ7_339 : Cond.methodLink RJ7 339 yJ7_copyOfRangeByte_39247 ∈ mGW := mIn 1391 (by decide +kernel) rfl
theorem wk_RJ7_343 : Cond.methodLink RJ7 343 yJ7_checkLength_df160 ∈ mGW := mIn 1394 (by decide +kernel) rfl
theorem wk_RJ8_194 : Cond.methodLink RJ8 194 yJ9_max_7cf53 ∈ mGW := mIn 703 (by decide +kernel) rfl
theorem wk_RJ8_201 : Cond.methodLink RJ8 201 yJ8_hugeLength_7cf53 ∈ mGW := mIn 705 (by decide +kernel) rfl
theorem wk_RL_9 : Cond.methodLink RL 9 yX7_init ∈ mGW := mIn 23 (by decide +kernel) rfl
theorem wk_RL_12 : Cond.methodLink RL 12 yX8_init ∈ mGW := mIn 1020 (by decide +kernel) rfl
theorem wk_RL_13 : Cond.methodLink RL 13 yX7_feed ∈ mGW := mIn 354 (by decide +kernel) rfl
theorem wk_RL_17 : Cond.methodLink RL 17 yX8_feed ∈ mGW := mIn 1243 (by decide +kernel) rfl
theorem wk_RL_18 : Cond.methodLink RL 18 yX7_act ∈ mGW := mIn 368 (by decide +kernel) rfl
theorem wk_RL_22 : Cond.methodLink RL 22 yX8_act ∈ mGW := mIn 1250 (by decide +kernel) rfl
theorem wk_RL_23 : Cond.methodLink RL 23 yX7_undo ∈ mGW := mIn 664 (by decide +kernel) rfl
theorem wk_RL_26 : Cond.methodLink RL 26 yX8_undo ∈ mGW := mIn 1342 (by decide +kernel) rfl
theorem wk_RL_27 : Cond.methodLink RL 27 yX7_log ∈ mGW := mIn 673 (by decide +kernel) rfl
theorem wk_RL_31 : Cond.methodLink RL 31 yX8_log ∈ mGW := mIn 1350 (by decide +kernel) rfl
theorem wk_RL_32 : Cond.methodLink RL 32 yX7_print ∈ mGW := mIn 677 (by decide +kernel) rfl
theorem wk_RL_35 : Cond.methodLink RL 35 yX8_print ∈ mGW := mIn 1354 (by decide +kernel) rfl
theorem wk_RL_36 : Cond.methodLink RL 36 yX7_told ∈ mGW := mIn 857 (by decide +kernel) rfl
theorem wk_RL_40 : Cond.methodLink RL 40 yX8_told ∈ mGW := mIn 1419 (by decide +kernel) rfl
theorem wk_RL_41 : Cond.methodLink RL 41 yX7_hand ∈ mGW := mIn 867 (by decide +kernel) rfl
theorem wk_RL_44 : Cond.methodLink RL 44 yX8_hand ∈ mGW := mIn 1427 (by decide +kernel) rfl
theorem wk_RL_45 : Cond.methodLink RL 45 yX7_trick ∈ mGW := mIn 871 (by decide +kernel) rfl
theorem wk_RL_48 : Cond.methodLink RL 48 yX8_trick ∈ mGW := mIn 1431 (by decide +kernel) rfl
theorem wk_RL_49 : Cond.methodLink RL 49 yX7_strength ∈ mGW := mIn 880 (by decide +kernel) rfl
theorem wk_RL_52 : Cond.methodLink RL 52 yX8_strength ∈ mGW := mIn 1435 (by decide +kernel) rfl
theorem wk_RL_53 : Cond.methodLink RL 53 yX7_taken ∈ mGW := mIn 886 (by decide +kernel) rfl
theorem wk_RL_56 : Cond.methodLink RL 56 yX8_taken ∈ mGW := mIn 1439 (by decide +kernel) rfl
theorem wk_RL_57 : Cond.methodLink RL 57 yX7_score ∈ mGW := mIn 890 (by decide +kernel) rfl
theorem wk_RL_60 : Cond.methodLink RL 60 yX8_score ∈ mGW := mIn 1443 (by decide +kernel) rfl
theorem wk_RL_61 : Cond.methodLink RL 61 yX7_table ∈ mGW := mIn 898 (by decide +kernel) rfl
theorem wk_RL_65 : Cond.methodLink RL 65 yX8_table ∈ mGW := mIn 1450 (by decide +kernel) rfl
theorem wk_RL_66 : Cond.methodLink RL 66 yX7_total ∈ mGW := mIn 902 (by decide +kernel) rfl
theorem wk_RL_69 : Cond.methodLink RL 69 yX8_total ∈ mGW := mIn 1454 (by decide +kernel) rfl
theorem wk_RL_70 : Cond.methodLink RL 70 yX7_open ∈ mGW := mIn 910 (by decide +kernel) rfl
theorem wk_RL_73 : Cond.methodLink RL 73 yX8_open ∈ mGW := mIn 1176 (by decide +kernel) rfl
theorem wk_RL_74 : Cond.methodLink RL 74 yX7_gains ∈ mGW := mIn 915 (by decide +kernel) rfl
theorem wk_RL_77 : Cond.methodLink RL 77 yX8_gains ∈ mGW := mIn 1232 (by decide +kernel) rfl
theorem wk_RL_78 : Cond.methodLink RL 78 yX7_best ∈ mGW := mIn 923 (by decide +kernel) rfl
theorem wk_RL_81 : Cond.methodLink RL 81 yX8_best ∈ mGW := mIn 1239 (by decide +kernel) rfl
theorem wk_RL_82 : Cond.methodLink RL 82 yX7_drawn ∈ mGW := mIn 927 (by decide +kernel) rfl
theorem wk_RL_85 : Cond.methodLink RL 85 yX8_drawn ∈ mGW := mIn 1458 (by decide +kernel) rfl
theorem wk_RL_86 : Cond.methodLink RL 86 yX7_chance ∈ mGW := mIn 939 (by decide +kernel) rfl
theorem wk_RL_90 : Cond.methodLink RL 90 yX8_chance ∈ mGW := mIn 1467 (by decide +kernel) rfl
theorem wk_RL_91 : Cond.methodLink RL 91 yX7_replay ∈ mGW := mIn 946 (by decide +kernel) rfl
theorem wk_RL_94 : Cond.methodLink RL 94 yX8_replay ∈ mGW := mIn 1474 (by decide +kernel) rfl
theorem wk_RL_95 : Cond.methodLink RL 95 yX7_tells ∈ mGW := mIn 950 (by decide +kernel) rfl
theorem wk_RL_98 : Cond.methodLink RL 98 yX8_tells ∈ mGW := mIn 1478 (by decide +kernel) rfl
theorem wk_RL_99 : Cond.methodLink RL 99 yX7_film ∈ mGW := mIn 979 (by decide +kernel) rfl
theorem wk_RL_102 : Cond.methodLink RL 102 yX8_film ∈ mGW := mIn 1489 (by decide +kernel) rfl
theorem wk_RL_103 : Cond.methodLink RL 103 yX7_image ∈ mGW := mIn 989 (by decide +kernel) rfl
theorem wk_RL_106 : Cond.methodLink RL 106 yX8_image ∈ mGW := mIn 1493 (by decide +kernel) rfl
theorem wk_RL_107 : Cond.methodLink RL 107 yX7_back ∈ mGW := mIn 998 (by decide +kernel) rfl
theorem wk_RL_110 : Cond.methodLink RL 110 yX8_back ∈ mGW := mIn 1502 (by decide +kernel) rfl
theorem wk_RL_111 : Cond.methodLink RL 111 yX7_sheet ∈ mGW := mIn 1002 (by decide +kernel) rfl
theorem wk_RL_114 : Cond.methodLink RL 114 yX8_sheet ∈ mGW := mIn 1506 (by decide +kernel) rfl
theorem wk_RL_115 : Cond.methodLink RL 115 yX7_cell ∈ mGW := mIn 1006 (by decide +kernel) rfl
theorem wk_RL_118 : Cond.methodLink RL 118 yX8_cell ∈ mGW := mIn 1510 (by decide +kernel) rfl
theorem wk_RL_119 : Cond.methodLink RL 119 yX7_copy ∈ mGW := mIn 1010 (by decide +kernel) rfl
theorem wk_RL_122 : Cond.methodLink RL 122 yX8_copy ∈ mGW := mIn 1514 (by decide +kernel) rfl
theorem wu_RJ0 : ∀ w ∈ u_ws RJ0 TJ0 4, w ∈ mGW := mSub [1409, 1411, 1413, 1415] (by decide +kernel) (by decide +kernel)
theorem wu_RJ4 : ∀ w ∈ u_ws RJ4 TJ4 4, w ∈ mGW := mSub [301, 303, 305, 307] (by decide +kernel) (by decide +kernel)
theorem wu_RX0 : ∀ w ∈ u_ws RX0 TX0 5, w ∈ mGW := mSub [79, 81, 83, 85, 87] (by decide +kernel) (by decide +kernel)
theorem wu_RX1 : ∀ w ∈ u_ws RX1 TX1 8, w ∈ mGW := mSub [124, 126, 128, 130, 132, 134, 136, 138] (by decide +kernel) (by decide +kernel)
theorem wu_RX2 : ∀ w ∈ u_ws RX2 TX2 12, w ∈ mGW := mSub [169, 171, 173, 175, 177, 179, 181, 183, 185, 187, 189, 191] (by decide +kernel) (by decide +kernel)
theorem wu_RX3 : ∀ w ∈ u_ws RX3 TX3 6, w ∈ mGW := mSub [211, 213, 215, 217, 219, 221] (by decide +kernel) (by decide +kernel)
theorem wu_RX4 : ∀ w ∈ u_ws RX4 TX4 3, w ∈ mGW := mSub [322, 324, 326] (by decide +kernel) (by decide +kernel)
theorem wu_RX5 : ∀ w ∈ u_ws RX5 TX5 7, w ∈ mGW := mSub [261, 263, 265, 267, 269, 271, 273] (by decide +kernel) (by decide +kernel)
theorem wu_RX6 : ∀ w ∈ u_ws RX6 TX6 7, w ∈ mGW := mSub [47, 49, 51, 53, 55, 57, 59] (by decide +kernel) (by decide +kernel)
theorem wu_RX7 : ∀ w ∈ u_ws RX7 TX7 8, w ∈ mGW := mSub [337, 339, 341, 343, 345, 347, 349, 351] (by decide +kernel) (by decide +kernel)
theorem wu_RX8 : ∀ w ∈ u_ws RX8 TX8 47, w ∈ mGW := mSub [1081, 1083, 1085, 1087, 1089, 1091, 1093, 1095, 1097, 1099, 1101, 1103, 1105, 1107, 1109, 1111, 1113, 1115, 1117, 1119, 1121, 1123, 1125, 1127, 1129, 1131, 1133, 1135, 1137, 1139, 1141, 1143, 1145, 1147, 1149, 1151, 1153, 1155, 1157, 1159, 1161, 1163, 1165, 1167, 1169, 1171, 1173] (by decide +kernel) (by decide +kernel)
def fl_RX0 : List (Nat × Nat × Nat × Nat) := [(9, 2, 0, 2), (15, 2, 1, 2), (18, 2, 2, 2), (21, 2, 3, 2), (24, 2, 4, 0)]
theorem fe_RX0_9 : mFldE RX0 (9, 2, 0, 2) := ⟨RX0, TX0, 5, tyX0, rfl, by decide, mIn 69 (by decide +kernel) rfl, wu_RX0, tyX0_ok, nmX0, Or.inl rfl, (fun h => by cases h), (fun h => by cases h), (fun h => by cases h)⟩
theorem fe_RX0_15 : mFldE RX0 (15, 2, 1, 2) := ⟨RX0, TX0, 5, tyX0, rfl, by decide, mIn 71 (by decide +kernel) rfl, wu_RX0, tyX0_ok, nmX0, Or.inl rfl, (fun h => by cases h), (fun h => by cases h), (fun h => by cases h)⟩
theorem fe_RX0_18 : mFldE RX0 (18, 2, 2, 2) := ⟨RX0, TX0, 5, tyX0, rfl, by decide, mIn 73 (by decide +kernel) rfl, wu_RX0, tyX0_ok, nmX0, Or.inl rfl, (fun h => by cases h), (fun h => by cases h), (fun h => by cases h)⟩
theorem fe_RX0_21 : mFldE RX0 (21, 2, 3, 2) := ⟨RX0, TX0, 5, tyX0, rfl, by decide, mIn 75 (by decide +kernel) rfl, wu_RX0, tyX0_ok, nmX0, Or.inl rfl, (fun h => by cases h), (fun h => by cases h), (fun h => by cases h)⟩
theorem fe_RX0_24 : mFldE RX0 (24, 2, 4, 0) := ⟨RX0, TX0, 5, tyX0, rfl, by decide, mIn 77 (by decide +kernel) rfl, wu_RX0, tyX0_ok, nmX0, Or.inr rfl, fun _ => rfl, (fun h => by cases h), (fun h => by cases h)⟩
theorem fk_RX0 : ∀ e ∈ fl_RX0, mFldE RX0 e := List.forall_mem_cons.mpr ⟨fe_RX0_9, List.forall_mem_cons.mpr ⟨fe_RX0_15, List.forall_mem_cons.mpr ⟨fe_RX0_18, List.forall_mem_cons.mpr ⟨fe_RX0_21, List.forall_mem_cons.mpr ⟨fe_RX0_24, fun _ h => absurd h List.not_mem_nil⟩⟩⟩⟩⟩
def fl_RX1 : List (Nat × Nat × Nat × Nat) := [(9, 3, 0, 2), (19, 3, 1, 0), (23, 3, 2, 0), (26, 3, 3, 0), (29, 3, 4, 0), (32, 3, 5, 0), (35, 3, 6, 0), (38, 3, 7, 0)]
theorem fe_RX1_9 : mFldE RX1 (9, 3, 0, 2) := ⟨RX1, TX1, 8, tyX1, rfl, by decide, mIn 102 (by decide +kernel) rfl, wu_RX1, tyX1_ok, nmX1, Or.inl rfl, (fun h => by cases h), (fun h => by cases h), (fun h => by cases h)⟩
theorem fe_RX1_19 : mFldE RX1 (19, 3, 1, 0) := ⟨RX1, TX1, 8, tyX1, rfl, by decide, mIn 103 (by decide +kernel) rfl, wu_RX1, tyX1_ok, nmX1, Or.inr rfl, fun _ => rfl, (fun h => by cases h), (fun h => by cases h)⟩
theorem fe_RX1_23 : mFldE RX1 (23, 3, 2, 0) := ⟨RX1, TX1, 8, tyX1, rfl, by decide, mIn 105 (by decide +kernel) rfl, wu_RX1, tyX1_ok, nmX1, Or.inr rfl, fun _ => rfl, (fun h => by cases h), (fun h => by cases h)⟩
theorem fe_RX1_26 : mFldE RX1 (26, 3, 3, 0) := ⟨RX1, TX1, 8, tyX1, rfl, by decide, mIn 109 (by decide +kernel) rfl, wu_RX1, tyX1_ok, nmX1, Or.inr rfl, fun _ => rfl, (fun h => by cases h), (fun h => by cases h)⟩
theorem fe_RX1_29 : mFldE RX1 (29, 3, 4, 0) := ⟨RX1, TX1, 8, tyX1, rfl, by decide, mIn 113 (by decide +kernel) rfl, wu_RX1, tyX1_ok, nmX1, Or.inr rfl, fun _ => rfl, (fun h => by cases h), (fun h => by cases h)⟩
theorem fe_RX1_32 : mFldE RX1 (32, 3, 5, 0) := ⟨RX1, TX1, 8, tyX1, rfl, by decide, mIn 116 (by decide +kernel) rfl, wu_RX1, tyX1_ok, nmX1, Or.inr rfl, fun _ => rfl, (fun h => by cases h), (fun h => by cases h)⟩
theorem fe_RX1_35 : mFldE RX1 (35, 3, 6, 0) := ⟨RX1, TX1, 8, tyX1, rfl, by decide, mIn 119 (by decide +kernel) rfl, wu_RX1, tyX1_ok, nmX1, Or.inr rfl, fun _ => rfl, (fun h => by cases h), (fun h => by cases h)⟩
theorem fe_RX1_38 : mFldE RX1 (38, 3, 7, 0) := ⟨RX1, TX1, 8, tyX1, rfl, by decide, mIn 121 (by decide +kernel) rfl, wu_RX1, tyX1_ok, nmX1, Or.inr rfl, fun _ => rfl, (fun h => by cases h), (fun h => by cases h)⟩
theorem fk_RX1 : ∀ e ∈ fl_RX1, mFldE RX1 e := List.forall_mem_cons.mpr ⟨fe_RX1_9, List.forall_mem_cons.mpr ⟨fe_RX1_19, List.forall_mem_cons.mpr ⟨fe_RX1_23, List.forall_mem_cons.mpr ⟨fe_RX1_26, List.forall_mem_cons.mpr ⟨fe_RX1_29, List.forall_mem_cons.mpr ⟨fe_RX1_32, List.forall_mem_cons.mpr ⟨fe_RX1_35, List.forall_mem_cons.mpr ⟨fe_RX1_38, fun _ h => absurd h List.not_mem_nil⟩⟩⟩⟩⟩⟩⟩⟩
def fl_RX2 : List (Nat × Nat × Nat × Nat) := [(9, 4, 0, 2), (15, 4, 1, 2), (18, 4, 2, 2), (21, 4, 3, 2), (24, 4, 4, 2), (27, 4, 5, 2), (30, 4, 6, 2), (37, 4, 7, 0), (67, 4, 8, 0), (70, 4, 9, 0), (73, 4, 10, 0), (76, 4, 11, 0)]
theorem fe_RX2_9 : mFldE RX2 (9, 4, 0, 2) := ⟨RX2, TX2, 12, tyX2, rfl, by decide, mIn 147 (by decide +kernel) rfl, wu_RX2, tyX2_ok, nmX2, Or.inl rfl, (fun h => by cases h), (fun h => by cases h), (fun h => by cases h)⟩
theorem fe_RX2_15 : mFldE RX2 (15, 4, 1, 2) := ⟨RX2, TX2, 12, tyX2, rfl, by decide, mIn 148 (by decide +kernel) rfl, wu_RX2, tyX2_ok, nmX2, Or.inl rfl, (fun h => by cases h), (fun h => by cases h), (fun h => by cases h)⟩
theorem fe_RX2_18 : mFldE RX2 (18, 4, 2, 2) := ⟨RX2, TX2, 12, tyX2, rfl, by decide, mIn 150 (by decide +kernel) rfl, wu_RX2, tyX2_ok, nmX2, Or.inl rfl, (fun h => by cases h), (fun h => by cases h), (fun h => by cases h)⟩
theorem fe_RX2_21 : mFldE RX2 (21, 4, 3, 2) := ⟨RX2, TX2, 12, tyX2, rfl, by decide, mIn 152 (by decide +kernel) rfl, wu_RX2, tyX2_ok, nmX2, Or.inl rfl, (fun h => by cases h), (fun h => by cases h), (fun h => by cases h)⟩
theorem fe_RX2_24 : mFldE RX2 (24, 4, 4, 2) := ⟨RX2, TX2, 12, tyX2, rfl, by decide, mIn 154 (by decide +kernel) rfl, wu_RX2, tyX2_ok, nmX2, Or.inl rfl, (fun h => by cases h), (fun h => by cases h), (fun h => by cases h)⟩
theorem fe_RX2_27 : mFldE RX2 (27, 4, 5, 2) := ⟨RX2, TX2, 12, tyX2, rfl, by decide, mIn 156 (by decide +kernel) rfl, wu_RX2, tyX2_ok, nmX2, Or.inl rfl, (fun h => by cases h), (fun h => by cases h), (fun h => by cases h)⟩
theorem fe_RX2_30 : mFldE RX2 (30, 4, 6, 2) := ⟨RX2, TX2, 12, tyX2, rfl, by decide, mIn 158 (by decide +kernel) rfl, wu_RX2, tyX2_ok, nmX2, Or.inl rfl, (fun h => by cases h), (fun h => by cases h), (fun h => by cases h)⟩
theorem fe_RX2_37 : mFldE RX2 (37, 4, 7, 0) := ⟨RX2, TX2, 12, tyX2, rfl, by decide, mIn 161 (by decide +kernel) rfl, wu_RX2, tyX2_ok, nmX2, Or.inr rfl, fun _ => rfl, (fun h => by cases h), (fun h => by cases h)⟩
theorem fe_RX2_67 : mFldE RX2 (67, 4, 8, 0) := ⟨RX2, TX2, 12, tyX2, rfl, by decide, mIn 164 (by decide +kernel) rfl, wu_RX2, tyX2_ok, nmX2, Or.inr rfl, fun _ => rfl, (fun h => by cases h), (fun h => by cases h)⟩
theorem fe_RX2_70 : mFldE RX2 (70, 4, 9, 0) := ⟨RX2, TX2, 12, tyX2, rfl, by decide, mIn 166 (by decide +kernel) rfl, wu_RX2, tyX2_ok, nmX2, Or.inr rfl, fun _ => rfl, (fun h => by cases h), (fun h => by cases h)⟩
theorem fe_RX2_73 : mFldE RX2 (73, 4, 10, 0) := ⟨RX2, TX2, 12, tyX2, rfl, by decide, mIn 167 (by decide +kernel) rfl, wu_RX2, tyX2_ok, nmX2, Or.inr rfl, fun _ => rfl, (fun h => by cases h), (fun h => by cases h)⟩
theorem fe_RX2_76 : mFldE RX2 (76, 4, 11, 0) := ⟨RX2, TX2, 12, tyX2, rfl, by decide, mIn 168 (by decide +kernel) rfl, wu_RX2, tyX2_ok, nmX2, Or.inr rfl, fun _ => rfl, (fun h => by cases h), (fun h => by cases h)⟩
theorem fk_RX2 : ∀ e ∈ fl_RX2, mFldE RX2 e := List.forall_mem_cons.mpr ⟨fe_RX2_9, List.forall_mem_cons.mpr ⟨fe_RX2_15, List.forall_mem_cons.mpr ⟨fe_RX2_18, List.forall_mem_cons.mpr ⟨fe_RX2_21, List.forall_mem_cons.mpr ⟨fe_RX2_24, List.forall_mem_cons.mpr ⟨fe_RX2_27, List.forall_mem_cons.mpr ⟨fe_RX2_30, List.forall_mem_cons.mpr ⟨fe_RX2_37, List.forall_mem_cons.mpr ⟨fe_RX2_67, List.forall_mem_cons.mpr ⟨fe_RX2_70, List.forall_mem_cons.mpr ⟨fe_RX2_73, List.forall_mem_cons.mpr ⟨fe_RX2_76, fun _ h => absurd h List.not_mem_nil⟩⟩⟩⟩⟩⟩⟩⟩⟩⟩⟩⟩
def fl_RX3 : List (Nat × Nat × Nat × Nat) := [(9, 5, 0, 2), (19, 5, 1, 1), (23, 5, 2, 0), (27, 3, 2, 0), (32, 5, 3, 0), (33, 3, 3, 0), (36, 5, 4, 0), (37, 3, 5, 0), (40, 5, 5, 0), (41, 3, 4, 0)]
theorem fe_RX3_9 : mFldE RX3 (9, 5, 0, 2) := ⟨RX3, TX3, 6, tyX3, rfl, by decide, mIn 200 (by decide +kernel) rfl, wu_RX3, tyX3_ok, nmX3, Or.inl rfl, (fun h => by cases h), (fun h => by cases h), (fun h => by cases h)⟩
theorem fe_RX3_19 : mFldE RX3 (19, 5, 1, 1) := ⟨RX3, TX3, 6, tyX3, rfl, by decide, mIn 201 (by decide +kernel) rfl, wu_RX3, tyX3_ok, nmX3, Or.inr rfl, (fun h => by cases h), fun _ => rfl, (fun h => by cases h)⟩
theorem fe_RX3_23 : mFldE RX3 (23, 5, 2, 0) := ⟨RX3, TX3, 6, tyX3, rfl, by decide, mIn 203 (by decide +kernel) rfl, wu_RX3, tyX3_ok, nmX3, Or.inr rfl, fun _ => rfl, (fun h => by cases h), (fun h => by cases h)⟩
theorem fe_RX3_27 : mFldE RX3 (27, 3, 2, 0) := ⟨RX1, TX1, 8, tyX1, rfl, by decide, mIn 106 (by decide +kernel) rfl, wu_RX1, tyX1_ok, nmX1, Or.inr rfl, fun _ => rfl, (fun h => by cases h), (fun h => by cases h)⟩
theorem fe_RX3_32 : mFldE RX3 (32, 5, 3, 0) := ⟨RX3, TX3, 6, tyX3, rfl, by decide, mIn 205 (by decide +kernel) rfl, wu_RX3, tyX3_ok, nmX3, Or.inr rfl, fun _ => rfl, (fun h => by cases h), (fun h => by cases h)⟩
theorem fe_RX3_33 : mFldE RX3 (33, 3, 3, 0) := ⟨RX1, TX1, 8, tyX1, rfl, by decide, mIn 110 (by decide +kernel) rfl, wu_RX1, tyX1_ok, nmX1, Or.inr rfl, fun _ => rfl, (fun h => by cases h), (fun h => by cases h)⟩
theorem fe_RX3_36 : mFldE RX3 (36, 5, 4, 0) := ⟨RX3, TX3, 6, tyX3, rfl, by decide, mIn 207 (by decide +kernel) rfl, wu_RX3, tyX3_ok, nmX3, Or.inr rfl, fun _ => rfl, (fun h => by cases h), (fun h => by cases h)⟩
theorem fe_RX3_37 : mFldE RX3 (37, 3, 5, 0) := ⟨RX1, TX1, 8, tyX1, rfl, by decide, mIn 117 (by decide +kernel) rfl, wu_RX1, tyX1_ok, nmX1, Or.inr rfl, fun _ => rfl, (fun h => by cases h), (fun h => by cases h)⟩
theorem fe_RX3_40 : mFldE RX3 (40, 5, 5, 0) := ⟨RX3, TX3, 6, tyX3, rfl, by decide, mIn 209 (by decide +kernel) rfl, wu_RX3, tyX3_ok, nmX3, Or.inr rfl, fun _ => rfl, (fun h => by cases h), (fun h => by cases h)⟩
theorem fe_RX3_41 : mFldE RX3 (41, 3, 4, 0) := ⟨RX1, TX1, 8, tyX1, rfl, by decide, mIn 114 (by decide +kernel) rfl, wu_RX1, tyX1_ok, nmX1, Or.inr rfl, fun _ => rfl, (fun h => by cases h), (fun h => by cases h)⟩
theorem fk_RX3 : ∀ e ∈ fl_RX3, mFldE RX3 e := List.forall_mem_cons.mpr ⟨fe_RX3_9, List.forall_mem_cons.mpr ⟨fe_RX3_19, List.forall_mem_cons.mpr ⟨fe_RX3_23, List.forall_mem_cons.mpr ⟨fe_RX3_27, List.forall_mem_cons.mpr ⟨fe_RX3_32, List.forall_mem_cons.mpr ⟨fe_RX3_33, List.forall_mem_cons.mpr ⟨fe_RX3_36, List.forall_mem_cons.mpr ⟨fe_RX3_37, List.forall_mem_cons.mpr ⟨fe_RX3_40, List.forall_mem_cons.mpr ⟨fe_RX3_41, fun _ h => absurd h List.not_mem_nil⟩⟩⟩⟩⟩⟩⟩⟩⟩⟩
def fl_RX4 : List (Nat × Nat × Nat × Nat) := [(9, 6, 0, 2), (15, 6, 1, 0), (19, 6, 2, 0)]
theorem fe_RX4_9 : mFldE RX4 (9, 6, 0, 2) := ⟨RX4, TX4, 3, tyX4, rfl, by decide, mIn 316 (by decide +kernel) rfl, wu_RX4, tyX4_ok, nmX4, Or.inl rfl, (fun h => by cases h), (fun h => by cases h), (fun h => by cases h)⟩
theorem fe_RX4_15 : mFldE RX4 (15, 6, 1, 0) := ⟨RX4, TX4, 3, tyX4, rfl, by decide, mIn 318 (by decide +kernel) rfl, wu_RX4, tyX4_ok, nmX4, Or.inr rfl, fun _ => rfl, (fun h => by cases h), (fun h => by cases h)⟩
theorem fe_RX4_19 : mFldE RX4 (19, 6, 2, 0) := ⟨RX4, TX4, 3, tyX4, rfl, by decide, mIn 320 (by decide +kernel) rfl, wu_RX4, tyX4_ok, nmX4, Or.inr rfl, fun _ => rfl, (fun h => by cases h), (fun h => by cases h)⟩
theorem fk_RX4 : ∀ e ∈ fl_RX4, mFldE RX4 e := List.forall_mem_cons.mpr ⟨fe_RX4_9, List.forall_mem_cons.mpr ⟨fe_RX4_15, List.forall_mem_cons.mpr ⟨fe_RX4_19, fun _ h => absurd h List.not_mem_nil⟩⟩⟩
def fl_RX5 : List (Nat × Nat × Nat × Nat) := [(12, 7, 0, 2), (21, 7, 1, 2), (28, 7, 2, 2), (35, 7, 3, 0), (39, 7, 4, 0), (42, 7, 5, 0), (45, 7, 6, 0), (54, 3, 1, 0), (57, 4, 8, 0), (101, 3, 7, 0), (104, 3, 3, 0), (110, 3, 6, 0), (119, 4, 6, 2), (123, 3, 4, 0), (140, 3, 2, 0), (143, 3, 5, 0)]
theorem fe_RX5_12 : mFldE RX5 (12, 7, 0, 2) := ⟨RX5, TX5, 7, tyX5, rfl, by decide, mIn 249 (by decide +kernel) rfl, wu_RX5, tyX5_ok, nmX5, Or.inl rfl, (fun h => by cases h), (fun h => by cases h), (fun h => by cases h)⟩
theorem fe_RX5_21 : mFldE RX5 (21, 7, 1, 2) := ⟨RX5, TX5, 7, tyX5, rfl, by decide, mIn 251 (by decide +kernel) rfl, wu_RX5, tyX5_ok, nmX5, Or.inl rfl, (fun h => by cases h), (fun h => by cases h), (fun h => by cases h)⟩
theorem fe_RX5_28 : mFldE RX5 (28, 7, 2, 2) := ⟨RX5, TX5, 7, tyX5, rfl, by decide, mIn 253 (by decide +kernel) rfl, wu_RX5, tyX5_ok, nmX5, Or.inl rfl, (fun h => by cases h), (fun h => by cases h), (fun h => by cases h)⟩
theorem fe_RX5_35 : mFldE RX5 (35, 7, 3, 0) := ⟨RX5, TX5, 7, tyX5, rfl, by decide, mIn 255 (by decide +kernel) rfl, wu_RX5, tyX5_ok, nmX5, Or.inr rfl, fun _ => rfl, (fun h => by cases h), (fun h => by cases h)⟩
theorem fe_RX5_39 : mFldE RX5 (39, 7, 4, 0) := ⟨RX5, TX5, 7, tyX5, rfl, by decide, mIn 257 (by decide +kernel) rfl, wu_RX5, tyX5_ok, nmX5, Or.inr rfl, fun _ => rfl, (fun h => by cases h), (fun h => by cases h)⟩
theorem fe_RX5_42 : mFldE RX5 (42, 7, 5, 0) := ⟨RX5, TX5, 7, tyX5, rfl, by decide, mIn 258 (by decide +kernel) rfl, wu_RX5, tyX5_ok, nmX5, Or.inr rfl, fun _ => rfl, (fun h => by cases h), (fun h => by cases h)⟩
theorem fe_RX5_45 : mFldE RX5 (45, 7, 6, 0) := ⟨RX5, TX5, 7, tyX5, rfl, by decide, mIn 260 (by decide +kernel) rfl, wu_RX5, tyX5_ok, nmX5, Or.inr rfl, fun _ => rfl, (fun h => by cases h), (fun h => by cases h)⟩
theorem fe_RX5_54 : mFldE RX5 (54, 3, 1, 0) := ⟨RX1, TX1, 8, tyX1, rfl, by decide, mIn 104 (by decide +kernel) rfl, wu_RX1, tyX1_ok, nmX1, Or.inr rfl, fun _ => rfl, (fun h => by cases h), (fun h => by cases h)⟩
theorem fe_RX5_57 : mFldE RX5 (57, 4, 8, 0) := ⟨RX2, TX2, 12, tyX2, rfl, by decide, mIn 163 (by decide +kernel) rfl, wu_RX2, tyX2_ok, nmX2, Or.inr rfl, fun _ => rfl, (fun h => by cases h), (fun h => by cases h)⟩
theorem fe_RX5_101 : mFldE RX5 (101, 3, 7, 0) := ⟨RX1, TX1, 8, tyX1, rfl, by decide, mIn 122 (by decide +kernel) rfl, wu_RX1, tyX1_ok, nmX1, Or.inr rfl, fun _ => rfl, (fun h => by cases h), (fun h => by cases h)⟩
theorem fe_RX5_104 : mFldE RX5 (104, 3, 3, 0) := ⟨RX1, TX1, 8, tyX1, rfl, by decide, mIn 111 (by decide +kernel) rfl, wu_RX1, tyX1_ok, nmX1, Or.inr rfl, fun _ => rfl, (fun h => by cases h), (fun h => by cases h)⟩
theorem fe_RX5_110 : mFldE RX5 (110, 3, 6, 0) := ⟨RX1, TX1, 8, tyX1, rfl, by decide, mIn 120 (by decide +kernel) rfl, wu_RX1, tyX1_ok, nmX1, Or.inr rfl, fun _ => rfl, (fun h => by cases h), (fun h => by cases h)⟩
theorem fe_RX5_119 : mFldE RX5 (119, 4, 6, 2) := ⟨RX2, TX2, 12, tyX2, rfl, by decide, mIn 159 (by decide +kernel) rfl, wu_RX2, tyX2_ok, nmX2, Or.inl rfl, (fun h => by cases h), (fun h => by cases h), (fun h => by cases h)⟩
theorem fe_RX5_123 : mFldE RX5 (123, 3, 4, 0) := ⟨RX1, TX1, 8, tyX1, rfl, by decide, mIn 115 (by decide +kernel) rfl, wu_RX1, tyX1_ok, nmX1, Or.inr rfl, fun _ => rfl, (fun h => by cases h), (fun h => by cases h)⟩
theorem fe_RX5_140 : mFldE RX5 (140, 3, 2, 0) := ⟨RX1, TX1, 8, tyX1, rfl, by decide, mIn 107 (by decide +kernel) rfl, wu_RX1, tyX1_ok, nmX1, Or.inr rfl, fun _ => rfl, (fun h => by cases h), (fun h => by cases h)⟩
theorem fe_RX5_143 : mFldE RX5 (143, 3, 5, 0) := ⟨RX1, TX1, 8, tyX1, rfl, by decide, mIn 118 (by decide +kernel) rfl, wu_RX1, tyX1_ok, nmX1, Or.inr rfl, fun _ => rfl, (fun h => by cases h), (fun h => by cases h)⟩
theorem fk_RX5 : ∀ e ∈ fl_RX5, mFldE RX5 e := List.forall_mem_cons.mpr ⟨fe_RX5_12, List.forall_mem_cons.mpr ⟨fe_RX5_21, List.forall_mem_cons.mpr ⟨fe_RX5_28, List.forall_mem_cons.mpr ⟨fe_RX5_35, List.forall_mem_cons.mpr ⟨fe_RX5_39, List.forall_mem_cons.mpr ⟨fe_RX5_42, List.forall_mem_cons.mpr ⟨fe_RX5_45, List.forall_mem_cons.mpr ⟨fe_RX5_54, List.forall_mem_cons.mpr ⟨fe_RX5_57, List.forall_mem_cons.mpr ⟨fe_RX5_101, List.forall_mem_cons.mpr ⟨fe_RX5_104, List.forall_mem_cons.mpr ⟨fe_RX5_110, List.forall_mem_cons.mpr ⟨fe_RX5_119, List.forall_mem_cons.mpr ⟨fe_RX5_123, List.forall_mem_cons.mpr ⟨fe_RX5_140, List.forall_mem_cons.mpr ⟨fe_RX5_143, fun _ h => absurd h List.not_mem_nil⟩⟩⟩⟩⟩⟩⟩⟩⟩⟩⟩⟩⟩⟩⟩⟩
def fl_RX6 : List (Nat × Nat × Nat × Nat) := [(9, 8, 0, 2), (15, 8, 1, 0), (23, 8, 2, 0), (26, 8, 3, 0), (29, 8, 5, 0), (32, 8, 6, 0), (38, 8, 4, 0)]
theorem fe_RX6_9 : mFldE RX6 (9, 8, 0, 2) := ⟨RX6, TX6, 7, tyX6, rfl, by decide, mIn 35 (by decide +kernel) rfl, wu_RX6, tyX6_ok, nmX6, Or.inl rfl, (fun h => by cases h), (fun h => by cases h), (fun h => by cases h)⟩
theorem fe_RX6_15 : mFldE RX6 (15, 8, 1, 0) := ⟨RX6, TX6, 7, tyX6, rfl, by decide, mIn 36 (by decide +kernel) rfl, wu_RX6, tyX6_ok, nmX6, Or.inr rfl, fun _ => rfl, (fun h => by cases h), (fun h => by cases h)⟩
theorem fe_RX6_23 : mFldE RX6 (23, 8, 2, 0) := ⟨RX6, TX6, 7, tyX6, rfl, by decide, mIn 38 (by decide +kernel) rfl, wu_RX6, tyX6_ok, nmX6, Or.inr rfl, fun _ => rfl, (fun h => by cases h), (fun h => by cases h)⟩
theorem fe_RX6_26 : mFldE RX6 (26, 8, 3, 0) := ⟨RX6, TX6, 7, tyX6, rfl, by decide, mIn 39 (by decide +kernel) rfl, wu_RX6, tyX6_ok, nmX6, Or.inr rfl, fun _ => rfl, (fun h => by cases h), (fun h => by cases h)⟩
theorem fe_RX6_29 : mFldE RX6 (29, 8, 5, 0) := ⟨RX6, TX6, 7, tyX6, rfl, by decide, mIn 43 (by decide +kernel) rfl, wu_RX6, tyX6_ok, nmX6, Or.inr rfl, fun _ => rfl, (fun h => by cases h), (fun h => by cases h)⟩
theorem fe_RX6_32 : mFldE RX6 (32, 8, 6, 0) := ⟨RX6, TX6, 7, tyX6, rfl, by decide, mIn 45 (by decide +kernel) rfl, wu_RX6, tyX6_ok, nmX6, Or.inr rfl, fun _ => rfl, (fun h => by cases h), (fun h => by cases h)⟩
theorem fe_RX6_38 : mFldE RX6 (38, 8, 4, 0) := ⟨RX6, TX6, 7, tyX6, rfl, by decide, mIn 41 (by decide +kernel) rfl, wu_RX6, tyX6_ok, nmX6, Or.inr rfl, fun _ => rfl, (fun h => by cases h), (fun h => by cases h)⟩
theorem fk_RX6 : ∀ e ∈ fl_RX6, mFldE RX6 e := List.forall_mem_cons.mpr ⟨fe_RX6_9, List.forall_mem_cons.mpr ⟨fe_RX6_15, List.forall_mem_cons.mpr ⟨fe_RX6_23, List.forall_mem_cons.mpr ⟨fe_RX6_26, List.forall_mem_cons.mpr ⟨fe_RX6_29, List.forall_mem_cons.mpr ⟨fe_RX6_32, List.forall_mem_cons.mpr ⟨fe_RX6_38, fun _ h => absurd h List.not_mem_nil⟩⟩⟩⟩⟩⟩⟩
def fl_RX7 : List (Nat × Nat × Nat × Nat) := [(10, 9, 0, 2), (19, 9, 1, 2), (23, 9, 2, 2), (29, 9, 3, 2), (33, 9, 4, 2), (38, 9, 5, 2), (45, 9, 6, 2), (54, 8, 1, 0), (65, 8, 3, 0), (68, 8, 4, 0), (71, 8, 5, 0), (78, 8, 6, 0), (96, 2, 4, 0), (103, 2, 0, 2), (111, 2, 1, 2), (114, 2, 2, 2), (117, 2, 3, 2), (134, 7, 1, 2), (138, 4, 2, 2), (143, 4, 1, 2), (146, 7, 3, 0), (149, 4, 8, 0), (155, 4, 7, 0), (159, 4, 4, 2), (162, 4, 5, 2), (165, 4, 3, 2), (174, 7, 5, 0), (181, 7, 0, 2), (185, 3, 3, 0), (193, 7, 2, 2), (197, 5, 1, 1), (203, 5, 2, 0), (206, 5, 3, 0), (207, 5, 4, 0), (208, 5, 5, 0), (242, 3, 2, 0), (253, 6, 2, 0), (268, 6, 0, 2), (278, 9, 7, 1), (281, 6, 1, 0), (352, 4, 6, 2), (378, 3, 7, 0)]
theorem fe_RX7_10 : mFldE RX7 (10, 9, 0, 2) := ⟨RX7, TX7, 8, tyX7, rfl, by decide, mIn 329 (by decide +kernel) rfl, wu_RX7, tyX7_ok, nmX7, Or.inl rfl, (fun h => by cases h), (fun h => by cases h), (fun h => by cases h)⟩
theorem fe_RX7_19 : mFldE RX7 (19, 9, 1, 2) := ⟨RX7, TX7, 8, tyX7, rfl, by decide, mIn 330 (by decide +kernel) rfl, wu_RX7, tyX7_ok, nmX7, Or.inl rfl, (fun h => by cases h), (fun h => by cases h), (fun h => by cases h)⟩
theorem fe_RX7_23 : mFldE RX7 (23, 9, 2, 2) := ⟨RX7, TX7, 8, tyX7, rfl, by decide, mIn 331 (by decide +kernel) rfl, wu_RX7, tyX7_ok, nmX7, Or.inl rfl, (fun h => by cases h), (fun h => by cases h), (fun h => by cases h)⟩
theorem fe_RX7_29 : mFldE RX7 (29, 9, 3, 2) := ⟨RX7, TX7, 8, tyX7, rfl, by decide, mIn 332 (by decide +kernel) rfl, wu_RX7, tyX7_ok, nmX7, Or.inl rfl, (fun h => by cases h), (fun h => by cases h), (fun h => by cases h)⟩
theorem fe_RX7_33 : mFldE RX7 (33, 9, 4, 2) := ⟨RX7, TX7, 8, tyX7, rfl, by decide, mIn 333 (by decide +kernel) rfl, wu_RX7, tyX7_ok, nmX7, Or.inl rfl, (fun h => by cases h), (fun h => by cases h), (fun h => by cases h)⟩
theorem fe_RX7_38 : mFldE RX7 (38, 9, 5, 2) := ⟨RX7, TX7, 8, tyX7, rfl, by decide, mIn 334 (by decide +kernel) rfl, wu_RX7, tyX7_ok, nmX7, Or.inl rfl, (fun h => by cases h), (fun h => by cases h), (fun h => by cases h)⟩
theorem fe_RX7_45 : mFldE RX7 (45, 9, 6, 2) := ⟨RX7, TX7, 8, tyX7, rfl, by decide, mIn 335 (by decide +kernel) rfl, wu_RX7, tyX7_ok, nmX7, Or.inl rfl, (fun h => by cases h), (fun h => by cases h), (fun h => by cases h)⟩
theorem fe_RX7_54 : mFldE RX7 (54, 8, 1, 0) := ⟨RX6, TX6, 7, tyX6, rfl, by decide, mIn 37 (by decide +kernel) rfl, wu_RX6, tyX6_ok, nmX6, Or.inr rfl, fun _ => rfl, (fun h => by cases h), (fun h => by cases h)⟩
theorem fe_RX7_65 : mFldE RX7 (65, 8, 3, 0) := ⟨RX6, TX6, 7, tyX6, rfl, by decide, mIn 40 (by decide +kernel) rfl, wu_RX6, tyX6_ok, nmX6, Or.inr rfl, fun _ => rfl, (fun h => by cases h), (fun h => by cases h)⟩
theorem fe_RX7_68 : mFldE RX7 (68, 8, 4, 0) := ⟨RX6, TX6, 7, tyX6, rfl, by decide, mIn 42 (by decide +kernel) rfl, wu_RX6, tyX6_ok, nmX6, Or.inr rfl, fun _ => rfl, (fun h => by cases h), (fun h => by cases h)⟩
theorem fe_RX7_71 : mFldE RX7 (71, 8, 5, 0) := ⟨RX6, TX6, 7, tyX6, rfl, by decide, mIn 44 (by decide +kernel) rfl, wu_RX6, tyX6_ok, nmX6, Or.inr rfl, fun _ => rfl, (fun h => by cases h), (fun h => by cases h)⟩
theorem fe_RX7_78 : mFldE RX7 (78, 8, 6, 0) := ⟨RX6, TX6, 7, tyX6, rfl, by decide, mIn 46 (by decide +kernel) rfl, wu_RX6, tyX6_ok, nmX6, Or.inr rfl, fun _ => rfl, (fun h => by cases h), (fun h => by cases h)⟩
theorem fe_RX7_96 : mFldE RX7 (96, 2, 4, 0) := ⟨RX0, TX0, 5, tyX0, rfl, by decide, mIn 78 (by decide +kernel) rfl, wu_RX0, tyX0_ok, nmX0, Or.inr rfl, fun _ => rfl, (fun h => by cases h), (fun h => by cases h)⟩
theorem fe_RX7_103 : mFldE RX7 (103, 2, 0, 2) := ⟨RX0, TX0, 5, tyX0, rfl, by decide, mIn 70 (by decide +kernel) rfl, wu_RX0, tyX0_ok, nmX0, Or.inl rfl, (fun h => by cases h), (fun h => by cases h), (fun h => by cases h)⟩
theorem fe_RX7_111 : mFldE RX7 (111, 2, 1, 2) := ⟨RX0, TX0, 5, tyX0, rfl, by decide, mIn 72 (by decide +kernel) rfl, wu_RX0, tyX0_ok, nmX0, Or.inl rfl, (fun h => by cases h), (fun h => by cases h), (fun h => by cases h)⟩
theorem fe_RX7_114 : mFldE RX7 (114, 2, 2, 2) := ⟨RX0, TX0, 5, tyX0, rfl, by decide, mIn 74 (by decide +kernel) rfl, wu_RX0, tyX0_ok, nmX0, Or.inl rfl, (fun h => by cases h), (fun h => by cases h), (fun h => by cases h)⟩
theorem fe_RX7_117 : mFldE RX7 (117, 2, 3, 2) := ⟨RX0, TX0, 5, tyX0, rfl, by decide, mIn 76 (by decide +kernel) rfl, wu_RX0, tyX0_ok, nmX0, Or.inl rfl, (fun h => by cases h), (fun h => by cases h), (fun h => by cases h)⟩
theorem fe_RX7_134 : mFldE RX7 (134, 7, 1, 2) := ⟨RX5, TX5, 7, tyX5, rfl, by decide, mIn 252 (by decide +kernel) rfl, wu_RX5, tyX5_ok, nmX5, Or.inl rfl, (fun h => by cases h), (fun h => by cases h), (fun h => by cases h)⟩
theorem fe_RX7_138 : mFldE RX7 (138, 4, 2, 2) := ⟨RX2, TX2, 12, tyX2, rfl, by decide, mIn 151 (by decide +kernel) rfl, wu_RX2, tyX2_ok, nmX2, Or.inl rfl, (fun h => by cases h), (fun h => by cases h), (fun h => by cases h)⟩
theorem fe_RX7_143 : mFldE RX7 (143, 4, 1, 2) := ⟨RX2, TX2, 12, tyX2, rfl, by decide, mIn 149 (by decide +kernel) rfl, wu_RX2, tyX2_ok, nmX2, Or.inl rfl, (fun h => by cases h), (fun h => by cases h), (fun h => by cases h)⟩
theorem fe_RX7_146 : mFldE RX7 (146, 7, 3, 0) := ⟨RX5, TX5, 7, tyX5, rfl, by decide, mIn 256 (by decide +kernel) rfl, wu_RX5, tyX5_ok, nmX5, Or.inr rfl, fun _ => rfl, (fun h => by cases h), (fun h => by cases h)⟩
theorem fe_RX7_149 : mFldE RX7 (149, 4, 8, 0) := ⟨RX2, TX2, 12, tyX2, rfl, by decide, mIn 165 (by decide +kernel) rfl, wu_RX2, tyX2_ok, nmX2, Or.inr rfl, fun _ => rfl, (fun h => by cases h), (fun h => by cases h)⟩
theorem fe_RX7_155 : mFldE RX7 (155, 4, 7, 0) := ⟨RX2, TX2, 12, tyX2, rfl, by decide, mIn 162 (by decide +kernel) rfl, wu_RX2, tyX2_ok, nmX2, Or.inr rfl, fun _ => rfl, (fun h => by cases h), (fun h => by cases h)⟩
theorem fe_RX7_159 : mFldE RX7 (159, 4, 4, 2) := ⟨RX2, TX2, 12, tyX2, rfl, by decide, mIn 155 (by decide +kernel) rfl, wu_RX2, tyX2_ok, nmX2, Or.inl rfl, (fun h => by cases h), (fun h => by cases h), (fun h => by cases h)⟩
theorem fe_RX7_162 : mFldE RX7 (162, 4, 5, 2) := ⟨RX2, TX2, 12, tyX2, rfl, by decide, mIn 157 (by decide +kernel) rfl, wu_RX2, tyX2_ok, nmX2, Or.inl rfl, (fun h => by cases h), (fun h => by cases h), (fun h => by cases h)⟩
theorem fe_RX7_165 : mFldE RX7 (165, 4, 3, 2) := ⟨RX2, TX2, 12, tyX2, rfl, by decide, mIn 153 (by decide +kernel) rfl, wu_RX2, tyX2_ok, nmX2, Or.inl rfl, (fun h => by cases h), (fun h => by cases h), (fun h => by cases h)⟩
theorem fe_RX7_174 : mFldE RX7 (174, 7, 5, 0) := ⟨RX5, TX5, 7, tyX5, rfl, by decide, mIn 259 (by decide +kernel) rfl, wu_RX5, tyX5_ok, nmX5, Or.inr rfl, fun _ => rfl, (fun h => by cases h), (fun h => by cases h)⟩
theorem fe_RX7_181 : mFldE RX7 (181, 7, 0, 2) := ⟨RX5, TX5, 7, tyX5, rfl, by decide, mIn 250 (by decide +kernel) rfl, wu_RX5, tyX5_ok, nmX5, Or.inl rfl, (fun h => by cases h), (fun h => by cases h), (fun h => by cases h)⟩
theorem fe_RX7_185 : mFldE RX7 (185, 3, 3, 0) := ⟨RX1, TX1, 8, tyX1, rfl, by decide, mIn 112 (by decide +kernel) rfl, wu_RX1, tyX1_ok, nmX1, Or.inr rfl, fun _ => rfl, (fun h => by cases h), (fun h => by cases h)⟩
theorem fe_RX7_193 : mFldE RX7 (193, 7, 2, 2) := ⟨RX5, TX5, 7, tyX5, rfl, by decide, mIn 254 (by decide +kernel) rfl, wu_RX5, tyX5_ok, nmX5, Or.inl rfl, (fun h => by cases h), (fun h => by cases h), (fun h => by cases h)⟩
theorem fe_RX7_197 : mFldE RX7 (197, 5, 1, 1) := ⟨RX3, TX3, 6, tyX3, rfl, by decide, mIn 202 (by decide +kernel) rfl, wu_RX3, tyX3_ok, nmX3, Or.inr rfl, (fun h => by cases h), fun _ => rfl, (fun h => by cases h)⟩
theorem fe_RX7_203 : mFldE RX7 (203, 5, 2, 0) := ⟨RX3, TX3, 6, tyX3, rfl, by decide, mIn 204 (by decide +kernel) rfl, wu_RX3, tyX3_ok, nmX3, Or.inr rfl, fun _ => rfl, (fun h => by cases h), (fun h => by cases h)⟩
theorem fe_RX7_206 : mFldE RX7 (206, 5, 3, 0) := ⟨RX3, TX3, 6, tyX3, rfl, by decide, mIn 206 (by decide +kernel) rfl, wu_RX3, tyX3_ok, nmX3, Or.inr rfl, fun _ => rfl, (fun h => by cases h), (fun h => by cases h)⟩
theorem fe_RX7_207 : mFldE RX7 (207, 5, 4, 0) := ⟨RX3, TX3, 6, tyX3, rfl, by decide, mIn 208 (by decide +kernel) rfl, wu_RX3, tyX3_ok, nmX3, Or.inr rfl, fun _ => rfl, (fun h => by cases h), (fun h => by cases h)⟩
theorem fe_RX7_208 : mFldE RX7 (208, 5, 5, 0) := ⟨RX3, TX3, 6, tyX3, rfl, by decide, mIn 210 (by decide +kernel) rfl, wu_RX3, tyX3_ok, nmX3, Or.inr rfl, fun _ => rfl, (fun h => by cases h), (fun h => by cases h)⟩
theorem fe_RX7_242 : mFldE RX7 (242, 3, 2, 0) := ⟨RX1, TX1, 8, tyX1, rfl, by decide, mIn 108 (by decide +kernel) rfl, wu_RX1, tyX1_ok, nmX1, Or.inr rfl, fun _ => rfl, (fun h => by cases h), (fun h => by cases h)⟩
theorem fe_RX7_253 : mFldE RX7 (253, 6, 2, 0) := ⟨RX4, TX4, 3, tyX4, rfl, by decide, mIn 321 (by decide +kernel) rfl, wu_RX4, tyX4_ok, nmX4, Or.inr rfl, fun _ => rfl, (fun h => by cases h), (fun h => by cases h)⟩
theorem fe_RX7_268 : mFldE RX7 (268, 6, 0, 2) := ⟨RX4, TX4, 3, tyX4, rfl, by decide, mIn 317 (by decide +kernel) rfl, wu_RX4, tyX4_ok, nmX4, Or.inl rfl, (fun h => by cases h), (fun h => by cases h), (fun h => by cases h)⟩
theorem fe_RX7_278 : mFldE RX7 (278, 9, 7, 1) := ⟨RX7, TX7, 8, tyX7, rfl, by decide, mIn 336 (by decide +kernel) rfl, wu_RX7, tyX7_ok, nmX7, Or.inr rfl, (fun h => by cases h), fun _ => rfl, (fun h => by cases h)⟩
theorem fe_RX7_281 : mFldE RX7 (281, 6, 1, 0) := ⟨RX4, TX4, 3, tyX4, rfl, by decide, mIn 319 (by decide +kernel) rfl, wu_RX4, tyX4_ok, nmX4, Or.inr rfl, fun _ => rfl, (fun h => by cases h), (fun h => by cases h)⟩
theorem fe_RX7_352 : mFldE RX7 (352, 4, 6, 2) := ⟨RX2, TX2, 12, tyX2, rfl, by decide, mIn 160 (by decide +kernel) rfl, wu_RX2, tyX2_ok, nmX2, Or.inl rfl, (fun h => by cases h), (fun h => by cases h), (fun h => by cases h)⟩
theorem fe_RX7_378 : mFldE RX7 (378, 3, 7, 0) := ⟨RX1, TX1, 8, tyX1, rfl, by decide, mIn 123 (by decide +kernel) rfl, wu_RX1, tyX1_ok, nmX1, Or.inr rfl, fun _ => rfl, (fun h => by cases h), (fun h => by cases h)⟩
theorem fk_RX7 : ∀ e ∈ fl_RX7, mFldE RX7 e := List.forall_mem_cons.mpr ⟨fe_RX7_10, List.forall_mem_cons.mpr ⟨fe_RX7_19, List.forall_mem_cons.mpr ⟨fe_RX7_23, List.forall_mem_cons.mpr ⟨fe_RX7_29, List.forall_mem_cons.mpr ⟨fe_RX7_33, List.forall_mem_cons.mpr ⟨fe_RX7_38, List.forall_mem_cons.mpr ⟨fe_RX7_45, List.forall_mem_cons.mpr ⟨fe_RX7_54, List.forall_mem_cons.mpr ⟨fe_RX7_65, List.forall_mem_cons.mpr ⟨fe_RX7_68, List.forall_mem_cons.mpr ⟨fe_RX7_71, List.forall_mem_cons.mpr ⟨fe_RX7_78, List.forall_mem_cons.mpr ⟨fe_RX7_96, List.forall_mem_cons.mpr ⟨fe_RX7_103, List.forall_mem_cons.mpr ⟨fe_RX7_111, List.forall_mem_cons.mpr ⟨fe_RX7_114, List.forall_mem_cons.mpr ⟨fe_RX7_117, List.forall_mem_cons.mpr ⟨fe_RX7_134, List.forall_mem_cons.mpr ⟨fe_RX7_138, List.forall_mem_cons.mpr ⟨fe_RX7_143, List.forall_mem_cons.mpr ⟨fe_RX7_146, List.forall_mem_cons.mpr ⟨fe_RX7_149, List.forall_mem_cons.mpr ⟨fe_RX7_155, List.forall_mem_cons.mpr ⟨fe_RX7_159, List.forall_mem_cons.mpr ⟨fe_RX7_162, List.forall_mem_cons.mpr ⟨fe_RX7_165, List.forall_mem_cons.mpr ⟨fe_RX7_174, List.forall_mem_cons.mpr ⟨fe_RX7_181, List.forall_mem_cons.mpr ⟨fe_RX7_185, List.forall_mem_cons.mpr ⟨fe_RX7_193, List.forall_mem_cons.mpr ⟨fe_RX7_197, List.forall_mem_cons.mpr ⟨fe_RX7_203, List.forall_mem_cons.mpr ⟨fe_RX7_206, List.forall_mem_cons.mpr ⟨fe_RX7_207, List.forall_mem_cons.mpr ⟨fe_RX7_208, List.forall_mem_cons.mpr ⟨fe_RX7_242, List.forall_mem_cons.mpr ⟨fe_RX7_253, List.forall_mem_cons.mpr ⟨fe_RX7_268, List.forall_mem_cons.mpr ⟨fe_RX7_278, List.forall_mem_cons.mpr ⟨fe_RX7_281, List.forall_mem_cons.mpr ⟨fe_RX7_352, List.forall_mem_cons.mpr ⟨fe_RX7_378, fun _ h => absurd h List.not_mem_nil⟩⟩⟩⟩⟩⟩⟩⟩⟩⟩⟩⟩⟩⟩⟩⟩⟩⟩⟩⟩⟩⟩⟩⟩⟩⟩⟩⟩⟩⟩⟩⟩⟩⟩⟩⟩⟩⟩⟩⟩⟩⟩
def fl_RX8 : List (Nat × Nat × Nat × Nat) := [(9, 10, 1, 2), (13, 10, 2, 2), (16, 10, 3, 2), (19, 10, 4, 2), (24, 10, 16, 2), (27, 10, 17, 2), (30, 10, 18, 2), (33, 10, 20, 2), (36, 10, 21, 2), (39, 10, 22, 2), (42, 10, 23, 2), (45, 10, 24, 2), (48, 10, 25, 2), (51, 10, 31, 2), (54, 10, 32, 2), (57, 10, 41, 0), (61, 10, 42, 2), (64, 10, 43, 2), (67, 10, 44, 2), (70, 10, 45, 2), (73, 10, 46, 2), (79, 10, 8, 0), (82, 10, 9, 0), (85, 10, 10, 0), (88, 10, 11, 0), (91, 10, 12, 0), (94, 10, 13, 0), (97, 10, 19, 0), (100, 10, 5, 0), (103, 10, 6, 0), (106, 10, 7, 0), (109, 10, 14, 0), (112, 10, 15, 0), (118, 10, 26, 1), (154, 10, 27, 0), (157, 10, 28, 0), (160, 10, 29, 0), (163, 10, 30, 0), (222, 10, 33, 0), (230, 10, 34, 0), (233, 10, 35, 0), (277, 10, 40, 1), (280, 10, 36, 0), (289, 10, 37, 0), (298, 10, 38, 0), (301, 10, 39, 0), (311, 10, 0, 0)]
theorem fe_RX8_9 : mFldE RX8 (9, 10, 1, 2) := ⟨RX8, TX8, 47, tyX8, rfl, by decide, mIn 1035 (by decide +kernel) rfl, wu_RX8, tyX8_ok, nmX8, Or.inl rfl, (fun h => by cases h), (fun h => by cases h), (fun h => by cases h)⟩
theorem fe_RX8_13 : mFldE RX8 (13, 10, 2, 2) := ⟨RX8, TX8, 47, tyX8, rfl, by decide, mIn 1036 (by decide +kernel) rfl, wu_RX8, tyX8_ok, nmX8, Or.inl rfl, (fun h => by cases h), (fun h => by cases h), (fun h => by cases h)⟩
theorem fe_RX8_16 : mFldE RX8 (16, 10, 3, 2) := ⟨RX8, TX8, 47, tyX8, rfl, by decide, mIn 1037 (by decide +kernel) rfl, wu_RX8, tyX8_ok, nmX8, Or.inl rfl, (fun h => by cases h), (fun h => by cases h), (fun h => by cases h)⟩
theorem fe_RX8_19 : mFldE RX8 (19, 10, 4, 2) := ⟨RX8, TX8, 47, tyX8, rfl, by decide, mIn 1038 (by decide +kernel) rfl, wu_RX8, tyX8_ok, nmX8, Or.inl rfl, (fun h => by cases h), (fun h => by cases h), (fun h => by cases h)⟩
theorem fe_RX8_24 : mFldE RX8 (24, 10, 16, 2) := ⟨RX8, TX8, 47, tyX8, rfl, by decide, mIn 1050 (by decide +kernel) rfl, wu_RX8, tyX8_ok, nmX8, Or.inl rfl, (fun h => by cases h), (fun h => by cases h), (fun h => by cases h)⟩
theorem fe_RX8_27 : mFldE RX8 (27, 10, 17, 2) := ⟨RX8, TX8, 47, tyX8, rfl, by decide, mIn 1051 (by decide +kernel) rfl, wu_RX8, tyX8_ok, nmX8, Or.inl rfl, (fun h => by cases h), (fun h => by cases h), (fun h => by cases h)⟩
theorem fe_RX8_30 : mFldE RX8 (30, 10, 18, 2) := ⟨RX8, TX8, 47, tyX8, rfl, by decide, mIn 1052 (by decide +kernel) rfl, wu_RX8, tyX8_ok, nmX8, Or.inl rfl, (fun h => by cases h), (fun h => by cases h), (fun h => by cases h)⟩
theorem fe_RX8_33 : mFldE RX8 (33, 10, 20, 2) := ⟨RX8, TX8, 47, tyX8, rfl, by decide, mIn 1054 (by decide +kernel) rfl, wu_RX8, tyX8_ok, nmX8, Or.inl rfl, (fun h => by cases h), (fun h => by cases h), (fun h => by cases h)⟩
theorem fe_RX8_36 : mFldE RX8 (36, 10, 21, 2) := ⟨RX8, TX8, 47, tyX8, rfl, by decide, mIn 1055 (by decide +kernel) rfl, wu_RX8, tyX8_ok, nmX8, Or.inl rfl, (fun h => by cases h), (fun h => by cases h), (fun h => by cases h)⟩
theorem fe_RX8_39 : mFldE RX8 (39, 10, 22, 2) := ⟨RX8, TX8, 47, tyX8, rfl, by decide, mIn 1056 (by decide +kernel) rfl, wu_RX8, tyX8_ok, nmX8, Or.inl rfl, (fun h => by cases h), (fun h => by cases h), (fun h => by cases h)⟩
theorem fe_RX8_42 : mFldE RX8 (42, 10, 23, 2) := ⟨RX8, TX8, 47, tyX8, rfl, by decide, mIn 1057 (by decide +kernel) rfl, wu_RX8, tyX8_ok, nmX8, Or.inl rfl, (fun h => by cases h), (fun h => by cases h), (fun h => by cases h)⟩
theorem fe_RX8_45 : mFldE RX8 (45, 10, 24, 2) := ⟨RX8, TX8, 47, tyX8, rfl, by decide, mIn 1058 (by decide +kernel) rfl, wu_RX8, tyX8_ok, nmX8, Or.inl rfl, (fun h => by cases h), (fun h => by cases h), (fun h => by cases h)⟩
theorem fe_RX8_48 : mFldE RX8 (48, 10, 25, 2) := ⟨RX8, TX8, 47, tyX8, rfl, by decide, mIn 1059 (by decide +kernel) rfl, wu_RX8, tyX8_ok, nmX8, Or.inl rfl, (fun h => by cases h), (fun h => by cases h), (fun h => by cases h)⟩
theorem fe_RX8_51 : mFldE RX8 (51, 10, 31, 2) := ⟨RX8, TX8, 47, tyX8, rfl, by decide, mIn 1065 (by decide +kernel) rfl, wu_RX8, tyX8_ok, nmX8, Or.inl rfl, (fun h => by cases h), (fun h => by cases h), (fun h => by cases h)⟩
theorem fe_RX8_54 : mFldE RX8 (54, 10, 32, 2) := ⟨RX8, TX8, 47, tyX8, rfl, by decide, mIn 1066 (by decide +kernel) rfl, wu_RX8, tyX8_ok, nmX8, Or.inl rfl, (fun h => by cases h), (fun h => by cases h), (fun h => by cases h)⟩
theorem fe_RX8_57 : mFldE RX8 (57, 10, 41, 0) := ⟨RX8, TX8, 47, tyX8, rfl, by decide, mIn 1075 (by decide +kernel) rfl, wu_RX8, tyX8_ok, nmX8, Or.inr rfl, fun _ => rfl, (fun h => by cases h), (fun h => by cases h)⟩
theorem fe_RX8_61 : mFldE RX8 (61, 10, 42, 2) := ⟨RX8, TX8, 47, tyX8, rfl, by decide, mIn 1076 (by decide +kernel) rfl, wu_RX8, tyX8_ok, nmX8, Or.inl rfl, (fun h => by cases h), (fun h => by cases h), (fun h => by cases h)⟩
theorem fe_RX8_64 : mFldE RX8 (64, 10, 43, 2) := ⟨RX8, TX8, 47, tyX8, rfl, by decide, mIn 1077 (by decide +kernel) rfl, wu_RX8, tyX8_ok, nmX8, Or.inl rfl, (fun h => by cases h), (fun h => by cases h), (fun h => by cases h)⟩
theorem fe_RX8_67 : mFldE RX8 (67, 10, 44, 2) := ⟨RX8, TX8, 47, tyX8, rfl, by decide, mIn 1078 (by decide +kernel) rfl, wu_RX8, tyX8_ok, nmX8, Or.inl rfl, (fun h => by cases h), (fun h => by cases h), (fun h => by cases h)⟩
theorem fe_RX8_70 : mFldE RX8 (70, 10, 45, 2) := ⟨RX8, TX8, 47, tyX8, rfl, by decide, mIn 1079 (by decide +kernel) rfl, wu_RX8, tyX8_ok, nmX8, Or.inl rfl, (fun h => by cases h), (fun h => by cases h), (fun h => by cases h)⟩
theorem fe_RX8_73 : mFldE RX8 (73, 10, 46, 2) := ⟨RX8, TX8, 47, tyX8, rfl, by decide, mIn 1080 (by decide +kernel) rfl, wu_RX8, tyX8_ok, nmX8, Or.inl rfl, (fun h => by cases h), (fun h => by cases h), (fun h => by cases h)⟩
theorem fe_RX8_79 : mFldE RX8 (79, 10, 8, 0) := ⟨RX8, TX8, 47, tyX8, rfl, by decide, mIn 1042 (by decide +kernel) rfl, wu_RX8, tyX8_ok, nmX8, Or.inr rfl, fun _ => rfl, (fun h => by cases h), (fun h => by cases h)⟩
theorem fe_RX8_82 : mFldE RX8 (82, 10, 9, 0) := ⟨RX8, TX8, 47, tyX8, rfl, by decide, mIn 1043 (by decide +kernel) rfl, wu_RX8, tyX8_ok, nmX8, Or.inr rfl, fun _ => rfl, (fun h => by cases h), (fun h => by cases h)⟩
theorem fe_RX8_85 : mFldE RX8 (85, 10, 10, 0) := ⟨RX8, TX8, 47, tyX8, rfl, by decide, mIn 1044 (by decide +kernel) rfl, wu_RX8, tyX8_ok, nmX8, Or.inr rfl, fun _ => rfl, (fun h => by cases h), (fun h => by cases h)⟩
theorem fe_RX8_88 : mFldE RX8 (88, 10, 11, 0) := ⟨RX8, TX8, 47, tyX8, rfl, by decide, mIn 1045 (by decide +kernel) rfl, wu_RX8, tyX8_ok, nmX8, Or.inr rfl, fun _ => rfl, (fun h => by cases h), (fun h => by cases h)⟩
theorem fe_RX8_91 : mFldE RX8 (91, 10, 12, 0) := ⟨RX8, TX8, 47, tyX8, rfl, by decide, mIn 1046 (by decide +kernel) rfl, wu_RX8, tyX8_ok, nmX8, Or.inr rfl, fun _ => rfl, (fun h => by cases h), (fun h => by cases h)⟩
theorem fe_RX8_94 : mFldE RX8 (94, 10, 13, 0) := ⟨RX8, TX8, 47, tyX8, rfl, by decide, mIn 1047 (by decide +kernel) rfl, wu_RX8, tyX8_ok, nmX8, Or.inr rfl, fun _ => rfl, (fun h => by cases h), (fun h => by cases h)⟩
theorem fe_RX8_97 : mFldE RX8 (97, 10, 19, 0) := ⟨RX8, TX8, 47, tyX8, rfl, by decide, mIn 1053 (by decide +kernel) rfl, wu_RX8, tyX8_ok, nmX8, Or.inr rfl, fun _ => rfl, (fun h => by cases h), (fun h => by cases h)⟩
theorem fe_RX8_100 : mFldE RX8 (100, 10, 5, 0) := ⟨RX8, TX8, 47, tyX8, rfl, by decide, mIn 1039 (by decide +kernel) rfl, wu_RX8, tyX8_ok, nmX8, Or.inr rfl, fun _ => rfl, (fun h => by cases h), (fun h => by cases h)⟩
theorem fe_RX8_103 : mFldE RX8 (103, 10, 6, 0) := ⟨RX8, TX8, 47, tyX8, rfl, by decide, mIn 1040 (by decide +kernel) rfl, wu_RX8, tyX8_ok, nmX8, Or.inr rfl, fun _ => rfl, (fun h => by cases h), (fun h => by cases h)⟩
theorem fe_RX8_106 : mFldE RX8 (106, 10, 7, 0) := ⟨RX8, TX8, 47, tyX8, rfl, by decide, mIn 1041 (by decide +kernel) rfl, wu_RX8, tyX8_ok, nmX8, Or.inr rfl, fun _ => rfl, (fun h => by cases h), (fun h => by cases h)⟩
theorem fe_RX8_109 : mFldE RX8 (109, 10, 14, 0) := ⟨RX8, TX8, 47, tyX8, rfl, by decide, mIn 1048 (by decide +kernel) rfl, wu_RX8, tyX8_ok, nmX8, Or.inr rfl, fun _ => rfl, (fun h => by cases h), (fun h => by cases h)⟩
theorem fe_RX8_112 : mFldE RX8 (112, 10, 15, 0) := ⟨RX8, TX8, 47, tyX8, rfl, by decide, mIn 1049 (by decide +kernel) rfl, wu_RX8, tyX8_ok, nmX8, Or.inr rfl, fun _ => rfl, (fun h => by cases h), (fun h => by cases h)⟩
theorem fe_RX8_118 : mFldE RX8 (118, 10, 26, 1) := ⟨RX8, TX8, 47, tyX8, rfl, by decide, mIn 1060 (by decide +kernel) rfl, wu_RX8, tyX8_ok, nmX8, Or.inr rfl, (fun h => by cases h), fun _ => rfl, (fun h => by cases h)⟩
theorem fe_RX8_154 : mFldE RX8 (154, 10, 27, 0) := ⟨RX8, TX8, 47, tyX8, rfl, by decide, mIn 1061 (by decide +kernel) rfl, wu_RX8, tyX8_ok, nmX8, Or.inr rfl, fun _ => rfl, (fun h => by cases h), (fun h => by cases h)⟩
theorem fe_RX8_157 : mFldE RX8 (157, 10, 28, 0) := ⟨RX8, TX8, 47, tyX8, rfl, by decide, mIn 1062 (by decide +kernel) rfl, wu_RX8, tyX8_ok, nmX8, Or.inr rfl, fun _ => rfl, (fun h => by cases h), (fun h => by cases h)⟩
theorem fe_RX8_160 : mFldE RX8 (160, 10, 29, 0) := ⟨RX8, TX8, 47, tyX8, rfl, by decide, mIn 1063 (by decide +kernel) rfl, wu_RX8, tyX8_ok, nmX8, Or.inr rfl, fun _ => rfl, (fun h => by cases h), (fun h => by cases h)⟩
theorem fe_RX8_163 : mFldE RX8 (163, 10, 30, 0) := ⟨RX8, TX8, 47, tyX8, rfl, by decide, mIn 1064 (by decide +kernel) rfl, wu_RX8, tyX8_ok, nmX8, Or.inr rfl, fun _ => rfl, (fun h => by cases h), (fun h => by cases h)⟩
theorem fe_RX8_222 : mFldE RX8 (222, 10, 33, 0) := ⟨RX8, TX8, 47, tyX8, rfl, by decide, mIn 1067 (by decide +kernel) rfl, wu_RX8, tyX8_ok, nmX8, Or.inr rfl, fun _ => rfl, (fun h => by cases h), (fun h => by cases h)⟩
theorem fe_RX8_230 : mFldE RX8 (230, 10, 34, 0) := ⟨RX8, TX8, 47, tyX8, rfl, by decide, mIn 1068 (by decide +kernel) rfl, wu_RX8, tyX8_ok, nmX8, Or.inr rfl, fun _ => rfl, (fun h => by cases h), (fun h => by cases h)⟩
theorem fe_RX8_233 : mFldE RX8 (233, 10, 35, 0) := ⟨RX8, TX8, 47, tyX8, rfl, by decide, mIn 1069 (by decide +kernel) rfl, wu_RX8, tyX8_ok, nmX8, Or.inr rfl, fun _ => rfl, (fun h => by cases h), (fun h => by cases h)⟩
theorem fe_RX8_277 : mFldE RX8 (277, 10, 40, 1) := ⟨RX8, TX8, 47, tyX8, rfl, by decide, mIn 1074 (by decide +kernel) rfl, wu_RX8, tyX8_ok, nmX8, Or.inr rfl, (fun h => by cases h), fun _ => rfl, (fun h => by cases h)⟩
theorem fe_RX8_280 : mFldE RX8 (280, 10, 36, 0) := ⟨RX8, TX8, 47, tyX8, rfl, by decide, mIn 1070 (by decide +kernel) rfl, wu_RX8, tyX8_ok, nmX8, Or.inr rfl, fun _ => rfl, (fun h => by cases h), (fun h => by cases h)⟩
theorem fe_RX8_289 : mFldE RX8 (289, 10, 37, 0) := ⟨RX8, TX8, 47, tyX8, rfl, by decide, mIn 1071 (by decide +kernel) rfl, wu_RX8, tyX8_ok, nmX8, Or.inr rfl, fun _ => rfl, (fun h => by cases h), (fun h => by cases h)⟩
theorem fe_RX8_298 : mFldE RX8 (298, 10, 38, 0) := ⟨RX8, TX8, 47, tyX8, rfl, by decide, mIn 1072 (by decide +kernel) rfl, wu_RX8, tyX8_ok, nmX8, Or.inr rfl, fun _ => rfl, (fun h => by cases h), (fun h => by cases h)⟩
theorem fe_RX8_301 : mFldE RX8 (301, 10, 39, 0) := ⟨RX8, TX8, 47, tyX8, rfl, by decide, mIn 1073 (by decide +kernel) rfl, wu_RX8, tyX8_ok, nmX8, Or.inr rfl, fun _ => rfl, (fun h => by cases h), (fun h => by cases h)⟩
theorem fe_RX8_311 : mFldE RX8 (311, 10, 0, 0) := ⟨RX8, TX8, 47, tyX8, rfl, by decide, mIn 1034 (by decide +kernel) rfl, wu_RX8, tyX8_ok, nmX8, Or.inr rfl, fun _ => rfl, (fun h => by cases h), (fun h => by cases h)⟩
theorem fk_RX8 : ∀ e ∈ fl_RX8, mFldE RX8 e := List.forall_mem_cons.mpr ⟨fe_RX8_9, List.forall_mem_cons.mpr ⟨fe_RX8_13, List.forall_mem_cons.mpr ⟨fe_RX8_16, List.forall_mem_cons.mpr ⟨fe_RX8_19, List.forall_mem_cons.mpr ⟨fe_RX8_24, List.forall_mem_cons.mpr ⟨fe_RX8_27, List.forall_mem_cons.mpr ⟨fe_RX8_30, List.forall_mem_cons.mpr ⟨fe_RX8_33, List.forall_mem_cons.mpr ⟨fe_RX8_36, List.forall_mem_cons.mpr ⟨fe_RX8_39, List.forall_mem_cons.mpr ⟨fe_RX8_42, List.forall_mem_cons.mpr ⟨fe_RX8_45, List.forall_mem_cons.mpr ⟨fe_RX8_48, List.forall_mem_cons.mpr ⟨fe_RX8_51, List.forall_mem_cons.mpr ⟨fe_RX8_54, List.forall_mem_cons.mpr ⟨fe_RX8_57, List.forall_mem_cons.mpr ⟨fe_RX8_61, List.forall_mem_cons.mpr ⟨fe_RX8_64, List.forall_mem_cons.mpr ⟨fe_RX8_67, List.forall_mem_cons.mpr ⟨fe_RX8_70, List.forall_mem_cons.mpr ⟨fe_RX8_73, List.forall_mem_cons.mpr ⟨fe_RX8_79, List.forall_mem_cons.mpr ⟨fe_RX8_82, List.forall_mem_cons.mpr ⟨fe_RX8_85, List.forall_mem_cons.mpr ⟨fe_RX8_88, List.forall_mem_cons.mpr ⟨fe_RX8_91, List.forall_mem_cons.mpr ⟨fe_RX8_94, List.forall_mem_cons.mpr ⟨fe_RX8_97, List.forall_mem_cons.mpr ⟨fe_RX8_100, List.forall_mem_cons.mpr ⟨fe_RX8_103, List.forall_mem_cons.mpr ⟨fe_RX8_106, List.forall_mem_cons.mpr ⟨fe_RX8_109, List.forall_mem_cons.mpr ⟨fe_RX8_112, List.forall_mem_cons.mpr ⟨fe_RX8_118, List.forall_mem_cons.mpr ⟨fe_RX8_154, List.forall_mem_cons.mpr ⟨fe_RX8_157, List.forall_mem_cons.mpr ⟨fe_RX8_160, List.forall_mem_cons.mpr ⟨fe_RX8_163, List.forall_mem_cons.mpr ⟨fe_RX8_222, List.forall_mem_cons.mpr ⟨fe_RX8_230, List.forall_mem_cons.mpr ⟨fe_RX8_233, List.forall_mem_cons.mpr ⟨fe_RX8_277, List.forall_mem_cons.mpr ⟨fe_RX8_280, List.forall_mem_cons.mpr ⟨fe_RX8_289, List.forall_mem_cons.mpr ⟨fe_RX8_298, List.forall_mem_cons.mpr ⟨fe_RX8_301, List.forall_mem_cons.mpr ⟨fe_RX8_311, fun _ h => absurd h List.not_mem_nil⟩⟩⟩⟩⟩⟩⟩⟩⟩⟩⟩⟩⟩⟩⟩⟩⟩⟩⟩⟩⟩⟩⟩⟩⟩⟩⟩⟩⟩⟩⟩⟩⟩⟩⟩⟩⟩⟩⟩⟩⟩⟩⟩⟩⟩⟩⟩
def fl_RJ5 : List (Nat × Nat × Nat × Nat) := [(15, 1, 0, 2), (22, 1, 1, 3), (73, 1, 2, 1), (79, 1, 3, 0)]
theorem fe_RJ5_15 : mFldE RJ5 (15, 1, 0, 2) := ⟨RJ4, TJ4, 4, tyJ4, rfl, by decide, mIn 296 (by decide +kernel) rfl, wu_RJ4, tyJ4_ok, nmJ4, Or.inl rfl, (fun h => by cases h), (fun h => by cases h), (fun h => by cases h)⟩
theorem fe_RJ5_22 : mFldE RJ5 (22, 1, 1, 3) := ⟨RJ4, TJ4, 4, tyJ4, rfl, by decide, mIn 297 (by decide +kernel) rfl, wu_RJ4, tyJ4_ok, nmJ4, Or.inr rfl, (fun h => by cases h), (fun h => by cases h), fun _ => rfl⟩
theorem fe_RJ5_73 : mFldE RJ5 (73, 1, 2, 1) := ⟨RJ4, TJ4, 4, tyJ4, rfl, by decide, mIn 298 (by decide +kernel) rfl, wu_RJ4, tyJ4_ok, nmJ4, Or.inr rfl, (fun h => by cases h), fun _ => rfl, (fun h => by cases h)⟩
theorem fe_RJ5_79 : mFldE RJ5 (79, 1, 3, 0) := ⟨RJ4, TJ4, 4, tyJ4, rfl, by decide, mIn 300 (by decide +kernel) rfl, wu_RJ4, tyJ4_ok, nmJ4, Or.inr rfl, fun _ => rfl, (fun h => by cases h), (fun h => by cases h)⟩
theorem fk_RJ5 : ∀ e ∈ fl_RJ5, mFldE RJ5 e := List.forall_mem_cons.mpr ⟨fe_RJ5_15, List.forall_mem_cons.mpr ⟨fe_RJ5_22, List.forall_mem_cons.mpr ⟨fe_RJ5_73, List.forall_mem_cons.mpr ⟨fe_RJ5_79, fun _ h => absurd h List.not_mem_nil⟩⟩⟩⟩
def fl_RJ0 : List (Nat × Nat × Nat × Nat) := [(9, 0, 0, 2), (15, 0, 1, 2), (1048, 1, 2, 1)]
theorem fe_RJ0_9 : mFldE RJ0 (9, 0, 0, 2) := ⟨RJ0, TJ0, 4, tyJ0, rfl, by decide, mIn 1407 (by decide +kernel) rfl, wu_RJ0, tyJ0_ok, nmJ0, Or.inl rfl, (fun h => by cases h), (fun h => by cases h), (fun h => by cases h)⟩
theorem fe_RJ0_15 : mFldE RJ0 (15, 0, 1, 2) := ⟨RJ0, TJ0, 4, tyJ0, rfl, by decide, mIn 1408 (by decide +kernel) rfl, wu_RJ0, tyJ0_ok, nmJ0, Or.inl rfl, (fun h => by cases h), (fun h => by cases h), (fun h => by cases h)⟩
theorem fe_RJ0_1048 : mFldE RJ0 (1048, 1, 2, 1) := ⟨RJ4, TJ4, 4, tyJ4, rfl, by decide, mIn 299 (by decide +kernel) rfl, wu_RJ4, tyJ4_ok, nmJ4, Or.inr rfl, (fun h => by cases h), fun _ => rfl, (fun h => by cases h)⟩
theorem fk_RJ0 : ∀ e ∈ fl_RJ0, mFldE RJ0 e := List.forall_mem_cons.mpr ⟨fe_RJ0_9, List.forall_mem_cons.mpr ⟨fe_RJ0_15, List.forall_mem_cons.mpr ⟨fe_RJ0_1048, fun _ h => absurd h List.not_mem_nil⟩⟩⟩
end
section
/-! ===== THE SMALL MACHINE: values, cells by number, and what an instruction asks (weakest preconditions) ===== -/
abbrev mV : Type := Int32 ⊕ Option Nat
abbrev mM : Type := Nat → Nat → Int32
abbrev mL : Type := List (Option mV)
abbrev mS : Type := Nat × mL × List mV × mM
/-- shape of a cell: kind (0 int[], 1 int[][], 2 Sheet[], 3 byte[], 5 + c an object of class c of vwCl), length, references -/
abbrev mH : Type := Nat × Nat × List (Option Nat)
abbrev mP : Type := Option mV → mM → Prop
abbrev mT : Type := List mV → mM → mP → Prop
/-- an instruction: as decoded, its length, a number (local, target), a constant, a switch's targets -/
abbrev mI : Type := Instr × Nat × Nat × Int32 × List (Int32 × Nat)
/-- a method: code, fields by pool index (class, field, 0 int | 1 boolean | 3 byte | 2 no put), calls by 3 * index + kind (how many are popped, what it asks), constants, statics, return type -/
abbrev mF : Type := (Nat → Option mI) × (Nat → Option (Nat × Nat × Nat)) × (Nat → Option (Nat × mT)) × (Nat → Option mV) × (Nat → Option mV) × Option FieldType
/-! constants that are read and never written: Strings at 1000 .. 1016, their bytes at 1100 .. 1116, Integer's digits at 1200, 1201 -/
def mRoB : List (List Int32) := [[100, 101, 97, 108], [98, 105, 100], [112, 97, 115, 115], [100, 111, 117, 98, 108, 101], [114, 101, 100, 111, 117, 98, 108, 101], [112, 108, 97, 121], [99, 108, 97, 105, 109], [114, 97, 110, 107], [114, 117, 108, 101], [], [99], [100], [104], [115], [110], [99, 100, 104, 115, 110], [32]]
def mDigT : List Int32 := [48, 48, 48, 48, 48, 48, 48, 48, 48, 48, 49, 49, 49, 49, 49, 49, 49, 49, 49, 49, 50, 50, 50, 50, 50, 50, 50, 50, 50, 50, 51, 51, 51, 51, 51, 51, 51, 51, 51, 51, 52, 52, 52, 52, 52, 52, 52, 52, 52, 52, 53, 53, 53, 53, 53, 53, 53, 53, 53, 53, 54, 54, 54, 54, 54, 54, 54, 54, 54, 54, 55, 55, 55, 55, 55, 55, 55, 55, 55, 55, 56, 56, 56, 56, 56, 56, 56, 56, 56, 56, 57, 57, 57, 57, 57, 57, 57, 57, 57, 57]
def mDigO : List Int32 := [48, 49, 50, 51, 52, 53, 54, 55, 56, 57, 48, 49, 50, 51, 52, 53, 54, 55, 56, 57, 48, 49, 50, 51, 52, 53, 54, 55, 56, 57, 48, 49, 50, 51, 52, 53, 54, 55, 56, 57, 48, 49, 50, 51, 52, 53, 54, 55, 56, 57, 48, 49, 50, 51, 52, 53, 54, 55, 56, 57, 48, 49, 50, 51, 52, 53, 54, 55, 56, 57, 48, 49, 50, 51, 52, 53, 54, 55, 56, 57, 48, 49, 50, 51, 52, 53, 54, 55, 56, 57, 48, 49, 50, 51, 52, 53, 54, 55, 56, 57]
def mRoS (a : Nat) : Bool := Nat.ble 1000 a && Nat.blt a 1017
def mRoA (a : Nat) : Option (List Int32) := match Nat.ble 1100 a && Nat.blt a 1117 with
  | true => mRoB[a - 1100]?
  | false => match Nat.beq a 1200 with
    | true => some mDigT
    | false => match Nat.beq a 1201 with
      | true => some mDigO
      | false => none
def mval (ad : Nat → Nat) (v : mV) : Value := match v with
  | .inl x => .int x
  | .inr r => va_rf (r.map ad)
def mUp (M : mM) (c : Nat) (g : Nat → Int32) : mM := fun c' => if c' = c then g else M c'
def mW1 (M : mM) (c k : Nat) (x : Int32) : mM := mUp M c (upd (M c) k x)
def mRes (r : Option mV) (S : List mV) : List mV := match r with
  | none => S
  | some v => v :: S
def mBin (X : mS → Prop) (f : Int32 → Int32 → Int32) (n pc : Nat) (L : mL) (S : List mV) (M : mM) : Prop := match S with
  | .inl y :: .inl x :: r => X (pc + n, L, .inl (f x y) :: r, M)
  | _ => False
def mDiv (X : mS → Prop) (f : Int32 → Int32 → Int32) (n pc : Nat) (L : mL) (S : List mV) (M : mM) : Prop := match S with
  | .inl y :: .inl x :: r => ¬ y = 0 ∧ X (pc + n, L, .inl (f x y) :: r, M)
  | _ => False
def mUn (X : mS → Prop) (f : Int32 → Int32) (n pc : Nat) (L : mL) (S : List mV) (M : mM) : Prop := match S with
  | .inl x :: r => X (pc + n, L, .inl (f x) :: r, M)
  | _ => False
def mIf1 (X : mS → Prop) (c : Int32 → Prop) (n t pc : Nat) (L : mL) (S : List mV) (M : mM) : Prop := match S with
  | .inl x :: r => (c x → X (t, L, r, M)) ∧ (¬ c x → X (pc + n, L, r, M))
  | _ => False
def mIf2 (X : mS → Prop) (c : Int32 → Int32 → Prop) (n t pc : Nat) (L : mL) (S : List mV) (M : mM) : Prop := match S with
  | .inl y :: .inl x :: r => (c x y → X (t, L, r, M)) ∧ (¬ c x y → X (pc + n, L, r, M))
  | _ => False
def mLd (X : mS → Prop) (i n pc : Nat) (L : mL) (S : List mV) (M : mM) : Prop := match L[i]? with
  | some (some (.inl x)) => X (pc + n, L, .inl x :: S, M)
  | _ => False
def mLa (X : mS → Prop) (i n pc : Nat) (L : mL) (S : List mV) (M : mM) : Prop := match L[i]? with
  | some (some (.inr x)) => X (pc + n, L, .inr x :: S, M)
  | _ => False
def mSt (X : mS → Prop) (i n pc : Nat) (L : mL) (S : List mV) (M : mM) : Prop := match S with
  | .inl x :: r => match Nat.blt i L.length with
    | true => X (pc + n, L.set i (some (.inl x)), r, M)
    | false => False
  | _ => False
def mSa (X : mS → Prop) (i n pc : Nat) (L : mL) (S : List mV) (M : mM) : Prop := match S with
  | .inr x :: r => match Nat.blt i L.length with
    | true => X (pc + n, L.set i (some (.inr x)), r, M)
    | false => False
  | _ => False
def mSw (X : mS → Prop) (x : Int32) (d : Nat) (L : mL) (S : List mV) (M : mM) : List (Int32 × Nat) → Prop
  | [] => X (d, L, S, M)
  | q :: tl => (x = q.1 → X (q.2, L, S, M)) ∧ (¬ x = q.1 → mSw X x d L S M tl)
def mGet (SH : List mH) (F : mF) (X : mS → Prop) (idx pc : Nat) (L : mL) (S : List mV) (M : mM) : Prop := match S with
  | .inr (some a) :: r => match mRoS a with
    | true => match F.2.1 idx with
      | some q => match q.1, q.2.1 with
        | 0, 0 => X (pc + 3, L, .inr (some (a + 100)) :: r, M)
        | 0, 1 => X (pc + 3, L, .inl 0 :: r, M)
        | _, _ => False
      | none => False
    | false => match SH[a]?, F.2.1 idx with
      | some h, some q => match Nat.beq h.1 (q.1 + 5), h.2.2[q.2.1]? with
        | true, some none => X (pc + 3, L, .inl (M a q.2.1) :: r, M)
        | true, some (some c) => X (pc + 3, L, .inr (some c) :: r, M)
        | _, _ => False
      | _, _ => False
  | _ => False
def mPut (SH : List mH) (F : mF) (X : mS → Prop) (idx pc : Nat) (L : mL) (S : List mV) (M : mM) : Prop := match S with
  | .inl v :: .inr (some a) :: r => match SH[a]?, F.2.1 idx with
    | some h, some q => match Nat.beq h.1 (q.1 + 5), h.2.2[q.2.1]? with
      | true, some none => match q.2.2 with
        | 0 => X (pc + 3, L, r, mW1 M a q.2.1 v)
        | 1 => (v = 0 ∨ v = 1) ∧ X (pc + 3, L, r, mW1 M a q.2.1 v)
        | 3 => v.toInt8.toInt32 = v ∧ X (pc + 3, L, r, mW1 M a q.2.1 v)
        | _ => False
      | _, _ => False
    | _, _ => False
  | _ => False
def mArr (SH : List mH) (X : mS → Prop) (kd pc : Nat) (L : mL) (S : List mV) (M : mM) : Prop := match S with
  | .inl i :: .inr (some a) :: r => match SH[a]? with
    | some h => match Nat.beq h.1 kd with
      | true => vp_in i h.2.1 ∧ X (pc + 1, L, .inl (M a i.toNatClampNeg) :: r, M)
      | false => False
    | none => False
  | _ => False
def mBal (SH : List mH) (X : mS → Prop) (pc : Nat) (L : mL) (S : List mV) (M : mM) : Prop := match S with
  | .inl i :: .inr (some a) :: r => match mRoA a with
    | some l => vp_in i l.length ∧ X (pc + 1, L, .inl (l.getD i.toNatClampNeg 0) :: r, M)
    | none => match SH[a]? with
      | some h => match Nat.beq h.1 3 with
        | true => vp_in i h.2.1 ∧ X (pc + 1, L, .inl (M a i.toNatClampNeg) :: r, M)
        | false => False
      | none => False
  | _ => False
def mArs (SH : List mH) (X : mS → Prop) (kd : Nat) (f : Int32 → Int32) (pc : Nat) (L : mL) (S : List mV) (M : mM) : Prop := match S with
  | .inl x :: .inl i :: .inr (some a) :: r => match SH[a]? with
    | some h => match Nat.beq h.1 kd with
      | true => vp_in i h.2.1 ∧ X (pc + 1, L, r, mW1 M a i.toNatClampNeg (f x))
      | false => False
    | none => False
  | _ => False
def mArq (SH : List mH) (X : mS → Prop) (pc : Nat) (L : mL) (S : List mV) (M : mM) : Prop := match S with
  | .inl i :: .inr (some a) :: r => match SH[a]? with
    | some h => match h.1 with
      | 1 => vp_in i h.2.1 ∧ X (pc + 1, L, .inr ((h.2.2[i.toNatClampNeg]?).getD none) :: r, M)
      | 2 => vp_in i h.2.1 ∧ X (pc + 1, L, .inr ((h.2.2[i.toNatClampNeg]?).getD none) :: r, M)
      | _ => False
    | none => False
  | _ => False
def mLen (SH : List mH) (X : mS → Prop) (pc : Nat) (L : mL) (S : List mV) (M : mM) : Prop := match S with
  | .inr (some a) :: r => match mRoA a with
    | some l => X (pc + 1, L, .inl (nI l.length) :: r, M)
    | none => match SH[a]? with
      | some h => match Nat.blt h.1 4 with
        | true => X (pc + 1, L, .inl (nI h.2.1) :: r, M)
        | false => False
      | none => False
  | _ => False
/-! the same, of a cell whose number is an expression: what stands there is asked -/
def mArrX (SH : List mH) (X : mS → Prop) (pc : Nat) (L : mL) (S : List mV) (M : mM) : Prop := match S with
  | .inl i :: .inr (some a) :: r => ∃ (n : Nat) (rs : List (Option Nat)), SH[a]? = some (0, n, rs) ∧ vp_in i n ∧ X (pc + 1, L, .inl (M a i.toNatClampNeg) :: r, M)
  | _ => False
def mArsX (SH : List mH) (X : mS → Prop) (pc : Nat) (L : mL) (S : List mV) (M : mM) : Prop := match S with
  | .inl x :: .inl i :: .inr (some a) :: r => ∃ (n : Nat) (rs : List (Option Nat)), SH[a]? = some (0, n, rs) ∧ vp_in i n ∧ X (pc + 1, L, r, mW1 M a i.toNatClampNeg x)
  | _ => False
def mArqX (SH : List mH) (X : mS → Prop) (pc : Nat) (L : mL) (S : List mV) (M : mM) : Prop := match S with
  | .inl i :: .inr (some a) :: r => ∃ (n k c : Nat) (rs : List (Option Nat)), SH[a]? = some (1, n, rs) ∧ i = nI k ∧ k < n ∧ n < 2 ^ 31 ∧ rs[k]? = some (some c) ∧ X (pc + 1, L, .inr (some c) :: r, M)
  | _ => False
def mLenX (SH : List mH) (X : mS → Prop) (pc : Nat) (L : mL) (S : List mV) (M : mM) : Prop := match S with
  | .inr (some a) :: r => ∃ (n : Nat) (rs : List (Option Nat)), mRoA a = none ∧ SH[a]? = some (0, n, rs) ∧ X (pc + 1, L, .inl (nI n) :: r, M)
  | _ => False
def mNul (X : mS → Prop) (yes no : Nat) (L : mL) (S : List mV) (M : mM) : Prop := match S with
  | .inr none :: r => X (yes, L, r, M)
  | .inr (some _) :: r => X (no, L, r, M)
  | _ => False
def mCal (F : mF) (X : mS → Prop) (idx pc : Nat) (L : mL) (S : List mV) (M : mM) : Prop := match F.2.2.1 idx with
  | some q => match Nat.ble q.1 S.length && Nat.ble S.length (q.1 + 8) with
    | true => q.2 ((S.take q.1).reverse) M (fun r M' => X (pc + 3, L, mRes r (S.drop q.1), M'))
    | false => False
  | none => False
def mEnd (ret : Option FieldType) (P : mP) (S : List mV) (M : mM) : Prop := match S with
  | [.inl v] => match ret with
    | some .int => P (some (.inl v)) M
    | some .boolean => (v = 0 ∨ v = 1) ∧ P (some (.inl v)) M
    | some .char => (v.toUInt32 % 65536).toInt32 = v ∧ P (some (.inl v)) M
    | some .byte => v.toInt8.toInt32 = v ∧ P (some (.inl v)) M
    | _ => False
  | _ => False
def mEndA (ret : Option FieldType) (P : mP) (S : List mV) (M : mM) : Prop := match S with
  | [.inr r] => match ret with
    | some (.object _) => P (some (.inr r)) M
    | some (.array _) => P (some (.inr r)) M
    | _ => False
  | _ => False
def mEndV (ret : Option FieldType) (P : mP) (S : List mV) (M : mM) : Prop := match S with
  | [] => match ret with
    | none => P none M
    | _ => False
  | _ => False
def mOp (SH : List mH) (F : mF) (P : mP) (X : mS → Prop) (e : mI) (pc : Nat) (L : mL) (S : List mV) (M : mM) : Prop := match e.1 with
  | .iconst _ => X (pc + 1, L, .inl e.2.2.2.1 :: S, M)
  | .bipush _ => X (pc + 2, L, .inl e.2.2.2.1 :: S, M)
  | .sipush _ => X (pc + 3, L, .inl e.2.2.2.1 :: S, M)
  | .ldc idx => match F.2.2.2.1 idx with
    | some v => X (pc + 2, L, v :: S, M)
    | none => False
  | .ldc_w idx => match F.2.2.2.1 idx with
    | some v => X (pc + 3, L, v :: S, M)
    | none => False
  | .getstatic idx => match F.2.2.2.2.1 idx with
    | some v => X (pc + 3, L, v :: S, M)
    | none => False
  | .aconst_null => X (pc + 1, L, .inr none :: S, M)
  | .iload_n _ => mLd X e.2.2.1 1 pc L S M
  | .iload _ => mLd X e.2.2.1 2 pc L S M
  | .aload_n _ => mLa X e.2.2.1 1 pc L S M
  | .aload _ => mLa X e.2.2.1 2 pc L S M
  | .istore_n _ => mSt X e.2.2.1 1 pc L S M
  | .istore _ => mSt X e.2.2.1 2 pc L S M
  | .astore_n _ => mSa X e.2.2.1 1 pc L S M
  | .astore _ => mSa X e.2.2.1 2 pc L S M
  | .iinc _ _ => match L[e.2.2.1]? with
    | some (some (.inl x)) => X (pc + 3, L.set e.2.2.1 (some (.inl (x + e.2.2.2.1))), S, M)
    | _ => False
  | .iadd => mBin X (fun x y => x + y) 1 pc L S M
  | .isub => mBin X (fun x y => x - y) 1 pc L S M
  | .imul => mBin X (fun x y => x * y) 1 pc L S M
  | .idiv => mDiv X (fun x y => x / y) 1 pc L S M
  | .irem => mDiv X (fun x y => x - x / y * y) 1 pc L S M
  | .ineg => mUn X (fun x => -x) 1 pc L S M
  | .ishl => mBin X (fun x y => x <<< (y &&& 31)) 1 pc L S M
  | .ishr => mBin X (fun x y => x >>> (y &&& 31)) 1 pc L S M
  | .iushr => mBin X (fun x y => (x.toUInt32 >>> (y.toUInt32 &&& Int32.toUInt32 31)).toInt32) 1 pc L S M
  | .iand => mBin X (fun x y => x &&& y) 1 pc L S M
  | .ior => mBin X (fun x y => x ||| y) 1 pc L S M
  | .ixor => mBin X (fun x y => x ^^^ y) 1 pc L S M
  | .i2b => mUn X (fun x => x.toInt8.toInt32) 1 pc L S M
  | .i2c => mUn X (fun x => (x.toUInt32 % 65536).toInt32) 1 pc L S M
  | .dup => match S with
    | v :: r => X (pc + 1, L, v :: v :: r, M)
    | _ => False
  | .pop => match S with
    | _ :: r => X (pc + 1, L, r, M)
    | _ => False
  | .dup_x1 => match S with
    | v :: w :: r => X (pc + 1, L, v :: w :: v :: r, M)
    | _ => False
  | .dup2 => match S with
    | v :: w :: r => X (pc + 1, L, v :: w :: v :: w :: r, M)
    | _ => False
  | .getfield idx => mGet SH F X idx pc L S M
  | .putfield idx => mPut SH F X idx pc L S M
  | .iaload => match e.2.2.1 with
    | 0 => mArr SH X 0 pc L S M
    | _ => mArrX SH X pc L S M
  | .baload => mBal SH X pc L S M
  | .iastore => match e.2.2.1 with
    | 0 => mArs SH X 0 (fun x => x) pc L S M
    | _ => mArsX SH X pc L S M
  | .bastore => mArs SH X 3 (fun x => x.toInt8.toInt32) pc L S M
  | .aaload => match e.2.2.1 with
    | 0 => mArq SH X pc L S M
    | _ => mArqX SH X pc L S M
  | .arraylength => match e.2.2.1 with
    | 0 => mLen SH X pc L S M
    | _ => mLenX SH X pc L S M
  | .ifCond .eq _ => mIf1 X (fun x => x = 0) 3 e.2.2.1 pc L S M
  | .ifCond .ne _ => mIf1 X (fun x => ¬ x = 0) 3 e.2.2.1 pc L S M
  | .ifCond .lt _ => mIf1 X (fun x => x < 0) 3 e.2.2.1 pc L S M
  | .ifCond .ge _ => mIf1 X (fun x => 0 ≤ x) 3 e.2.2.1 pc L S M
  | .ifCond .gt _ => mIf1 X (fun x => 0 < x) 3 e.2.2.1 pc L S M
  | .ifCond .le _ => mIf1 X (fun x => x ≤ 0) 3 e.2.2.1 pc L S M
  | .if_icmp .eq _ => mIf2 X (fun x y => x = y) 3 e.2.2.1 pc L S M
  | .if_icmp .ne _ => mIf2 X (fun x y => ¬ x = y) 3 e.2.2.1 pc L S M
  | .if_icmp .lt _ => mIf2 X (fun x y => x < y) 3 e.2.2.1 pc L S M
  | .if_icmp .ge _ => mIf2 X (fun x y => y ≤ x) 3 e.2.2.1 pc L S M
  | .if_icmp .gt _ => mIf2 X (fun x y => y < x) 3 e.2.2.1 pc L S M
  | .if_icmp .le _ => mIf2 X (fun x y => x ≤ y) 3 e.2.2.1 pc L S M
  | .goto _ => X (e.2.2.1, L, S, M)
  | .ifnull _ => mNul X e.2.2.1 (pc + 3) L S M
  | .ifnonnull _ => mNul X (pc + 3) e.2.2.1 L S M
  | .tableswitch _ _ _ _ => match S with
    | .inl x :: r => mSw X x e.2.2.1 L r M e.2.2.2.2
    | _ => False
  | .lookupswitch _ _ => match S with
    | .inl x :: r => mSw X x e.2.2.1 L r M e.2.2.2.2
    | _ => False
  | .invokevirtual idx => mCal F X (3 * idx) pc L S M
  | .invokestatic idx => mCal F X (3 * idx + 1) pc L S M
  | .invokespecial idx => mCal F X (3 * idx + 2) pc L S M
  | .ireturn => mEnd F.2.2.2.2.2 P S M
  | .areturn => mEndA F.2.2.2.2.2 P S M
  | .return_ => mEndV F.2.2.2.2.2 P S M
  | _ => False
def mWp (SH : List mH) (F : mF) (P : mP) (X : mS → Prop) (σ : mS) : Prop := match F.1 σ.1 with
  | none => False
  | some e => mOp SH F P X e σ.1 σ.2.1 σ.2.2.1 σ.2.2.2
/-- from σ on the method comes to an end where P holds: in every X that is closed under its steps -/
def mRun (SH : List mH) (F : mF) (P : mP) (σ : mS) : Prop := ∀ X : mS → Prop, (∀ σ', mWp SH F P X σ' → X σ') → X σ
def mMono (F : mF) : Prop := ∀ (idx n : Nat) (T : mT), F.2.2.1 idx = some (n, T) → ∀ (a : List mV) (M : mM) (P Q : mP), (∀ r M', P r M' → Q r M') → T a M P → T a M Q
theorem mSw_mono {X Y : mS → Prop} (h : ∀ σ, X σ → Y σ) {x : Int32} {d : Nat} {L : mL} {S : List mV} {M : mM} : ∀ tl, mSw X x d L S M tl → mSw Y x d L S M tl
  | [], k => h _ k
  | _ :: tl, k => ⟨fun e => h _ (k.1 e), fun e => mSw_mono h tl (k.2 e)⟩
end
section
set_option maxHeartbeats 4000000 in
theorem mOp_mono {SH : List mH} {F : mF} (hF : mMono F) {P : mP} {X Y : mS → Prop} (h : ∀ σ, X σ → Y σ) {e : mI} {pc : Nat} {L : mL} {S : List mV} {M : mM} (k : mOp SH F P X e pc L S M) : mOp SH F P Y e pc L S M := by
  obtain ⟨i, n, a, v, tl⟩ := e
  cases i
  case tableswitch =>
    simp only [mOp] at k ⊢
    split at k
    · exact mSw_mono h _ k
    · exact k
  case lookupswitch =>
    simp only [mOp] at k ⊢
    split at k
    · exact mSw_mono h _ k
    · exact k
  case invokevirtual idx =>
    simp only [mOp, mCal] at k ⊢
    split at k
    · rename_i q hq
      split at k
      · exact hF _ q.1 q.2 hq _ _ _ _ (fun r M' w => h _ w) k
      · exact k
    · exact k
  case invokestatic idx =>
    simp only [mOp, mCal] at k ⊢
    split at k
    · rename_i q hq
      split at k
      · exact hF _ q.1 q.2 hq _ _ _ _ (fun r M' w => h _ w) k
      · exact k
    · exact k
  case invokespecial idx =>
    simp only [mOp, mCal] at k ⊢
    split at k
    · rename_i q hq
      split at k
      · exact hF _ q.1 q.2 hq _ _ _ _ (fun r M' w => h _ w) k
      · exact k
    · exact k
  case ifCond c o =>
    cases c <;> (simp only [mOp, mIf1] at k ⊢; split at k <;> first | exact ⟨fun q => h _ (k.1 q), fun q => h _ (k.2 q)⟩ | exact k)
  case if_icmp c o =>
    cases c <;> (simp only [mOp, mIf2] at k ⊢; split at k <;> first | exact ⟨fun q => h _ (k.1 q), fun q => h _ (k.2 q)⟩ | exact k)
  all_goals first
    | exact k
    | exact h _ k
    | (simp only [mOp, mBin, mDiv, mUn, mLd, mLa, mSt, mSa, mGet, mPut, mArr, mBal, mArs, mArq, mLen, mNul, mArrX, mArsX, mArqX, mLenX] at k ⊢; repeat' split at k
       all_goals first | exact k | exact h _ k | exact ⟨k.1, h _ k.2⟩ | (obtain ⟨n, rs, h1, h2, h3⟩ := k; exact ⟨n, rs, h1, h2, h _ h3⟩) | (obtain ⟨n, k, c, rs, h1, h2, h3, h4, h5, h6⟩ := k; exact ⟨n, k, c, rs, h1, h2, h3, h4, h5, h _ h6⟩))
theorem mWp_mono {SH : List mH} {F : mF} (hF : mMono F) {P : mP} {X Y : mS → Prop} (h : ∀ σ, X σ → Y σ) {σ : mS} (k : mWp SH F P X σ) : mWp SH F P Y σ := by
  unfold mWp at k ⊢
  split at k
  · exact k
  · exact mOp_mono hF h k
theorem mRun.of {SH : List mH} {F : mF} (hF : mMono F) {P : mP} {σ : mS} (k : mWp SH F P (mRun SH F P) σ) : mRun SH F P σ :=
  fun X hX => hX σ (mWp_mono hF (fun _ h => h X hX) k)
/-- n steps at once, but not beyond the stops -/
def mVc (SH : List mH) (F : mF) (P : mP) (st : List Nat) (X : mS → Prop) : Nat → mS → Prop
  | 0, σ => X σ
  | n + 1, σ => mWp SH F P (fun τ => match st.elem τ.1 with
    | true => X τ
    | false => mVc SH F P st X n τ) σ
theorem mRun.vc {SH : List mH} {F : mF} (hF : mMono F) {P : mP} (st : List Nat) : ∀ (n : Nat) {σ : mS}, mVc SH F P st (mRun SH F P) n σ → mRun SH F P σ
  | 0, _, k => k
  | n + 1, σ, k => by
    refine mRun.of hF (mWp_mono hF (fun τ h => ?_) k)
    split at h
    · exact h
    · exact mRun.vc hF st n h
theorem mRun.post {SH : List mH} {F : mF} {P Q : mP} (h : ∀ r M, P r M → Q r M) {σ : mS} (k : mRun SH F P σ) (hF : mMono F) : mRun SH F Q σ := by
  refine k _ (fun σ' w => mRun.of hF ?_)
  unfold mWp at w ⊢
  split at w
  · exact w
  · rename_i e he
    obtain ⟨i, n, a, v, tl⟩ := e
    cases i
    case ireturn =>
      simp only [mOp, mEnd] at w ⊢
      repeat' split at w
      all_goals first | exact w | exact h _ _ w | exact ⟨w.1, h _ _ w.2⟩
    case areturn =>
      simp only [mOp, mEndA] at w ⊢
      repeat' split at w
      all_goals first | exact w | exact h _ _ w
    case return_ =>
      simp only [mOp, mEndV] at w ⊢
      repeat' split at w
      all_goals first | exact w | exact h _ _ w
    case ifCond cd o => cases cd <;> exact w
    case if_icmp cd o => cases cd <;> exact w
    all_goals exact w
end
section
/-! ===== THE SMALL MACHINE'S WORLD ON THE HEAP ===== -/
def mFld (ad : Nat → Nat) (f : Nat → Int32) : Nat → List (Option Nat) → List Value
  | _, [] => []
  | k, none :: t => .int (f k) :: mFld ad f (k + 1) t
  | k, some c :: t => .ref (ad c) :: mFld ad f (k + 1) t
theorem mFld_int {ad : Nat → Nat} {f : Nat → Int32} : ∀ {rs : List (Option Nat)} {k j : Nat}, rs[j]? = some none → (mFld ad f k rs)[j]? = some (.int (f (k + j)))
  | none :: t, k, 0, _ => rfl
  | some c :: t, k, 0, h => by simp at h
  | none :: t, k, j + 1, h => by
    have := mFld_int (ad := ad) (f := f) (rs := t) (k := k + 1) (j := j) (by simpa using h)
    simp only [mFld, List.getElem?_cons_succ, this]
    congr 3
    omega
  | some c :: t, k, j + 1, h => by
    have := mFld_int (ad := ad) (f := f) (rs := t) (k := k + 1) (j := j) (by simpa using h)
    simp only [mFld, List.getElem?_cons_succ, this]
    congr 3
    omega
  | [], k, j, h => by simp at h
theorem mFld_ref {ad : Nat → Nat} {f : Nat → Int32} : ∀ {rs : List (Option Nat)} {k j c : Nat}, rs[j]? = some (some c) → (mFld ad f k rs)[j]? = some (.ref (ad c))
  | none :: t, k, 0, c, h => by simp at h
  | some d :: t, k, 0, c, h => by
    have e : d = c := by simpa using h
    subst e
    rfl
  | none :: t, k, j + 1, c, h => by
    have := mFld_ref (ad := ad) (f := f) (rs := t) (k := k + 1) (j := j) (c := c) (by simpa using h)
    simpa only [mFld, List.getElem?_cons_succ] using this
  | some d :: t, k, j + 1, c, h => by
    have := mFld_ref (ad := ad) (f := f) (rs := t) (k := k + 1) (j := j) (c := c) (by simpa using h)
    simpa only [mFld, List.getElem?_cons_succ] using this
  | [], k, j, c, h => by simp at h
theorem mFld_len {ad : Nat → Nat} {f : Nat → Int32} : ∀ {rs : List (Option Nat)} {k : Nat}, (mFld ad f k rs).length = rs.length
  | [], _ => rfl
  | none :: t, k => by simp [mFld, mFld_len (rs := t)]
  | some c :: t, k => by simp [mFld, mFld_len (rs := t)]
theorem mFld_far {ad : Nat → Nat} {f : Nat → Int32} {x : Int32} {q : Nat} : ∀ {rs : List (Option Nat)} {k : Nat}, q < k → mFld ad (upd f q x) k rs = mFld ad f k rs
  | [], _, _ => rfl
  | none :: t, k, h => by
    have e : upd f q x k = f k := by simp [upd, show k ≠ q by omega]
    simp only [mFld, e, mFld_far (rs := t) (show q < k + 1 by omega)]
  | some c :: t, k, h => by simp only [mFld, mFld_far (rs := t) (show q < k + 1 by omega)]
theorem mFld_set {ad : Nat → Nat} {x : Int32} : ∀ {rs : List (Option Nat)} {f : Nat → Int32} {k j : Nat}, rs[j]? = some none → (mFld ad f k rs).set j (.int x) = mFld ad (upd f (k + j) x) k rs
  | none :: t, f, k, 0, _ => by
    simp only [mFld, List.set_cons_zero, Nat.add_zero, mFld_far (rs := t) (show k < k + 1 by omega)]
    simp [upd]
  | some c :: t, f, k, 0, h => by simp at h
  | none :: t, f, k, j + 1, h => by
    have := mFld_set (ad := ad) (x := x) (rs := t) (f := f) (k := k + 1) (j := j) (by simpa using h)
    simp only [mFld, List.set_cons_succ, this]
    rw [show k + 1 + j = k + (j + 1) by omega]
    congr 2
    simp [upd]
  | some c :: t, f, k, j + 1, h => by
    have := mFld_set (ad := ad) (x := x) (rs := t) (f := f) (k := k + 1) (j := j) (by simpa using h)
    simp only [mFld, List.set_cons_succ, this]
    rw [show k + 1 + j = k + (j + 1) by omega]
  | [], f, k, j, h => by simp at h
def mEnt (ad : Nat → Nat) (cy : Nat → ClassId) (h : mH) (f : Nat → Int32) : va_E := match h.1 with
  | 0 => .inl (cy 0, h.2.1, .inl f)
  | 1 => .inl (cy 1, h.2.1, .inr (.inr (.inr (.inr (fun j => ((h.2.2[j]?).getD none).map ad)))))
  | 2 => .inl (cy 2, h.2.1, .inr (.inr (.inr (.inr (fun j => ((h.2.2[j]?).getD none).map ad)))))
  | 3 => .inl (cy 3, h.2.1, .inl f)
  | 4 => .inl (cy 0, 0, .inl f)
  | k + 5 => .inr (k, mFld ad f 0 h.2.2)
def mWs (ad : Nat → Nat) (cy : Nat → ClassId) (SH : List mH) (M : mM) : va_W := (List.range SH.length).map (fun c => (ad c, mEnt ad cy (SH.getD c (0, 0, [])) (M c)))
theorem mWs_get {ad : Nat → Nat} {cy : Nat → ClassId} {SH : List mH} {M : mM} {c : Nat} {h : mH} (hc : SH[c]? = some h) : (mWs ad cy SH M)[c]? = some (ad c, mEnt ad cy h (M c)) := by
  have hl : c < SH.length := (List.getElem?_eq_some_iff.mp hc).1
  have hg : SH.getD c (0, 0, []) = h := by rw [List.getD_eq_getElem?_getD, hc]; rfl
  simp only [mWs, List.getElem?_map, List.getElem?_range hl, Option.map_some, hg]
theorem mWs_len {ad : Nat → Nat} {cy : Nat → ClassId} {SH : List mH} {M : mM} : (mWs ad cy SH M).length = SH.length := by simp [mWs]
theorem mWs_set {ad : Nat → Nat} {cy : Nat → ClassId} {SH : List mH} {M : mM} {c : Nat} {h : mH} {g : Nat → Int32} (hc : SH[c]? = some h) : (mWs ad cy SH M).set c (ad c, mEnt ad cy h g) = mWs ad cy SH (mUp M c g) := by
  have hl : c < SH.length := (List.getElem?_eq_some_iff.mp hc).1
  have hg : SH.getD c (0, 0, []) = h := by rw [List.getD_eq_getElem?_getD, hc]; rfl
  apply List.ext_getElem?
  intro i
  by_cases hi : i < SH.length
  · by_cases e : c = i
    · subst e
      rw [List.getElem?_set_self (by rw [mWs_len]; exact hi)]
      simp only [mWs, List.getElem?_map, List.getElem?_range hi, Option.map_some, hg, mUp, if_true]
    · rw [List.getElem?_set_ne e]
      simp only [mWs, List.getElem?_map, List.getElem?_range hi, Option.map_some, mUp, if_neg (Ne.symm e)]
  · rw [List.getElem?_eq_none (by rw [List.length_set, mWs_len]; omega), List.getElem?_eq_none (by rw [mWs_len]; omega)]
theorem mWs_at {ad : Nat → Nat} {cy : Nat → ClassId} {SH : List mH} {M : mM} {k : Nat} {q : Nat × va_E} (h : (mWs ad cy SH M)[k]? = some q) : k < SH.length ∧ q.1 = ad k := by
  have hl : k < SH.length := by have := (List.getElem?_eq_some_iff.mp h).1; rw [mWs_len] at this; exact this
  simp only [mWs, List.getElem?_map, List.getElem?_range hl, Option.map_some] at h
  exact ⟨hl, by rw [← Option.some.inj h]⟩
theorem mWs_D {A : Nat → Prop} {ad : Nat → Nat} {cy : Nat → ClassId} {SH : List mH} {M : mM} (h : va_D A (mWs ad cy SH M)) (M' : mM) : va_D A (mWs ad cy SH M') := by
  refine ⟨fun i j p q hi hj hpq => ?_, fun k q hk => ?_⟩
  · obtain ⟨li, ei⟩ := mWs_at hi
    obtain ⟨lj, ej⟩ := mWs_at hj
    refine h.1 i j (ad i, mEnt ad cy SH[i] (M i)) (ad j, mEnt ad cy SH[j] (M j)) (mWs_get (List.getElem?_eq_getElem li)) (mWs_get (List.getElem?_eq_getElem lj)) ?_
    show ad i = ad j
    rw [← ei, ← ej]
    exact hpq
  · obtain ⟨lk, ek⟩ := mWs_at hk
    have := h.2 k _ (mWs_get (M := M) (cy := cy) (ad := ad) (List.getElem?_eq_getElem lk))
    rw [ek]
    exact this
def mTys (cy : Nat → ClassId) : List (ClassId × FieldType) := [(cy 0, .int), (cy 1, .array .int), (cy 2, .object RX4), (cy 3, .byte)]
def mLH (ls : Array Slot) (nL : Nat) (ad : Nat → Nat) (L : mL) : Prop := ls.size = nL ∧ lv_wf ls ∧ L.length = nL ∧ ∀ (i : Nat) (v : mV), L[i]? = some (some v) → ls[i]? = some (.val (mval ad v))
theorem mval_cat (ad : Nat → Nat) (v : mV) : (mval ad v).category = 1 := by
  rcases v with x | (_ | c) <;> rfl
def mAs (ad : Nat → Nat) (L : mL) : List (Nat × Value) := (List.range L.length).filterMap (fun i => match L[i]? with
  | some (some v) => some (i, mval ad v)
  | _ => none)
theorem mAs_mem {ad : Nat → Nat} {L : mL} {q : Nat × Value} : q ∈ mAs ad L ↔ ∃ v, L[q.1]? = some (some v) ∧ q.2 = mval ad v := by
  unfold mAs
  rw [List.mem_filterMap]
  constructor
  · rintro ⟨i, -, hi⟩
    split at hi
    · rename_i v hv
      cases hi
      exact ⟨v, hv, rfl⟩
    · cases hi
  · rintro ⟨v, hv, e⟩
    refine ⟨q.1, List.mem_range.mpr (List.getElem?_eq_some_iff.mp hv).1, ?_⟩
    rw [hv]
    simp [← e]
theorem mLH.has {ls : Array Slot} {nL : Nat} {ad : Nat → Nat} {L : mL} (h : mLH ls nL ad L) : lv_has ls nL (mAs ad L) := by
  refine ⟨h.1, h.2.1, fun q hq => ?_⟩
  obtain ⟨v, hv, e⟩ := mAs_mem.mp hq
  rw [e]
  exact h.2.2.2 _ _ hv
theorem mLH.set {ls ls' : Array Slot} {nL : Nat} {ad : Nat → Nat} {L : mL} {i : Nat} {v : mV} (h : mLH ls nL ad L) (hi : i < nL) (h' : lv_has ls' nL ((i, mval ad v) :: (mAs ad L).filter (fun q => !(q.1 == i) && !(q.1 + 1 == i && q.2.category == 2)))) : mLH ls' nL ad (L.set i (some v)) := by
  refine ⟨h'.1, h'.2.1, by rw [List.length_set]; exact h.2.2.1, fun j w hj => ?_⟩
  by_cases e : i = j
  · subst e
    rw [List.getElem?_set_self (by rw [h.2.2.1]; exact hi)] at hj
    cases hj
    exact h'.2.2 (i, mval ad v) List.mem_cons_self
  · rw [List.getElem?_set_ne e] at hj
    refine h'.2.2 (j, mval ad w) (List.mem_cons_of_mem _ (List.mem_filter.mpr ⟨mAs_mem.mpr ⟨w, hj, rfl⟩, ?_⟩))
    have e1 : (j == i) = false := by simp; omega
    have e2 : ((mval ad w).category == 2) = false := by rw [mval_cat]; rfl
    simp [e1, e2]
theorem mLH.entry {ad : Nat → Nat} (vs : List mV) {n : Nat} (h : vs.length ≤ n) : ∃ ls : Array Slot, (lg_sl (vs.map (mval ad)) ++ List.replicate (n - (lg_sl (vs.map (mval ad))).length) Slot.unset).toArray = ls ∧ mLH ls n ad (vs.map some ++ List.replicate (n - vs.length) none) := by
  have hsl : ∀ ws : List mV, lg_sl (ws.map (mval ad)) = ws.map (fun v => Slot.val (mval ad v)) := by
    intro ws
    induction ws with
    | nil => rfl
    | cons v t ih =>
      have hc : ¬ (mval ad v).category = 2 := by rw [mval_cat]; decide
      have e : lg_sl ((v :: t).map (mval ad)) = Slot.val (mval ad v) :: lg_sl (t.map (mval ad)) := by simp [lg_sl, hc]
      rw [e, ih]
      rfl
  have hlen : (lg_sl (vs.map (mval ad))).length = vs.length := by rw [hsl]; simp
  have he := lv_entry (vs.map (mval ad)) (n := n) (by rw [hlen]; exact h)
  refine ⟨_, rfl, he.1, he.2.1, by simp; omega, fun i v hi => ?_⟩
  have hlt : i < vs.length := by
    apply Classical.byContradiction
    intro hn
    rw [List.getElem?_append_right (by simp; omega)] at hi
    have := List.mem_of_getElem? hi
    rw [List.mem_replicate] at this
    cases this.2
  rw [List.getElem?_append_left (by simp; exact hlt)] at hi
  simp only [List.getElem?_map] at hi
  have hv : vs[i]? = some v := by
    cases hq : vs[i]? with
    | none => rw [hq] at hi; cases hi
    | some w => rw [hq] at hi; cases hi; rfl
  rw [hlen]
  simp only [List.getElem?_toArray]
  rw [List.getElem?_append_left (by rw [hlen]; exact hlt), hsl, List.getElem?_map, hv]
  rfl
end
section
/-! ===== ONE STEP OF THE SMALL MACHINE IS ONE OF THE MACHINE'S ===== -/
def mTabs (pc : Nat) : Int → List Int → List (Int32 × Nat) → Bool
  | _, [], [] => true
  | lo, o :: os, q :: tl => decide (q.1.toInt = lo) && decide ((pc : Int) + o = (q.2 : Int)) && mTabs pc (lo + 1) os tl
  | _, _, _ => false
def mLks (pc : Nat) : List (Int × Int) → List (Int32 × Nat) → Bool
  | [], [] => true
  | a :: ps, q :: tl => decide (q.1.toInt = a.1) && decide ((pc : Int) + a.2 = (q.2 : Int)) && mLks pc ps tl
  | _, _ => false
theorem mTabs_sw {X : mS → Prop} {pc d : Nat} {x : Int32} {L : mL} {S : List mV} {M : mM} : ∀ {os : List Int} {tl : List (Int32 × Nat)} {lo : Int}, mTabs pc lo os tl = true → mSw X x d L S M tl →
    (∃ (o : Int) (t k : Nat), os[k]? = some o ∧ x.toInt = lo + k ∧ (pc : Int) + o = (t : Int) ∧ X (t, L, S, M)) ∨ ((x.toInt < lo ∨ lo + os.length ≤ x.toInt) ∧ X (d, L, S, M))
  | [], [], lo, _, k => Or.inr ⟨by
      have : lo + ([] : List Int).length = lo := by simp
      omega, k⟩
  | o :: os, q :: tl, lo, h, k => by
    simp only [mTabs, Bool.and_eq_true, decide_eq_true_eq] at h
    by_cases e : x = q.1
    · exact Or.inl ⟨o, q.2, 0, rfl, by rw [e, h.1.1]; simp, h.1.2, k.1 e⟩
    · rcases mTabs_sw h.2 (k.2 e) with ⟨o', t, i, h1, h2, h3, h4⟩ | ⟨h1, h2⟩
      · exact Or.inl ⟨o', t, i + 1, by simpa using h1, by rw [h2]; push_cast; omega, h3, h4⟩
      · refine Or.inr ⟨?_, h2⟩
        have hne : x.toInt ≠ lo := fun z => e (Int32.toInt_inj.mp (by rw [z, h.1.1]))
        have hlen : ((o :: os).length : Int) = (os.length : Int) + 1 := by simp
        omega
  | [], _ :: _, _, h, _ => by simp [mTabs] at h
  | _ :: _, [], _, h, _ => by simp [mTabs] at h
theorem mLks_sw {X : mS → Prop} {pc d : Nat} {x : Int32} {dflt : Int} {L : mL} {S : List mV} {M : mM} (hd : (pc : Int) + dflt = (d : Int)) : ∀ {ps : List (Int × Int)} {tl : List (Int32 × Nat)}, mLks pc ps tl = true → mSw X x d L S M tl →
    ∃ t : Nat, (pc : Int) + Op.lookupswitch.offset ps dflt x.toInt = (t : Int) ∧ X (t, L, S, M)
  | [], [], _, k => ⟨d, hd, k⟩
  | a :: ps, q :: tl, h, k => by
    simp only [mLks, Bool.and_eq_true, decide_eq_true_eq] at h
    obtain ⟨a1, a2⟩ := a
    by_cases e : x = q.1
    · exact ⟨q.2, by rw [Op.lookupswitch.offset_cons, if_pos (by rw [e]; exact h.1.1.symm)]; exact h.1.2, k.1 e⟩
    · obtain ⟨t, h1, h2⟩ := mLks_sw hd h.2 (k.2 e)
      exact ⟨t, by rw [lv_osw e h.1.1]; exact h1, h2⟩
  | [], _ :: _, h, _ => by simp [mLks] at h
  | _ :: _, [], h, _ => by simp [mLks] at h
/-- what a table's entry must say, beyond the decoded instruction -/
def mAux (pc : Nat) (e : mI) : Bool := match e.1 with
  | .iconst n => decide (Int32.ofInt n = e.2.2.2.1) && decide (e.2.1 = 1)
  | .bipush n => decide ((Int8.ofInt n).toInt32 = e.2.2.2.1) && decide (e.2.1 = 2)
  | .sipush n => decide ((Int16.ofInt n).toInt32 = e.2.2.2.1) && decide (e.2.1 = 3)
  | .ldc _ => decide (e.2.1 = 2)
  | .ldc_w _ => decide (e.2.1 = 3)
  | .iload_n k => decide ((k : Nat) = e.2.2.1) && decide (e.2.1 = 1)
  | .aload_n k => decide ((k : Nat) = e.2.2.1) && decide (e.2.1 = 1)
  | .istore_n k => decide ((k : Nat) = e.2.2.1) && decide (e.2.1 = 1)
  | .astore_n k => decide ((k : Nat) = e.2.2.1) && decide (e.2.1 = 1)
  | .iload i => decide (i = e.2.2.1) && decide (e.2.1 = 2)
  | .aload i => decide (i = e.2.2.1) && decide (e.2.1 = 2)
  | .istore i => decide (i = e.2.2.1) && decide (e.2.1 = 2)
  | .astore i => decide (i = e.2.2.1) && decide (e.2.1 = 2)
  | .iinc i n => (decide (i = e.2.2.1) && decide (Int32.ofInt n = e.2.2.2.1)) && decide (e.2.1 = 3)
  | .ifCond _ o => decide ((pc : Int) + o = (e.2.2.1 : Int)) && decide (e.2.1 = 3)
  | .if_icmp _ o => decide ((pc : Int) + o = (e.2.2.1 : Int)) && decide (e.2.1 = 3)
  | .goto o => decide ((pc : Int) + o = (e.2.2.1 : Int)) && decide (e.2.1 = 3)
  | .ifnull o => decide ((pc : Int) + o = (e.2.2.1 : Int)) && decide (e.2.1 = 3)
  | .ifnonnull o => decide ((pc : Int) + o = (e.2.2.1 : Int)) && decide (e.2.1 = 3)
  | .tableswitch d lo hi os => (decide ((pc : Int) + d = (e.2.2.1 : Int)) && decide (hi = lo + os.toList.length - 1)) && mTabs pc lo os.toList e.2.2.2.2
  | .lookupswitch d ps => (decide ((pc : Int) + d = (e.2.2.1 : Int)) && (ps.toList.zip (ps.toList.drop 1)).all (fun (a, next) => a.1 < next.1)) && mLks pc ps.toList e.2.2.2.2
  | .getfield _ => decide (e.2.1 = 3)
  | .getstatic _ => decide (e.2.1 = 3)
  | .putfield _ => decide (e.2.1 = 3)
  | .invokevirtual _ => decide (e.2.1 = 3)
  | .invokestatic _ => decide (e.2.1 = 3)
  | .invokespecial _ => decide (e.2.1 = 3)
  | _ => decide (e.2.1 = 1)
def mChk (cc : ByteArray) (pc : Nat) (e : mI) : Bool := decide (decode cc pc = .ok (e.1, e.2.1)) && mAux pc e
/-- fields: what the links and the class's table say -/
def mFldOK (own : String) (F : mF) (Ts : List Cond) : Prop := ∀ (idx ci k b : Nat), F.2.1 idx = some (ci, k, b) → ∃ (C : String) (T : u_T) (N : Nat) (ty : Nat → FieldType),
  vwCl[ci]? = some (C, T, N) ∧ k < N ∧ Cond.fieldLink own idx (T k).1 (T k).2.1 (T k).2.2.1 ∈ Ts ∧ (∀ w ∈ u_ws C T N, w ∈ Ts) ∧ (∀ j, j < N → parseFieldDescriptor (T j).2.2.1 = some (ty j)) ∧
  (∀ a, a < N → ∀ b, b < N → a ≠ b → (T a).2.1 ≠ (T b).2.1) ∧ (b = 2 ∨ (T k).2.2.2 = false) ∧ (b = 0 → ty k = .int) ∧ (b = 1 → ty k = .boolean) ∧ (b = 3 → ty k = .byte)
def mCstOK (own : String) (F : mF) (ad : Nat → Nat) (args : Array Value) (s : State) : Prop := ∀ (idx : Nat) (v : mV), F.2.2.2.1 idx = some v → (∃ x, v = .inl x ∧ (Cond.constant own idx x).before args s = true) ∨ (∃ (c : Nat) (tx : String), v = .inr (some c) ∧ vk_R own idx tx (ad c) s)
def mStaOK (own : String) (F : mF) (ad : Nat → Nat) (A : Nat → Prop) (s : State) (Ts : List Cond) : Prop := ∀ (idx : Nat) (v : mV), F.2.2.2.2.1 idx = some v → ∃ C n d : String, va_Z C n d (mval ad v) A s s.heap ∧ Cond.fieldLink own idx C n d ∈ Ts
/-- the constants on the heap -/
def mStr (ad : Nat → Nat) (A : Nat → Prop) (U : State) (H : Heap) : Prop :=
  (∀ i : Nat, i < 17 → va_O "java/lang/String" (ad (1000 + i)) A U H ∧ va_OF "java/lang/String" "coder" "B" (.int 0) (ad (1000 + i)) A U H ∧ va_OF "java/lang/String" "value" "[B" (.ref (ad (1100 + i))) (ad (1000 + i)) A U H ∧ va_T .byte (ad (1100 + i)) (mRoB.getD i []).length (fun j => .int ((mRoB.getD i []).getD j 0)) A U H) ∧
  va_T .byte (ad 1200) 100 (fun j => .int (mDigT.getD j 0)) A U H ∧ va_T .byte (ad 1201) 100 (fun j => .int (mDigO.getD j 0)) A U H
theorem mStr.moved {ad : Nat → Nat} {A : Nat → Prop} {u U : State} {H : Heap} (hvm : u.vm.Alike U.vm) (h : mStr ad A u H) : mStr ad A U H :=
  ⟨fun i hi => ⟨va_O.moved hvm (h.1 i hi).1, va_OF.moved hvm (h.1 i hi).2.1, va_OF.moved hvm (h.1 i hi).2.2.1, va_T.moved hvm (h.1 i hi).2.2.2⟩, va_T.moved hvm h.2.1, va_T.moved hvm h.2.2⟩
theorem mStr.kept {ad : Nat → Nat} {A : Nat → Prop} {U : State} {H H1 : Heap} (h : mStr ad A U H) (hq : ∀ a : Nat, a < H.size → ¬ A a → H1[a]? = H[a]?) : mStr ad A U H1 :=
  ⟨fun i hi => ⟨(h.1 i hi).1.kept hq, (h.1 i hi).2.1.kept hq, (h.1 i hi).2.2.1.kept hq, (h.1 i hi).2.2.2.kept hq⟩, h.2.1.kept hq, h.2.2.kept hq⟩
theorem mStr.narrow {ad : Nat → Nat} {A B : Nat → Prop} {U : State} {H : Heap} (h : mStr ad A U H) (hAB : ∀ q, B q → A q) : mStr ad B U H :=
  ⟨fun i hi => ⟨(h.1 i hi).1.narrow hAB, (h.1 i hi).2.1.narrow hAB, (h.1 i hi).2.2.1.narrow hAB, (h.1 i hi).2.2.2.narrow hAB⟩, h.2.1.narrow hAB, h.2.2.narrow hAB⟩
/-- an array that is never written -/
theorem mStr.arr {ad : Nat → Nat} {A : Nat → Prop} {U : State} {H : Heap} (h : mStr ad A U H) {a : Nat} {l : List Int32} (ha : mRoA a = some l) : va_T .byte (ad a) l.length (fun j => .int (l.getD j 0)) A U H := by
  unfold mRoA at ha
  split at ha
  · rename_i h1
    simp only [Bool.and_eq_true, Nat.ble_eq] at h1
    have h2 : a < 1117 := by simpa using h1.2
    have h3 := (h.1 (a - 1100) (by omega)).2.2.2
    have e : mRoB.getD (a - 1100) [] = l := by rw [List.getD_eq_getElem?_getD, ha]; rfl
    rw [e, show 1100 + (a - 1100) = a by omega] at h3
    exact h3
  · split at ha
    · rename_i h2
      cases ha
      have : a = 1200 := by simpa using h2
      subst this
      exact h.2.1
    · split at ha
      · rename_i h2
        cases ha
        have : a = 1201 := by simpa using h2
        subst this
        exact h.2.2
      · cases ha
end
section
section MSIM
variable {p : Program} {l : Launch} {e : Env} {R : Room} {s : State} {m : MethodId} {args : Array Value} {below : List Frame} {meth : Method} {c : Code} {cells slots : Nat} {Q : State → Prop}
variable {cc : ByteArray} {D : va_G} {A : Nat → Prop} {ad : Nat → Nat} {cy : Nat → ClassId} {SH : List mH} {own : String} {Ts : List Cond} {nL : Nat} {F : mF} {P : mP}
/-- the machine's goal at a state of the small one -/
def mX (p : Program) (l : Launch) (e : Env) (R : Room) (s : State) (m : MethodId) (args : Array Value) (below : List Frame) (meth : Method) (c : Code) (cells slots : Nat) (Q : State → Prop) (D : va_G) (A : Nat → Prop) (ad : Nat → Nat) (cy : Nat → ClassId) (SH : List mH) (nL : Nat) (σ : mS) : Prop :=
  ∀ (H : Heap) (locs : List Loc) (ls : Array Slot), va_P D vwCl (mWs ad cy SH σ.2.2.2) H → va_S A s.heap H locs → mLH ls nL ad σ.2.1 → W p l e R s m args below meth c H locs cells slots Q (F0 m σ.1 ls (σ.2.2.1.map (mval ad)))
/-- the instruction of a call, by its key -/
def mIns (key : Nat) : Instr := match key % 3 with
  | 0 => .invokevirtual (key / 3)
  | 1 => .invokestatic (key / 3)
  | _ => .invokespecial (key / 3)
/-- a call, as the machine makes it -/
def mCallOK (p : Program) (l : Launch) (e : Env) (R : Room) (s : State) (m : MethodId) (args : Array Value) (below : List Frame) (meth : Method) (c : Code) (cells slots : Nat) (Q : State → Prop) (D : va_G) (A : Nat → Prop) (ad : Nat → Nat) (cy : Nat → ClassId) (SH : List mH) (nL : Nat) (cc : ByteArray) (key n : Nat) (T : mT) : Prop :=
  ∀ (pc : Nat) (H : Heap) (locs : List Loc) (ls : Array Slot) (M : mM) (as rest : List mV) (Po : mP), decode cc pc = .ok (mIns key, 3) → va_P D vwCl (mWs ad cy SH M) H → va_S A s.heap H locs → ls.size = nL → as.length = n → rest.length ≤ 8 → T as M Po →
    (∀ (r : Option mV) (M' : mM) (H' : Heap) (locs' : List Loc), va_P D vwCl (mWs ad cy SH M') H' → va_S A s.heap H' locs' → Po r M' → W p l e R s m args below meth c H' locs' cells slots Q (F0 m (pc + 3) ls ((mRes r rest).map (mval ad)))) →
    W p l e R s m args below meth c H locs cells slots Q (F0 m pc ls ((as.reverse ++ rest).map (mval ad)))
def mCalOK (p : Program) (l : Launch) (e : Env) (R : Room) (s : State) (m : MethodId) (args : Array Value) (below : List Frame) (meth : Method) (c : Code) (cells slots : Nat) (Q : State → Prop) (D : va_G) (A : Nat → Prop) (ad : Nat → Nat) (cy : Nat → ClassId) (SH : List mH) (nL : Nat) (cc : ByteArray) (F : mF) : Prop :=
  ∀ (key n : Nat) (T : mT), F.2.2.1 key = some (n, T) → mCallOK p l e R s m args below meth c cells slots Q D A ad cy SH nL cc key n T
theorem mIns_v (k : Nat) : mIns (3 * k) = .invokevirtual k := by
  unfold mIns
  rw [show 3 * k % 3 = 0 by omega, show 3 * k / 3 = k by omega]
  rfl
theorem mIns_s (k : Nat) : mIns (3 * k + 1) = .invokestatic k := by
  unfold mIns
  rw [show (3 * k + 1) % 3 = 1 by omega, show (3 * k + 1) / 3 = k by omega]
  rfl
theorem mIns_p (k : Nat) : mIns (3 * k + 2) = .invokespecial k := by
  unfold mIns
  rw [show (3 * k + 2) % 3 = 2 by omega, show (3 * k + 2) / 3 = k by omega]
  rfl
def mEndOK (s : State) (args : Array Value) (D : va_G) (A : Nat → Prop) (ad : Nat → Nat) (cy : Nat → ClassId) (SH : List mH) (P : mP) (Qc : Array Value → State → Outcome → State → Prop) : Prop :=
  ∀ (r : Option mV) (M : mM) (H : Heap) (locs : List Loc), P r M → va_P D vwCl (mWs ad cy SH M) H → va_S A s.heap H locs → ∀ t : State, t.heap = H → s.WarmedH t.vm → Qc args s (.returned (r.map (mval ad))) t
theorem mLdcwS {rest : List Value} {pc : Nat} {ls : Array Slot} {H : Heap} {locs : List Loc} (hexec : p.tables.exec = Jvm.exec) (hb : c.code = cc) {own tx : String} {index q : Nat} (hown : s.vm.findClass own = some m.cls) (hZ : vk_R own index tx q s) (hdg : decode cc pc = .ok (.ldc_w index, 3))
    (k : W p l e R s m args below meth c H locs cells slots Q (F0 m (pc + 3) ls (.ref q :: rest))) : W p l e R s m args below meth c H locs cells slots Q (F0 m pc ls rest) := by
  intro T hT X
  obtain ⟨t, a1, b1⟩ := k T hT X
  refine ⟨t, ?_, b1⟩
  obtain ⟨k, cf, i, a', hk, hcf, hcp, -, hr, hev'⟩ := Cond.stringRef_spec hown hZ.1
  cases hZ.2.symm.trans hev'
  obtain ⟨k', hk', he⟩ := X.warmed.alike.2.2 _ _ hk
  have hr' : k'.resolved[index]? = some (some (.string q)) := by
    rcases X.warmed.entry hk hk' index with h | ⟨h, -⟩
    · rw [h]; exact hr
    · rw [hr] at h; cases h
  subst hb
  jvm_step X.here [hexec, hdg, ldc_w.wp_string (e := e) (s := T) (f := F0 m pc ls rest) X.here.top hk' (by rw [he]; exact hcf) hcp hr']
  exact a1
theorem mAald {ws : va_W} {H : Heap} {locs : List Loc} {pc : Nat} {ls : Array Slot} {rest : List Value} {tys : List (ClassId × FieldType)} {cl : List vw_C} {a : Nat} (hexec : p.tables.exec = Jvm.exec) (hb : c.code = cc) (hK : va_K D cl tys s) (hP : va_P D cl ws H) (q0 t0 : Nat) {cA : ClassId} {ty : FieldType} {n : Nat} {f : Nat → Option Nat} (ha : ws[q0]? = some (a, .inl (cA, n, .inr (.inr (.inr (.inr f)))))) (ht : tys[t0]? = some (cA, ty)) (hty : ty.isReference = true) {i : Int32} (hin : vp_in i n) (hdg : decode cc pc = .ok (.aaload, 1))
    (kk : W p l e R s m args below meth c H locs cells slots Q (F0 m (pc + 1) ls (va_rf (f i.toNatClampNeg) :: rest))) : W p l e R s m args below meth c H locs cells slots Q (F0 m pc ls (.int i :: .ref a :: rest)) := by
  have hlt : i.toNatClampNeg < n := Nat.not_le.mp fun q => hin (Or.inr q)
  exact W.aald (v := va_rf (f i.toNatClampNeg)) (ty := ty) hexec hb (hP q0 _ ha) ((hK.2 t0 _ ht).1 n (fun j => va_rf (f j))) hty (fun q => by cases q) (by show ¬ (i < 0 ∨ (arrV _ _ _).slots.size ≤ _); rw [arrV_size]; exact hin) (by show (arrV _ _ _).slots[_]? = _; rw [arrV_read _ _ hlt]) rfl rfl hdg kk
set_option maxHeartbeats 8000000 in
theorem mOp_sim {Qc : Array Value → State → Outcome → State → Prop} (hx : p.tables.exec = Jvm.exec) (hb : c.code = cc) (hml : c.maxLocals = nL) (hr : meth.sig.returnType = F.2.2.2.2.2) (hlk : meth.locks = false) (hts : ∀ w ∈ Ts, w.before args s = true) (hown : s.vm.findClass own = some m.cls)
    (hK : va_K D vwCl (mTys cy) s) (hD : ∀ M, va_D A (mWs ad cy SH M)) (hfld : mFldOK own F Ts) (hcst : mCstOK own F ad args s) (hsta : mStaOK own F ad A s Ts) (hstr : mStr ad A s s.heap) (hcal : mCalOK p l e R s m args below meth c cells slots (MQ below Qc args s cells slots A) D A ad cy SH nL cc F) (hend : mEndOK s args D A ad cy SH P Qc)
    {x : mI} {pc : Nat} {L : mL} {S : List mV} {M : mM} (hdg : decode cc pc = .ok (x.1, x.2.1)) (haux : mAux pc x = true)
    (w : mOp SH F P (mX p l e R s m args below meth c cells slots (MQ below Qc args s cells slots A) D A ad cy SH nL) x pc L S M) : mX p l e R s m args below meth c cells slots (MQ below Qc args s cells slots A) D A ad cy SH nL (pc, L, S, M) := by
  obtain ⟨i, n, a, v, tl⟩ := x
  intro H locs ls hP hS hL
  dsimp only at hP hL ⊢
  cases i
  case iconst k =>
    simp only [mAux, Bool.and_eq_true, decide_eq_true_eq] at haux
    obtain ⟨h1, rfl⟩ := haux
    exact lv_iconst hx hb hdg h1 (w H locs ls hP hS hL)
  case bipush k =>
    simp only [mAux, Bool.and_eq_true, decide_eq_true_eq] at haux
    obtain ⟨h1, rfl⟩ := haux
    exact lv_bipush hx hb hdg h1 (w H locs ls hP hS hL)
  case sipush k =>
    simp only [mAux, Bool.and_eq_true, decide_eq_true_eq] at haux
    obtain ⟨h1, rfl⟩ := haux
    exact lv_sipush hx hb hdg h1 (w H locs ls hP hS hL)
  case ldc k =>
    simp only [mAux, decide_eq_true_eq] at haux
    subst haux
    simp only [mOp] at w
    split at w
    · rename_i u hu
      rcases hcst k u hu with ⟨y, rfl, h2⟩ | ⟨q, tx, rfl, h2⟩
      · exact lv_ldc hx hb hown h2 hdg (w H locs ls hP hS hL)
      · exact va_ldcS hx hb hown h2 hdg (w H locs ls hP hS hL)
    · exact w.elim
  case aconst_null =>
    simp only [mAux, decide_eq_true_eq] at haux
    subst haux
    exact lv_null hx hb hdg (w H locs ls hP hS hL)
  case iload_n k =>
    simp only [mAux, Bool.and_eq_true, decide_eq_true_eq] at haux
    obtain ⟨h1, rfl⟩ := haux
    simp only [mOp, mLd] at w
    split at w
    · rename_i y hv
      exact lv_iload_n hx hb hdg h1 (hL.2.2.2 _ _ hv) (w H locs ls hP hS hL)
    · exact w.elim
  case iload k =>
    simp only [mAux, Bool.and_eq_true, decide_eq_true_eq] at haux
    obtain ⟨rfl, rfl⟩ := haux
    simp only [mOp, mLd] at w
    split at w
    · rename_i y hv
      exact lv_iload hx hb hdg (hL.2.2.2 _ _ hv) (w H locs ls hP hS hL)
    · exact w.elim
  case aload_n k =>
    simp only [mAux, Bool.and_eq_true, decide_eq_true_eq] at haux
    obtain ⟨h1, rfl⟩ := haux
    simp only [mOp, mLa] at w
    split at w
    · rename_i y hv
      cases y with
      | none => exact lv_aload_nN hx hb hdg h1 (hL.2.2.2 _ _ hv) (w H locs ls hP hS hL)
      | some q => exact lv_aload_n hx hb hdg h1 (hL.2.2.2 _ _ hv) (w H locs ls hP hS hL)
    · exact w.elim
  case aload k =>
    simp only [mAux, Bool.and_eq_true, decide_eq_true_eq] at haux
    obtain ⟨rfl, rfl⟩ := haux
    simp only [mOp, mLa] at w
    split at w
    · rename_i y hv
      cases y with
      | none => exact lv_aloadN hx hb hdg (hL.2.2.2 _ _ hv) (w H locs ls hP hS hL)
      | some q => exact lv_aload hx hb hdg (hL.2.2.2 _ _ hv) (w H locs ls hP hS hL)
    · exact w.elim
  case istore_n k =>
    simp only [mAux, Bool.and_eq_true, decide_eq_true_eq] at haux
    obtain ⟨h1, rfl⟩ := haux
    simp only [mOp, mSt] at w
    split at w
    · split at w
      · rename_i hlt
        have hi : a < nL := by rw [← hL.2.2.1]; simpa using hlt
        exact lv_istore_n hx hb hdg h1 hL.has hi rfl (fun ls' h' => w H locs ls' hP hS (hL.set hi h'))
      · exact w.elim
    · exact w.elim
  case istore k =>
    simp only [mAux, Bool.and_eq_true, decide_eq_true_eq] at haux
    obtain ⟨rfl, rfl⟩ := haux
    simp only [mOp, mSt] at w
    split at w
    · split at w
      · rename_i hlt
        have hi : k < nL := by rw [← hL.2.2.1]; simpa using hlt
        exact lv_istore hx hb hdg hL.has hi rfl (fun ls' h' => w H locs ls' hP hS (hL.set hi h'))
      · exact w.elim
    · exact w.elim
  case astore_n k =>
    simp only [mAux, Bool.and_eq_true, decide_eq_true_eq] at haux
    obtain ⟨h1, rfl⟩ := haux
    simp only [mOp, mSa] at w
    split at w
    · rename_i y r
      split at w
      · rename_i hlt
        have hi : a < nL := by rw [← hL.2.2.1]; simpa using hlt
        cases y with
        | none => exact lv_astore_nN hx hb hdg h1 hL.has hi rfl (fun ls' h' => w H locs ls' hP hS (hL.set hi h'))
        | some q => exact lv_astore_n hx hb hdg h1 hL.has hi rfl (fun ls' h' => w H locs ls' hP hS (hL.set hi h'))
      · exact w.elim
    · exact w.elim
  case astore k =>
    simp only [mAux, Bool.and_eq_true, decide_eq_true_eq] at haux
    obtain ⟨rfl, rfl⟩ := haux
    simp only [mOp, mSa] at w
    split at w
    · rename_i y r
      split at w
      · rename_i hlt
        have hi : k < nL := by rw [← hL.2.2.1]; simpa using hlt
        cases y with
        | none => exact lv_astoreN hx hb hdg hL.has hi rfl (fun ls' h' => w H locs ls' hP hS (hL.set hi h'))
        | some q => exact lv_astore hx hb hdg hL.has hi rfl (fun ls' h' => w H locs ls' hP hS (hL.set hi h'))
      · exact w.elim
    · exact w.elim
  case iinc k z =>
    simp only [mAux, Bool.and_eq_true, decide_eq_true_eq] at haux
    obtain ⟨⟨rfl, h2⟩, rfl⟩ := haux
    simp only [mOp] at w
    split at w
    · rename_i y hv
      have hi : k < nL := by rw [← hL.2.2.1]; exact (List.getElem?_eq_some_iff.mp hv).1
      obtain ⟨j, hj⟩ := List.getElem?_of_mem (mAs_mem (ad := ad) (q := (k, Value.int y)).mpr ⟨_, hv, rfl⟩)
      exact lv_iinc (v := y + v) hx hb hdg hL.has hj (by rw [h2]) hi rfl (fun ls' h' => w H locs ls' hP hS (hL.set hi h'))
    · exact w.elim
  case iadd | isub | imul | ishl | ishr | iand | ior | ixor =>
    simp only [mAux, decide_eq_true_eq] at haux
    subst haux
    simp only [mOp, mBin] at w
    split at w
    · first
        | exact lv_iadd hx hb hdg (w H locs ls hP hS hL)
        | exact lv_isub hx hb hdg (w H locs ls hP hS hL)
        | exact lv_imul hx hb hdg (w H locs ls hP hS hL)
        | exact lv_ishl hx hb hdg (w H locs ls hP hS hL)
        | exact lv_ishr hx hb hdg (w H locs ls hP hS hL)
        | exact lv_iand hx hb hdg (w H locs ls hP hS hL)
        | exact lv_ior hx hb hdg (w H locs ls hP hS hL)
        | exact lv_ixor hx hb hdg (w H locs ls hP hS hL)
    · exact w.elim
  case iushr =>
    simp only [mAux, decide_eq_true_eq] at haux
    subst haux
    simp only [mOp, mBin] at w
    split at w
    · exact lv_iushr hx hb hdg rfl (w H locs ls hP hS hL)
    · exact w.elim
  case idiv =>
    simp only [mAux, decide_eq_true_eq] at haux
    subst haux
    simp only [mOp, mDiv] at w
    split at w
    · exact lv_idiv hx hb hdg w.1 (w.2 H locs ls hP hS hL)
    · exact w.elim
  case irem =>
    simp only [mAux, decide_eq_true_eq] at haux
    subst haux
    simp only [mOp, mDiv] at w
    split at w
    · exact lv_irem hx hb hdg w.1 (w.2 H locs ls hP hS hL)
    · exact w.elim
  case ineg =>
    simp only [mAux, decide_eq_true_eq] at haux
    subst haux
    simp only [mOp, mUn] at w
    split at w
    · exact lv_ineg hx hb hdg (w H locs ls hP hS hL)
    · exact w.elim
  case i2b =>
    simp only [mAux, decide_eq_true_eq] at haux
    subst haux
    simp only [mOp, mUn] at w
    split at w
    · exact lv_i2b hx hb hdg rfl (w H locs ls hP hS hL)
    · exact w.elim
  case i2c =>
    simp only [mAux, decide_eq_true_eq] at haux
    subst haux
    simp only [mOp, mUn] at w
    split at w
    · exact lv_i2c hx hb hdg rfl (w H locs ls hP hS hL)
    · exact w.elim
  case ldc_w k =>
    simp only [mAux, decide_eq_true_eq] at haux
    subst haux
    simp only [mOp] at w
    split at w
    · rename_i u hu
      rcases hcst k u hu with ⟨y, rfl, h2⟩ | ⟨q, tx, rfl, h2⟩
      · exact lv_ldcw hx hb hown h2 hdg (w H locs ls hP hS hL)
      · exact mLdcwS hx hb hown h2 hdg (w H locs ls hP hS hL)
    · exact w.elim
  case dup =>
    simp only [mAux, decide_eq_true_eq] at haux
    subst haux
    simp only [mOp] at w
    split at w
    · exact lv_dup hx hb hdg (mval_cat _ _) (w H locs ls hP hS hL)
    · exact w.elim
  case pop =>
    simp only [mAux, decide_eq_true_eq] at haux
    subst haux
    simp only [mOp] at w
    split at w
    · exact lv_pop hx hb hdg (mval_cat _ _) (w H locs ls hP hS hL)
    · exact w.elim
  case dup_x1 =>
    simp only [mAux, decide_eq_true_eq] at haux
    subst haux
    simp only [mOp] at w
    split at w
    · exact lv_dup_x1 hx hb hdg (mval_cat _ _) (mval_cat _ _) (w H locs ls hP hS hL)
    · exact w.elim
  case dup2 =>
    simp only [mAux, decide_eq_true_eq] at haux
    subst haux
    simp only [mOp] at w
    split at w
    · exact lv_dup2_11 hx hb hdg (mval_cat _ _) (mval_cat _ _) (w H locs ls hP hS hL)
    · exact w.elim
  case getstatic k =>
    simp only [mAux, decide_eq_true_eq] at haux
    subst haux
    simp only [mOp] at w
    split at w
    · rename_i u hu
      obtain ⟨C, nm, d, h1, h2⟩ := hsta k u hu
      exact va_gets hx hb h1 hS hown (hts _ h2) (fun _ z => z) hdg (w H locs ls hP hS hL)
    · exact w.elim
  case getfield k =>
    simp only [mAux, decide_eq_true_eq] at haux
    subst haux
    simp only [mOp, mGet] at w
    split at w
    · rename_i q r
      split at w
      · rename_i hro
        have hq : 1000 ≤ q ∧ q < 1017 := by simpa [mRoS] using hro
        obtain ⟨-, hs1, hs2, -⟩ := hstr.1 (q - 1000) (by omega)
        rw [show 1000 + (q - 1000) = q by omega] at hs1 hs2
        split at w
        · rename_i z hz
          obtain ⟨ci, fk, b⟩ := z
          obtain ⟨C, T, N, ty, h1, h2, h3, h4, -⟩ := hfld k ci fk b hz
          split at w
          · rename_i e1 e2
            dsimp only at e1 e2
            subst e1; subst e2
            cases h1
            rw [show 1100 + (q - 1000) = q + 100 by omega] at hs2
            exact vk_getf hx hb hs2 hS hown (hts _ h3) (fun _ z => z) hdg (w H locs ls hP hS hL)
          · rename_i e1 e2
            dsimp only at e1 e2
            subst e1; subst e2
            cases h1
            exact vk_getf hx hb hs1 hS hown (hts _ h3) (fun _ z => z) hdg (w H locs ls hP hS hL)
          · exact w.elim
        · exact w.elim
      · split at w
        · rename_i h z hh hz
          obtain ⟨ci, fk, b⟩ := z
          obtain ⟨C, T, N, ty, h1, h2, h3, h4, -⟩ := hfld k ci fk b hz
          have he := mWs_get (ad := ad) (cy := cy) (M := M) hh
          split at w
          · rename_i h5 h6
            obtain ⟨kd, sz, rs⟩ := h
            obtain rfl : kd = ci + 5 := by simpa using h5
            exact va_get hx hb hts h4 hown hK hP q he h1 fk h2 (hts _ h3) (fun _ z => z) (by rw [mFld_int (ad := ad) (f := M q) (k := 0) h6, Nat.zero_add]; rfl) hdg (w H locs ls hP hS hL)
          · rename_i c2 h5 h6
            obtain ⟨kd, sz, rs⟩ := h
            obtain rfl : kd = ci + 5 := by simpa using h5
            exact va_get hx hb hts h4 hown hK hP q he h1 fk h2 (hts _ h3) (fun _ z => z) (mFld_ref (ad := ad) (f := M q) (k := 0) h6) hdg (w H locs ls hP hS hL)
          · exact w.elim
        · exact w.elim
    · exact w.elim
  case putfield k =>
    simp only [mAux, decide_eq_true_eq] at haux
    subst haux
    simp only [mOp, mPut] at w
    split at w
    · rename_i x q r
      split at w
      · rename_i h z hh hz
        obtain ⟨ci, fk, b⟩ := z
        obtain ⟨C, T, N, ty, h1, h2, h3, h4, h5, h6, h7, h8, h9, h10⟩ := hfld k ci fk b hz
        have he := mWs_get (ad := ad) (cy := cy) (M := M) hh
        split at w
        · rename_i h11 h12
          obtain ⟨kd, sz, rs⟩ := h
          obtain rfl : kd = ci + 5 := by simpa using h11
          have hset : ∀ H1 : Heap, va_P D vwCl ((mWs ad cy SH M).set q (ad q, .inr (ci, (mFld ad (M q) 0 rs).set fk (.int x)))) H1 → va_P D vwCl (mWs ad cy SH (mW1 M q fk x)) H1 := by
            intro H1 h
            rw [mFld_set h12, Nat.zero_add] at h
            rw [mW1, ← mWs_set hh]
            exact h
          have hlen : fk < (mFld ad (M q) 0 rs).length := by rw [mFld_len]; exact (List.getElem?_eq_some_iff.mp h12).1
          split at w
          · rename_i hb0
            dsimp only at hb0
            subst hb0
            exact va_put hx hb hts h4 ty h5 h6 hown hK hP (hD M) hS q he h1 fk h2 (hts _ h3) (fun _ z => z) (h7.resolve_left (by decide)) (h5 fk h2) (ty := ty fk) (by rw [h8 rfl]; rfl) (by rw [h8 rfl]; rfl) hlen hdg (fun H1 locs1 hP1 _ hS1 => w H1 locs1 ls (hset H1 hP1) hS1 hL)
          · rename_i hb0
            dsimp only at hb0
            subst hb0
            refine va_put hx hb hts h4 ty h5 h6 hown hK hP (hD M) hS q he h1 fk h2 (hts _ h3) (fun _ z => z) (h7.resolve_left (by decide)) (h5 fk h2) (ty := ty fk) ?_ ?_ hlen hdg (fun H1 locs1 hP1 _ hS1 => w.2 H1 locs1 ls (hset H1 hP1) hS1 hL)
            · rw [h9 rfl]
              rcases w.1 with rfl | rfl <;> rfl
            · rw [h9 rfl]
              rcases w.1 with rfl | rfl <;> rfl
          · rename_i hb0
            dsimp only at hb0
            subst hb0
            refine va_put hx hb hts h4 ty h5 h6 hown hK hP (hD M) hS q he h1 fk h2 (hts _ h3) (fun _ z => z) (h7.resolve_left (by decide)) (h5 fk h2) (ty := ty fk) ?_ ?_ hlen hdg (fun H1 locs1 hP1 _ hS1 => w.2 H1 locs1 ls (hset H1 hP1) hS1 hL)
            · rw [h10 rfl, ← w.1]
              exact pk_nb x
            · rw [h10 rfl, ← w.1]
              exact pk_fb x
          · exact w.elim
        · exact w.elim
      · exact w.elim
    · exact w.elim
  case iaload =>
    simp only [mAux, decide_eq_true_eq] at haux
    subst haux
    simp only [mOp] at w
    split at w
    · simp only [mArr] at w
      split at w
      · rename_i i q r
        split at w
        · rename_i h hh
          have he := mWs_get (ad := ad) (cy := cy) (M := M) hh
          split at w
          · rename_i h5
            obtain ⟨kd, sz, rs⟩ := h
            obtain rfl : kd = 0 := by simpa using h5
            exact va_iald hx hb hK hP q 0 he rfl w.1 hdg (w.2 H locs ls hP hS hL)
          · exact w.elim
        · exact w.elim
      · exact w.elim
    · simp only [mArrX] at w
      split at w
      · rename_i i q r
        obtain ⟨sz, rs, hh, w1, w2⟩ := w
        have he := mWs_get (ad := ad) (cy := cy) (M := M) hh
        exact va_iald hx hb hK hP q 0 he rfl w1 hdg (w2 H locs ls hP hS hL)
      · exact w.elim
  case baload =>
    simp only [mAux, decide_eq_true_eq] at haux
    subst haux
    simp only [mOp, mBal] at w
    split at w
    · rename_i i q r
      split at w
      · rename_i lst hro
        exact va_tb hx hb (hstr.arr hro) hS w.1 rfl hdg (w.2 H locs ls hP hS hL)
      · split at w
        · rename_i h hh
          have he := mWs_get (ad := ad) (cy := cy) (M := M) hh
          split at w
          · rename_i h5
            obtain ⟨kd, sz, rs⟩ := h
            obtain rfl : kd = 3 := by simpa using h5
            exact va_bald hx hb hK hP q 3 he rfl w.1 hdg (w.2 H locs ls hP hS hL)
          · exact w.elim
        · exact w.elim
    · exact w.elim
  case iastore =>
    simp only [mAux, decide_eq_true_eq] at haux
    subst haux
    simp only [mOp] at w
    split at w
    · simp only [mArs] at w
      split at w
      · rename_i x i q r
        split at w
        · rename_i h hh
          have he := mWs_get (ad := ad) (cy := cy) (M := M) hh
          split at w
          · rename_i h5
            obtain ⟨kd, sz, rs⟩ := h
            obtain rfl : kd = 0 := by simpa using h5
            exact va_iast hx hb hK hP (hD M) hS q 0 he rfl w.1 hdg (fun H1 locs1 hP1 _ hS1 => w.2 H1 locs1 ls (by rw [mW1, ← mWs_set hh]; exact hP1) hS1 hL)
          · exact w.elim
        · exact w.elim
      · exact w.elim
    · simp only [mArsX] at w
      split at w
      · rename_i x i q r
        obtain ⟨sz, rs, hh, w1, w2⟩ := w
        have he := mWs_get (ad := ad) (cy := cy) (M := M) hh
        exact va_iast hx hb hK hP (hD M) hS q 0 he rfl w1 hdg (fun H1 locs1 hP1 _ hS1 => w2 H1 locs1 ls (by rw [mW1, ← mWs_set hh]; exact hP1) hS1 hL)
      · exact w.elim
  case bastore =>
    simp only [mAux, decide_eq_true_eq] at haux
    subst haux
    simp only [mOp, mArs] at w
    split at w
    · rename_i x i q r
      split at w
      · rename_i h hh
        have he := mWs_get (ad := ad) (cy := cy) (M := M) hh
        split at w
        · rename_i h5
          obtain ⟨kd, sz, rs⟩ := h
          obtain rfl : kd = 3 := by simpa using h5
          exact va_bast hx hb hK hP (hD M) hS q 3 he rfl w.1 hdg (fun H1 locs1 hP1 _ hS1 => w.2 H1 locs1 ls (by rw [mW1, ← mWs_set hh]; exact hP1) hS1 hL)
        · exact w.elim
      · exact w.elim
    · exact w.elim
  case aaload =>
    simp only [mAux, decide_eq_true_eq] at haux
    subst haux
    simp only [mOp] at w
    split at w
    · simp only [mArq] at w
      split at w
      · rename_i i q r
        split at w
        · rename_i h hh
          have he := mWs_get (ad := ad) (cy := cy) (M := M) hh
          split at w
          · rename_i h5
            obtain ⟨kd, sz, rs⟩ := h
            obtain rfl : kd = 1 := h5
            exact mAald hx hb hK hP q 1 he rfl (by rfl) w.1 hdg (w.2 H locs ls hP hS hL)
          · rename_i h5
            obtain ⟨kd, sz, rs⟩ := h
            obtain rfl : kd = 2 := h5
            exact mAald hx hb hK hP q 2 he rfl (by rfl) w.1 hdg (w.2 H locs ls hP hS hL)
          · exact w.elim
        · exact w.elim
      · exact w.elim
    · simp only [mArqX] at w
      split at w
      · rename_i i q r
        obtain ⟨sz, k, c2, rs, hh, rfl, h1, h2, h3, w2⟩ := w
        have he := mWs_get (ad := ad) (cy := cy) (M := M) hh
        refine mAald hx hb hK hP q 1 he rfl (by rfl) (vp_in_nI h1 h2) hdg ?_
        dsimp only
        rw [nI_clamp (by omega), h3]
        exact w2 H locs ls hP hS hL
      · exact w.elim
  case arraylength =>
    simp only [mAux, decide_eq_true_eq] at haux
    subst haux
    simp only [mOp] at w
    split at w
    · simp only [mLen] at w
      split at w
      · rename_i q r
        split at w
        · rename_i lst hro
          exact va_tlen hx hb (hstr.arr hro) hS rfl hdg (w H locs ls hP hS hL)
        · split at w
          · rename_i h hh
            have he := mWs_get (ad := ad) (cy := cy) (M := M) hh
            split at w
            · rename_i h5
              obtain ⟨kd, sz, rs⟩ := h
              have h6 : kd < 4 := by simpa using h5
              obtain rfl | rfl | rfl | rfl : kd = 0 ∨ kd = 1 ∨ kd = 2 ∨ kd = 3 := by omega
              · exact va_alen hx hb hK hP q 0 he rfl rfl hdg (w H locs ls hP hS hL)
              · exact va_alen hx hb hK hP q 1 he rfl rfl hdg (w H locs ls hP hS hL)
              · exact va_alen hx hb hK hP q 2 he rfl rfl hdg (w H locs ls hP hS hL)
              · exact va_alen hx hb hK hP q 3 he rfl rfl hdg (w H locs ls hP hS hL)
            · exact w.elim
          · exact w.elim
      · exact w.elim
    · simp only [mLenX] at w
      split at w
      · rename_i q r
        obtain ⟨sz, rs, -, hh, w2⟩ := w
        have he := mWs_get (ad := ad) (cy := cy) (M := M) hh
        exact va_alen hx hb hK hP q 0 he rfl rfl hdg (w2 H locs ls hP hS hL)
      · exact w.elim
  case ifCond k o =>
    simp only [mAux, Bool.and_eq_true, decide_eq_true_eq] at haux
    obtain ⟨h1, rfl⟩ := haux
    cases k <;> simp only [mOp, mIf1] at w <;> split at w
    all_goals first
      | exact w.elim
      | exact lv_if_eq hx hb hdg h1 (fun z => w.1 z H locs ls hP hS hL) (fun z => w.2 z H locs ls hP hS hL)
      | exact lv_if_ne hx hb hdg h1 (fun z => w.1 z H locs ls hP hS hL) (fun z => w.2 (fun y => y z) H locs ls hP hS hL)
      | exact lv_if_lt hx hb hdg h1 (fun z => w.1 z H locs ls hP hS hL) (fun z => w.2 z H locs ls hP hS hL)
      | exact lv_if_ge hx hb hdg h1 (fun z => w.1 z H locs ls hP hS hL) (fun z => w.2 z H locs ls hP hS hL)
      | exact lv_if_gt hx hb hdg h1 (fun z => w.1 z H locs ls hP hS hL) (fun z => w.2 z H locs ls hP hS hL)
      | exact lv_if_le hx hb hdg h1 (fun z => w.1 z H locs ls hP hS hL) (fun z => w.2 z H locs ls hP hS hL)
  case if_icmp k o =>
    simp only [mAux, Bool.and_eq_true, decide_eq_true_eq] at haux
    obtain ⟨h1, rfl⟩ := haux
    cases k <;> simp only [mOp, mIf2] at w <;> split at w
    all_goals first
      | exact w.elim
      | exact lv_icmp_eq hx hb hdg h1 (fun z => w.1 z H locs ls hP hS hL) (fun z => w.2 z H locs ls hP hS hL)
      | exact lv_icmp_ne hx hb hdg h1 (fun z => w.1 z H locs ls hP hS hL) (fun z => w.2 (fun y => y z) H locs ls hP hS hL)
      | exact lv_icmp_lt hx hb hdg h1 (fun z => w.1 z H locs ls hP hS hL) (fun z => w.2 z H locs ls hP hS hL)
      | exact lv_icmp_ge hx hb hdg h1 (fun z => w.1 z H locs ls hP hS hL) (fun z => w.2 z H locs ls hP hS hL)
      | exact lv_icmp_gt hx hb hdg h1 (fun z => w.1 z H locs ls hP hS hL) (fun z => w.2 z H locs ls hP hS hL)
      | exact lv_icmp_le hx hb hdg h1 (fun z => w.1 z H locs ls hP hS hL) (fun z => w.2 z H locs ls hP hS hL)
  case goto o =>
    simp only [mAux, Bool.and_eq_true, decide_eq_true_eq] at haux
    obtain ⟨h1, rfl⟩ := haux
    exact lv_goto hx hb hdg h1 (w H locs ls hP hS hL)
  case ifnull o =>
    simp only [mAux, Bool.and_eq_true, decide_eq_true_eq] at haux
    obtain ⟨h1, rfl⟩ := haux
    simp only [mOp, mNul] at w
    split at w
    · exact lv_ifnullN hx hb hdg h1 (w H locs ls hP hS hL)
    · exact lv_ifnull hx hb hdg (w H locs ls hP hS hL)
    · exact w.elim
  case ifnonnull o =>
    simp only [mAux, Bool.and_eq_true, decide_eq_true_eq] at haux
    obtain ⟨h1, rfl⟩ := haux
    simp only [mOp, mNul] at w
    split at w
    · exact lv_ifnonnullN hx hb hdg (w H locs ls hP hS hL)
    · exact lv_ifnonnull hx hb hdg h1 (w H locs ls hP hS hL)
    · exact w.elim
  case tableswitch d lo hi os =>
    simp only [mAux, Bool.and_eq_true, decide_eq_true_eq] at haux
    obtain ⟨⟨h1, h2⟩, h3⟩ := haux
    simp only [mOp] at w
    split at w
    · rename_i x r
      rcases mTabs_sw h3 w with ⟨o, t, k, k1, k2, k3, k4⟩ | ⟨k1, k2⟩
      · have hk : k < os.toList.length := (List.getElem?_eq_some_iff.mp k1).1
        exact lv_tableIn hx hb hdg (by omega) (by omega) (off := o) (tgt := t) (by rw [show (x.toInt - lo).toNat = k by omega, ← Array.getElem?_toList]; exact k1) k3 (k4 H locs ls hP hS hL)
      · exact lv_tableOut hx hb hdg (by omega) h1 (k2 H locs ls hP hS hL)
    · exact w.elim
  case lookupswitch d ps =>
    simp only [mAux, Bool.and_eq_true, decide_eq_true_eq] at haux
    obtain ⟨⟨h1, h2⟩, h3⟩ := haux
    simp only [mOp] at w
    split at w
    · rename_i x r
      obtain ⟨t, k1, k2⟩ := mLks_sw h1 h3 w
      exact lv_lookup hx hb hdg h2 rfl k1 (k2 H locs ls hP hS hL)
    · exact w.elim
  case invokevirtual k =>
    simp only [mAux, decide_eq_true_eq] at haux
    subst haux
    simp only [mOp, mCal] at w
    split at w
    · rename_i q hq
      split at w
      · rename_i hlen
        simp only [Bool.and_eq_true, Nat.ble_eq] at hlen
        have e : (((S.take q.1).reverse).reverse ++ S.drop q.1) = S := by rw [List.reverse_reverse, List.take_append_drop]
        have := hcal (3 * k) q.1 q.2 hq pc H locs ls M ((S.take q.1).reverse) (S.drop q.1) _ (by rw [mIns_v]; exact hdg) hP hS hL.1 (by simp; omega) (by simp; omega) w (fun r M' H' locs' hP' hS' hw => hw H' locs' ls hP' hS' hL)
        rw [e] at this
        exact this
      · exact w.elim
    · exact w.elim
  case invokestatic k =>
    simp only [mAux, decide_eq_true_eq] at haux
    subst haux
    simp only [mOp, mCal] at w
    split at w
    · rename_i q hq
      split at w
      · rename_i hlen
        simp only [Bool.and_eq_true, Nat.ble_eq] at hlen
        have e : (((S.take q.1).reverse).reverse ++ S.drop q.1) = S := by rw [List.reverse_reverse, List.take_append_drop]
        have := hcal (3 * k + 1) q.1 q.2 hq pc H locs ls M ((S.take q.1).reverse) (S.drop q.1) _ (by rw [mIns_s]; exact hdg) hP hS hL.1 (by simp; omega) (by simp; omega) w (fun r M' H' locs' hP' hS' hw => hw H' locs' ls hP' hS' hL)
        rw [e] at this
        exact this
      · exact w.elim
    · exact w.elim
  case invokespecial k =>
    simp only [mAux, decide_eq_true_eq] at haux
    subst haux
    simp only [mOp, mCal] at w
    split at w
    · rename_i q hq
      split at w
      · rename_i hlen
        simp only [Bool.and_eq_true, Nat.ble_eq] at hlen
        have e : (((S.take q.1).reverse).reverse ++ S.drop q.1) = S := by rw [List.reverse_reverse, List.take_append_drop]
        have := hcal (3 * k + 2) q.1 q.2 hq pc H locs ls M ((S.take q.1).reverse) (S.drop q.1) _ (by rw [mIns_p]; exact hdg) hP hS hL.1 (by simp; omega) (by simp; omega) w (fun r M' H' locs' hP' hS' hw => hw H' locs' ls hP' hS' hL)
        rw [e] at this
        exact this
      · exact w.elim
    · exact w.elim
  case ireturn =>
    simp only [mAux, decide_eq_true_eq] at haux
    subst haux
    simp only [mOp, mEnd] at w
    split at w
    · rename_i y
      generalize hret : F.2.2.2.2.2 = ret at w hr
      split at w
      · exact W.zret hx hb hr rfl (fun t ht hW => hend _ M H locs w hP hS t ht hW) hS.2.2 hdg
      · exact W.zret hx hb hr (by rcases w.1 with rfl | rfl <;> decide) (fun t ht hW => hend _ M H locs w.2 hP hS t ht hW) hS.2.2 hdg
      · exact W.zret hx hb hr (by have := pk_nc y; rw [w.1] at this; exact this) (fun t ht hW => hend _ M H locs w.2 hP hS t ht hW) hS.2.2 hdg
      · exact W.zret hx hb hr (by have := pk_nb y; rw [w.1] at this; exact this) (fun t ht hW => hend _ M H locs w.2 hP hS t ht hW) hS.2.2 hdg
      · exact w.elim
    · exact w.elim
  case areturn =>
    simp only [mAux, decide_eq_true_eq] at haux
    subst haux
    simp only [mOp, mEndA] at w
    split at w
    · rename_i y
      have hy : va_rf (y.map ad) = .null ∨ ∃ a, va_rf (y.map ad) = .ref a := by
        cases y with
        | none => exact Or.inl rfl
        | some z => exact Or.inr ⟨_, rfl⟩
      generalize hret : F.2.2.2.2.2 = ret at w hr
      split at w
      · rename_i n
        exact W.aret hx hb hr (Or.inl ⟨n, rfl⟩) hy (fun t ht hW => hend _ M H locs w hP hS t ht hW) hS.2.2 hdg
      · rename_i n
        exact W.aret hx hb hr (Or.inr ⟨n, rfl⟩) hy (fun t ht hW => hend _ M H locs w hP hS t ht hW) hS.2.2 hdg
      · exact w.elim
    · exact w.elim
  case return_ =>
    simp only [mAux, decide_eq_true_eq] at haux
    subst haux
    simp only [mOp, mEndV] at w
    split at w
    · generalize hret : F.2.2.2.2.2 = ret at w hr
      split at w
      · exact W.vret hx hb hr (fun t ht hW => hend none M H locs w hP hS t ht hW) hS.2.2 hdg
      · exact w.elim
    · exact w.elim
  all_goals exact (show False from w).elim
end MSIM
end
section
/-! ===== CONTRACTS OF THE SMALL MACHINE'S METHODS ===== -/
/-- the cells of the world: the class's (0 TrickHouse; 1 Tape; 3, 8 ActLogs; 13, 26 Tables, each with Bids, Play, Scores behind it; 39 the sheets, 40 .. 46; 48 the line), the reference's (50, its rows 51 .. 90) -/
def mSH : List mH := [
  (14, 0, [some 1, some 3, some 8, some 13, some 26, some 39, some 48, none]),
  (13, 0, [some 2, none, none, none, none, none, none]),
  (0, 40, []),
  (7, 0, [some 4, some 5, some 6, some 7, none]),
  (0, 90, []),
  (0, 90, []),
  (0, 90, []),
  (0, 90, []),
  (7, 0, [some 9, some 10, some 11, some 12, none]),
  (0, 90, []),
  (0, 90, []),
  (0, 90, []),
  (0, 90, []),
  (12, 0, [some 14, some 16, some 24, none, none, none, none]),
  (8, 0, [some 15, none, none, none, none, none, none, none]),
  (0, 10, []),
  (9, 0, [some 17, some 18, some 19, some 20, some 21, some 22, some 23, none, none, none, none, none]),
  (0, 32, []),
  (0, 4, []),
  (0, 4, []),
  (0, 32, []),
  (0, 8, []),
  (0, 8, []),
  (0, 2, []),
  (10, 0, [some 25, none, none, none, none, none]),
  (0, 12, []),
  (12, 0, [some 27, some 29, some 37, none, none, none, none]),
  (8, 0, [some 28, none, none, none, none, none, none, none]),
  (0, 10, []),
  (9, 0, [some 30, some 31, some 32, some 33, some 34, some 35, some 36, none, none, none, none, none]),
  (0, 32, []),
  (0, 4, []),
  (0, 4, []),
  (0, 32, []),
  (0, 8, []),
  (0, 8, []),
  (0, 2, []),
  (10, 0, [some 38, none, none, none, none, none]),
  (0, 12, []),
  (2, 4, [some 40, some 42, some 44, some 46]),
  (11, 0, [some 41, none, none]),
  (0, 40, []),
  (11, 0, [some 43, none, none]),
  (0, 40, []),
  (11, 0, [some 45, none, none]),
  (0, 40, []),
  (11, 0, [some 47, none, none]),
  (0, 40, []),
  (6, 0, [some 49, none, none, none]),
  (3, 16, []),
  (15, 0, [none, some 51, some 52, some 53, some 54, none, none, none, none, none, none, none, none, none, none, none, some 55, some 58, some 59, none, some 60, some 61, some 62, some 63, some 64, some 73, none, none, none, none, none, some 76, some 77, none, none, none, none, none, none, none, none, none, some 78, some 83, some 84, some 85, some 90]),
  (0, 90, []),
  (0, 90, []),
  (0, 90, []),
  (0, 90, []),
  (1, 2, [some 56, some 57]),
  (0, 5, []),
  (0, 5, []),
  (0, 4, []),
  (0, 4, []),
  (0, 8, []),
  (0, 8, []),
  (0, 8, []),
  (0, 2, []),
  (1, 8, [some 65, some 66, some 67, some 68, some 69, some 70, some 71, some 72]),
  (0, 4, []),
  (0, 4, []),
  (0, 4, []),
  (0, 4, []),
  (0, 4, []),
  (0, 4, []),
  (0, 4, []),
  (0, 4, []),
  (1, 2, [some 74, some 75]),
  (0, 6, []),
  (0, 6, []),
  (0, 32, []),
  (0, 40, []),
  (1, 4, [some 79, some 80, some 81, some 82]),
  (0, 90, []),
  (0, 90, []),
  (0, 90, []),
  (0, 90, []),
  (0, 4, []),
  (0, 4, []),
  (1, 4, [some 86, some 87, some 88, some 89]),
  (0, 40, []),
  (0, 40, []),
  (0, 40, []),
  (0, 40, []),
  (0, 40, [])]
def mNest : Cond → Bool
  | .methodLinkNest .. => true
  | _ => false
def mWd (y : MethodName) (bytes : ByteArray) (maxL : Nat) (ret : Option FieldType) : List Cond := .code y bytes maxL ret :: mGW
def mRm (d : Nat) : Room := { frames := d, cells := 0, slots := 0, locals := 48 * d }
def mRf (ad : Nat → Nat) (U : State) : Prop := ∀ q ∈ ([("TrickHouse", 326, "deal", 0), ("TrickHouse", 328, "bid", 1), ("TrickHouse", 330, "pass", 2), ("TrickHouse", 332, "double", 3), ("TrickHouse", 334, "redouble", 4), ("TrickHouse", 336, "play", 5), ("TrickHouse", 337, "claim", 6), ("TrickHouse", 339, "rank", 7), ("TrickHouse", 341, "rule", 8), ("TrickHouse", 343, "", 9), ("TrickHouseModel", 267, "c", 10), ("TrickHouseModel", 269, "d", 11), ("TrickHouseModel", 271, "h", 12), ("TrickHouseModel", 273, "s", 13), ("TrickHouseModel", 275, "n", 14), ("TrickHouseModel", 243, "deal", 0), ("TrickHouseModel", 245, "bid", 1), ("TrickHouseModel", 246, "pass", 2), ("TrickHouseModel", 248, "double", 3), ("TrickHouseModel", 250, "redouble", 4), ("TrickHouseModel", 252, "play", 5), ("TrickHouseModel", 254, "claim", 6), ("TrickHouseModel", 256, "rank", 7), ("TrickHouseModel", 258, "rule", 8), ("TrickHouseModel", 326, "cdhsn", 15), ("TrickHouseModel", 335, " ", 16)] : List (String × Nat × String × Nat)), vk_R q.1 q.2.1 q.2.2.1 (ad (1000 + q.2.2.2)) U
def mZs (ad : Nat → Nat) (o : Option Nat) (A : Nat → Prop) (U : State) (H : Heap) : Prop :=
  va_Z "java/lang/String" "COMPACT_STRINGS" "Z" (.int 1) A U H ∧ va_Z "java/lang/Integer" "DigitTens" "[B" (.ref (ad 1200)) A U H ∧ va_Z "java/lang/Integer" "DigitOnes" "[B" (.ref (ad 1201)) A U H ∧
  va_Z "jdk/internal/util/Preconditions" "SIOOBE_FORMATTER" "Ljava/util/function/BiFunction;" (va_rf (o.map ad)) A U H
/-- where things stand: addresses, class tables, array classes, the formatter, shapes of cells beyond the 91 -/
abbrev mG : Type := (Nat → Nat) × va_G × (Nat → ClassId) × Option Nat × List mH
def mSx (g : mG) : List mH := mSH ++ g.2.2.2.2
/-- what every method needs of the state -/
def mEnv (g : mG) (A : Nat → Prop) (U : State) (H : Heap) : Prop :=
  va_K g.2.1 vwCl (mTys g.2.2.1) U ∧ (∀ w ∈ lw_tbl, mNest w = true → va_Nw w U) ∧ mRf g.1 U ∧ mStr g.1 A U H ∧ mZs g.1 g.2.2.2.1 A U H
theorem mEnv.warm {g : mG} {A : Nat → Prop} {s U : State} {H : Heap} (hW : s.WarmedH U.vm) (h : mEnv g A s H) : mEnv g A U H := by
  obtain ⟨h1, h2, h3, h4, h5, h6, h7, h8⟩ := h
  refine ⟨va_K.moved hW.alike h1, fun w hw hn => ?_, fun q hq => vk_R.warm hW (h3 q hq), mStr.moved hW.alike h4, va_Z.moved hW.alike h5, va_Z.moved hW.alike h6, va_Z.moved hW.alike h7, va_Z.moved hW.alike h8⟩
  cases w <;> first | (simp [mNest] at hn; done) | exact va_Nw.warmM hW (h2 _ hw hn)
theorem mEnv.kept {g : mG} {A : Nat → Prop} {U : State} {H H1 : Heap} (h : mEnv g A U H) (hq : ∀ a : Nat, a < H.size → ¬ A a → H1[a]? = H[a]?) : mEnv g A U H1 := by
  obtain ⟨h1, h2, h3, h4, h5, h6, h7, h8⟩ := h
  exact ⟨h1, h2, h3, h4.kept hq, h5.kept hq, h6.kept hq, h7.kept hq, h8.kept hq⟩
theorem mEnv.narrow {g : mG} {A B : Nat → Prop} {U : State} {H : Heap} (h : mEnv g A U H) (hAB : ∀ q, B q → A q) : mEnv g B U H := by
  obtain ⟨h1, h2, h3, h4, h5, h6, h7, h8⟩ := h
  exact ⟨h1, h2, h3, h4.narrow hAB, h5.narrow hAB, h6.narrow hAB, h7.narrow hAB, h8.narrow hAB⟩
theorem mEnv.same {g : mG} {A : Nat → Prop} {u U : State} {H : Heap} (hv : u.vm = U.vm) (h : mEnv g A u H) : mEnv g A U H := by
  obtain ⟨h1, h2, h3, h4, h5, h6, h7, h8⟩ := h
  have ha : u.vm.Alike U.vm := by rw [hv]; exact Vm.Alike.refl _
  refine ⟨va_K.moved ha h1, fun w hw hn => ?_, fun q hq => vk_R.same hv.symm (h3 q hq), mStr.moved ha h4, va_Z.moved ha h5, va_Z.moved ha h6, va_Z.moved ha h7, va_Z.moved ha h8⟩
  cases w <;> first | (simp [mNest] at hn; done) | exact va_Nw.same rfl hv (h2 _ hw hn)
/-- the addresses that a method may write: its cells, and what is new -/
def mA (g : mG) (sz : Nat) : Nat → Prop := fun q => (∃ c, c < (mSx g).length ∧ g.1 c = q) ∨ sz ≤ q
def mB (g : mG) (sz : Nat) (M : mM) : State → Prop := fun U => U.heap.size = sz ∧ va_P g.2.1 vwCl (mWs g.1 g.2.2.1 (mSx g) M) U.heap ∧ va_D (fun _ => True) (mWs g.1 g.2.2.1 (mSx g) M) ∧ mEnv g (mA g sz) U U.heap
def mQ (g : mG) (P : mP) (A : Nat → Prop) : Array Value → State → Outcome → State → Prop := fun _ st oc t => (∃ (r : Option mV) (M' : mM), oc = .returned (r.map (mval g.1)) ∧ P r M' ∧ va_P g.2.1 vwCl (mWs g.1 g.2.2.1 (mSx g) M') t.heap) ∧ va_F A st t
/-- method y meets, at room level d, what T says of it -/
def mOK (y : MethodName) (bytes : ByteArray) (maxL : Nat) (ret : Option FieldType) (d : Nat) (T : mG → mT) : Prop :=
  ∀ (l : Launch) (g : mG) (sz : Nat) (as : List mV) (M : mM) (P : mP), T g as M P → Met l y (mWd y bytes maxL ret) (mRm d) (va_Pc (as.map (mval g.1)) (mB g sz M)) (mQ g P (mA g sz)) 0 0 (mA g sz)
theorem mB_blind {g : mG} {sz : Nat} {M : mM} {av : List Value} : FrameBlind (va_Pc av (mB g sz M)) := by
  intro a U gf mk h
  obtain ⟨h1, h2, h3, h4, h5⟩ := h
  exact ⟨h1, h2, h3, h4, mEnv.same (u := U) (U := U.calling gf mk a) rfl h5⟩
theorem mDself {g : mG} {M M' : mM} {sz : Nat} (h : va_D (fun _ => True) (mWs g.1 g.2.2.1 (mSx g) M)) : va_D (mA g sz) (mWs g.1 g.2.2.1 (mSx g) M') :=
  (mWs_D h M').weaken (fun k q hk _ => Or.inl ⟨k, (mWs_at hk).1, (mWs_at hk).2.symm⟩)
/-- a call's site, in class own at room level d -/
def mSite (own : String) (d key n : Nat) (T : mG → mT) : Prop :=
  ∀ {p : Program} {l : Launch} {e : Env} {s : State} {m : MethodId} {args : Array Value} {below : List Frame} {meth : Method} {c : Code} {Q : State → Prop} {cc : ByteArray} {nL : Nat} (g : mG), p.tables.exec = Jvm.exec → c.code = cc → c.maxLocals = nL → s.vm.findClass own = some m.cls → (∀ w ∈ mGW, w.before args s = true) → va_D (mA g s.heap.size) (mWs g.1 g.2.2.1 (mSx g) (fun _ _ => 0)) → mEnv g (mA g s.heap.size) s s.heap →
    mCallOK p l e (mRm d) s m args below meth c 0 0 Q g.2.1 (mA g s.heap.size) g.1 g.2.2.1 (mSx g) nL cc key n (T g)
end
section
theorem mRun_sim {p : Program} {l : Launch} {e : Env} {R : Room} {s : State} {m : MethodId} {args : Array Value} {below : List Frame} {meth : Method} {c : Code} {cells slots : Nat} {cc : ByteArray} {D : va_G} {A : Nat → Prop} {ad : Nat → Nat} {cy : Nat → ClassId} {SH : List mH} {own : String} {Ts : List Cond} {nL : Nat} {F : mF} {P : mP}
    {Qc : Array Value → State → Outcome → State → Prop} (hx : p.tables.exec = Jvm.exec) (hb : c.code = cc) (hml : c.maxLocals = nL) (hr : meth.sig.returnType = F.2.2.2.2.2) (hlk : meth.locks = false) (hts : ∀ w ∈ Ts, w.before args s = true) (hown : s.vm.findClass own = some m.cls)
    (hK : va_K D vwCl (mTys cy) s) (hD : ∀ M, va_D A (mWs ad cy SH M)) (hfld : mFldOK own F Ts) (hcst : mCstOK own F ad args s) (hsta : mStaOK own F ad A s Ts) (hstr : mStr ad A s s.heap) (hcal : mCalOK p l e R s m args below meth c cells slots (MQ below Qc args s cells slots A) D A ad cy SH nL cc F) (hend : mEndOK s args D A ad cy SH P Qc)
    (hcode : ∀ (pc : Nat) (x : mI), F.1 pc = some x → mChk cc pc x = true) {σ : mS} (h : mRun SH F P σ) : mX p l e R s m args below meth c cells slots (MQ below Qc args s cells slots A) D A ad cy SH nL σ := by
  refine h _ (fun σ' w => ?_)
  unfold mWp at w
  split at w
  · exact w.elim
  · rename_i x hx2
    have hc := hcode _ _ hx2
    unfold mChk at hc
    simp only [Bool.and_eq_true, decide_eq_true_eq] at hc
    exact mOp_sim hx hb hml hr hlk hts hown hK hD hfld hcst hsta hstr hcal hend hc.1 hc.2 w
/-- constants by their words -/
def mCstT (own : String) (F : mG → mF) : Prop := ∀ (g : mG) (idx : Nat) (v : mV), (F g).2.2.2.1 idx = some v → (∃ x, v = .inl x ∧ Cond.constant own idx x ∈ mGW) ∨ (∃ (i : Nat) (tx : String), v = .inr (some (1000 + i)) ∧ ((own, idx, tx, i) : String × Nat × String × Nat) ∈ ([("TrickHouse", 326, "deal", 0), ("TrickHouse", 328, "bid", 1), ("TrickHouse", 330, "pass", 2), ("TrickHouse", 332, "double", 3), ("TrickHouse", 334, "redouble", 4), ("TrickHouse", 336, "play", 5), ("TrickHouse", 337, "claim", 6), ("TrickHouse", 339, "rank", 7), ("TrickHouse", 341, "rule", 8), ("TrickHouse", 343, "", 9), ("TrickHouseModel", 267, "c", 10), ("TrickHouseModel", 269, "d", 11), ("TrickHouseModel", 271, "h", 12), ("TrickHouseModel", 273, "s", 13), ("TrickHouseModel", 275, "n", 14), ("TrickHouseModel", 243, "deal", 0), ("TrickHouseModel", 245, "bid", 1), ("TrickHouseModel", 246, "pass", 2), ("TrickHouseModel", 248, "double", 3), ("TrickHouseModel", 250, "redouble", 4), ("TrickHouseModel", 252, "play", 5), ("TrickHouseModel", 254, "claim", 6), ("TrickHouseModel", 256, "rank", 7), ("TrickHouseModel", 258, "rule", 8), ("TrickHouseModel", 326, "cdhsn", 15), ("TrickHouseModel", 335, " ", 16)] : List (String × Nat × String × Nat)))
/-- statics by their links -/
def mStaT (own : String) (F : mG → mF) : Prop := ∀ (g : mG) (idx : Nat) (v : mV), (F g).2.2.2.2.1 idx = some v →
  (v = .inl 1 ∧ Cond.fieldLink own idx "java/lang/String" "COMPACT_STRINGS" "Z" ∈ mGW) ∨ (v = .inr (some 1200) ∧ Cond.fieldLink own idx "java/lang/Integer" "DigitTens" "[B" ∈ mGW) ∨ (v = .inr (some 1201) ∧ Cond.fieldLink own idx "java/lang/Integer" "DigitOnes" "[B" ∈ mGW) ∨
  (v = .inr g.2.2.2.1 ∧ Cond.fieldLink own idx "jdk/internal/util/Preconditions" "SIOOBE_FORMATTER" "Ljava/util/function/BiFunction;" ∈ mGW)
set_option maxHeartbeats 1000000 in
/-- a method's contract out of the small machine's run of it -/
theorem mOK.of {y : MethodName} {bytes : ByteArray} {maxL : Nat} {ret : Option FieldType} {d : Nat} {T : mG → mT} (F : mG → mF) (hy : plainName y.cls = true) (hret : ∀ g, (F g).2.2.2.2.2 = ret) (hcode : ∀ (g : mG) (pc : Nat) (x : mI), (F g).1 pc = some x → mChk bytes pc x = true)
    (hfld : ∀ g, mFldOK y.cls (F g) mGW) (hcst : mCstT y.cls F) (hsta : mStaT y.cls F) (hcal : ∀ (g : mG) (key n : Nat) (T' : mT), (F g).2.2.1 key = some (n, T') → ∃ T2 : mG → mT, T' = T2 g ∧ mSite y.cls d key n T2)
    (hrun : ∀ (g : mG) (as : List mV) (M : mM) (P : mP), T g as M P → as.length ≤ maxL ∧ mRun (mSx g) (F g) P (0, as.map some ++ List.replicate (maxL - as.length) none, [], M)) : mOK y bytes maxL ret d T := by
  intro l g sz as M P hT
  obtain ⟨hlen, hrun⟩ := hrun g as M P hT
  refine Met.ofW (cc := bytes) (maxL := maxL) (ret := ret) hy rfl ?_
  intro p e s m args below meth c s₁ B hml hv
  obtain ⟨rfl, hsz, hP, hD, hE⟩ := hv
  have hx := B.exec
  have hb := B.bytes
  have hr := B.returns
  have hts := atoms_spec (ws := mWd y bytes maxL ret) B.pre
  have hown : s.vm.findClass y.cls = some m.cls := findClass_of_methodNamed B.named
  subst hsz
  have hts' : ∀ w ∈ mGW, w.before (as.map (mval g.1)).toArray s = true := fun w h => hts w (List.mem_cons_of_mem _ h)
  obtain ⟨ls, hls, hL⟩ := mLH.entry (ad := g.1) as (n := maxL) hlen
  have hDs : ∀ M' : mM, va_D (mA g s.heap.size) (mWs g.1 g.2.2.1 (mSx g) M') := fun M' => mDself hD
  have hsim := mRun_sim (p := p) (l := l) (e := e) (R := mRm d) (below := below) (cells := 0) (slots := 0) (Qc := mQ g P (mA g s.heap.size)) hx hb hml (hr.trans (hret g).symm) B.notSynchronized hts' hown hE.1 hDs (hfld g)
    (by
      intro idx v h
      rcases hcst g idx v h with ⟨x, h1, h2⟩ | ⟨i, tx, h1, h2⟩
      · exact Or.inl ⟨x, h1, hts' _ h2⟩
      · exact Or.inr ⟨1000 + i, tx, h1, hE.2.2.1 _ h2⟩)
    (by
      intro idx v h
      obtain ⟨-, -, -, -, z1, z2, z3, z4⟩ := hE
      rcases hsta g idx v h with ⟨rfl, h2⟩ | ⟨rfl, h2⟩ | ⟨rfl, h2⟩ | ⟨rfl, h2⟩
      · exact ⟨_, _, _, z1, h2⟩
      · exact ⟨_, _, _, z2, h2⟩
      · exact ⟨_, _, _, z3, h2⟩
      · exact ⟨_, _, _, z4, h2⟩)
    hE.2.2.2.1
    (by
      intro key n T' h
      obtain ⟨T2, rfl, h2⟩ := hcal g key n T' h
      exact h2 g hx hb hml hown hts' (hDs _) hE)
    (by
      intro r M' H locs hPr hP' hS' t ht hW
      exact ⟨⟨r, M', rfl, hPr, by rw [ht]; exact hP'⟩, hS'.F ht⟩)
    (hcode g) hrun
  have := hsim s.heap [] ls hP va_S.rf hL
  rw [lg_entry_eq, hls]
  exact this
theorem mRm_call {d d' maxL : Nat} (hd : d' < d) (hm : maxL ≤ 29) : (mRm d').frames + 1 ≤ (mRm d).frames ∧ 8 + (maxL + 11) + (mRm d').locals ≤ (mRm d).locals := by
  simp only [mRm]
  omega
theorem mGoodIn {y : MethodName} {bytes : ByteArray} {maxL : Nat} {ret : Option FieldType} (h : Cond.code y bytes maxL ret ∈ mGW) : GoodIn mGW (mWd y bytes maxL ret) := by
  intro w hw
  rcases List.mem_cons.mp hw with rfl | hw
  · exact ⟨h, Or.inl (by rfl)⟩
  · exact ⟨hw, (mGW_good w hw).2⟩
/-- behind a call: the world, and the rest of the walk -/
theorem mBack {p : Program} {l : Launch} {e : Env} {R : Room} {s : State} {m : MethodId} {args : Array Value} {below : List Frame} {meth : Method} {c : Code} {Q : State → Prop} {H : Heap} {locs : List Loc} {g : mG} {a : Array Value} {P : mP} {pc : Nat} {ls : Array Slot} {st0 : List Value} {rest : List mV}
    (hr : va_Run p l e R s m args below meth c H locs 0 0 0 0 (F0 m pc ls st0) (rest.map (mval g.1)) (mQ g P (mA g H.size) a) (mA g H.size)) (hS : va_S (mA g s.heap.size) s.heap H locs)
    (kk : ∀ (r : Option mV) (M' : mM) (H' : Heap) (locs' : List Loc), va_P g.2.1 vwCl (mWs g.1 g.2.2.1 (mSx g) M') H' → va_S (mA g s.heap.size) s.heap H' locs' → P r M' → W p l e R s m args below meth c H' locs' 0 0 Q (F0 m (pc + 3) ls ((mRes r rest).map (mval g.1)))) :
    W p l e R s m args below meth c H locs 0 0 Q (F0 m pc ls st0) := by
  intro T hT X
  obtain ⟨v, st₀, t, T', L, h0, X', hL, e1, e2, ⟨⟨r, M', hv, hp, hw⟩, hz, hk⟩, st⟩ := hr T hT X
  cases hv
  rw [h0] at hz hk
  have hA : ∀ q, q < H.size → mA g H.size q → mA g s.heap.size q := fun q hq h => by
    rcases h with h | h
    · exact Or.inl h
    · omega
  have hf : ∀ q, mA g H.size q → mA g s.heap.size q := fun q h => by
    rcases h with h | h
    · exact Or.inl h
    · exact Or.inr (Nat.le_trans hS.1 h)
  have hS' : va_S (mA g s.heap.size) s.heap T'.heap (locs ++ L) := ⟨Nat.le_trans hS.1 (by rw [e1]; exact hz), fun q h1 h2 => by rw [e1, hk q (Nat.lt_of_lt_of_le h1 hS.1) (fun z => h2 (hA q (Nat.lt_of_lt_of_le h1 hS.1) z))]; exact hS.2.1 q h1 h2, fun q hq => by
      rcases List.mem_append.mp hq with h | h
      · exact hS.2.2 q h
      · exact hf _ (hL q h)⟩
  obtain ⟨t2, a1, b1⟩ := kk r M' T'.heap (locs ++ L) (by rw [e1]; exact hw) hS' hp T' rfl X'
  refine ⟨t2, st t2 ?_, b1⟩
  have e3 : (r.map (mval g.1)).toList ++ rest.map (mval g.1) = (mRes r rest).map (mval g.1) := by cases r <;> rfl
  rw [e3]
  exact a1
/-- what a callee needs, of any state that the call makes -/
theorem mPre {s : State} {g : mG} {H : Heap} {locs : List Loc} {M : mM} (hD : va_D (mA g s.heap.size) (mWs g.1 g.2.2.1 (mSx g) (fun _ _ => 0))) (hE : mEnv g (mA g s.heap.size) s s.heap) (hP : va_P g.2.1 vwCl (mWs g.1 g.2.2.1 (mSx g) M) H) (hS : va_S (mA g s.heap.size) s.heap H locs) (U : State) (hU : U.heap = H) (hW : s.WarmedH U.vm) : mB g H.size M U := by
  refine ⟨by rw [hU], by rw [hU]; exact hP, (mWs_D hD M).weaken (fun _ _ _ _ => trivial), ?_⟩
  rw [hU]
  refine mEnv.warm hW ((hE.kept hS.2.1).narrow (fun q h => ?_))
  rcases h with h | h
  · exact Or.inl h
  · exact Or.inr (Nat.le_trans hS.1 h)
theorem mMonoT {T : mG → mT} (h : ∀ (g : mG) (a : List mV) (M : mM) (P Q : mP), (∀ r M', P r M' → Q r M') → T g a M P → T g a M Q) : True := trivial
end
section
/-- cell a is an object of class C, in the world or among the constants -/
def mIsA (SH : List mH) (C : String) (a : Nat) : Prop := (∃ (ci sz : Nat) (rs : List (Option Nat)) (q : vw_C), SH[a]? = some (ci + 5, sz, rs) ∧ vwCl[ci]? = some q ∧ q.1 = C) ∨ (C = "java/lang/String" ∧ mRoS a = true)
def mHasR (y : MethodName) (n : Nat) (T : mG → mT) : Prop := ∀ (g : mG) (as : List mV) (M : mM) (P : mP), T g as M P → as.length = n + 1 → ∃ (a : Nat) (rs : List mV), as = .inr (some a) :: rs ∧ mIsA (mSx g) y.cls a
theorem mIsA.recv {s : State} {H : Heap} {locs : List Loc} {g : mG} {M : mM} {C : String} {a : Nat} (h : mIsA (mSx g) C a) (hE : mEnv g (mA g s.heap.size) s s.heap) (hP : va_P g.2.1 vwCl (mWs g.1 g.2.2.1 (mSx g) M) H) (hS : va_S (mA g s.heap.size) s.heap H locs) : ∃ cell : Cell, H[g.1 a]? = some cell ∧ cell.vm.isStatics = false ∧ s.vm.findClass C = some cell.cls := by
  rcases h with ⟨ci, sz, rs, q, h1, h2, rfl⟩ | ⟨rfl, h⟩
  · exact va_recv hE.1 hP h2 (mWs_get (M := M) h1)
  · have hq : 1000 ≤ a ∧ a < 1017 := by simpa [mRoS] using h
    obtain ⟨hs0, -⟩ := hE.2.2.2.1.1 (a - 1000) (by omega)
    rw [show 1000 + (a - 1000) = a by omega] at hs0
    obtain ⟨cell, h1, h2, h3, -⟩ := hs0.kept hS.2.1
    exact ⟨cell, h1, h2, h3⟩
theorem mMap_rev {ad : Nat → Nat} {a : Nat} {rs rest : List mV} : (((Sum.inr (some a) :: rs).reverse ++ rest).map (mval ad)) = (rs.map (mval ad)).reverse ++ .ref (ad a) :: rest.map (mval ad) := by
  simp [mval, va_rf]
theorem mMap_rev0 {ad : Nat → Nat} {rs rest : List mV} : ((rs.reverse ++ rest).map (mval ad)) = (rs.map (mval ad)).reverse ++ rest.map (mval ad) := by
  simp
theorem mCats {ad : Nat → Nat} : ∀ (rest : List mV), ((rest.map (mval ad)).map fun v => v.category).sum = rest.length
  | [] => rfl
  | v :: t => by
    rw [List.map_cons, List.map_cons, List.sum_cons, mCats t, mval_cat]
    simp
    omega
theorem mRoomOK {pc : Nat} {ls : Array Slot} {m : MethodId} {st : List Value} {ad : Nat → Nat} {rest : List mV} (h : rest.length ≤ 8) : 2 * (F0 m pc ls st).monitorRoom + ((rest.map (mval ad)).map fun v => v.category).sum ≤ 8 := by
  rw [mCats]
  show 2 * 0 + _ ≤ 8
  omega
theorem mSite.V {own : String} {d d' n idx : Nat} {y : MethodName} {bytes : ByteArray} {maxL : Nat} {ret : Option FieldType} {T : mG → mT} (hM : mOK y bytes maxL ret d' T) (hd : d' < d) (hm : maxL ≤ 29) (hrec : mHasR y n T)
    (hcode : Cond.code y bytes maxL ret ∈ mGW) (hlink : Cond.methodLink own idx y ∈ mGW) (hinst : Cond.instanceMethod y ∈ mGW) (hsel : Cond.selects y.cls y y ∈ mGW) (hini : Cond.initialized y.cls ∈ mGW)
    (hy : y.cls ≠ "java/lang/invoke/MethodHandle" ∧ y.cls ≠ "java/lang/invoke/VarHandle" ∧ (parseMethodDescriptor y.desc).map (fun d => d.parameters.length) = some n) : mSite own d (3 * idx) (n + 1) T := by
  intro p l e s m args below meth c Q cc nL g hx hb hml hown hts hD hE pc H locs ls M as rest Po hdg hP hS hsz hlen hrest hT kk
  rw [mIns_v] at hdg
  obtain ⟨a, rs, rfl, hisa⟩ := hrec g as M Po hT hlen
  have hMet := hM l g H.size (.inr (some a) :: rs) M Po hT
  have hrun := va_runV (p := p) (l := l) (e := e) (R := mRm d) (s := s) (m := m) (args := args) (below := below) (meth := meth) (c := c) (H := H) (locs := locs) (cells := 0) (slots := 0) (own := own) (C := y.cls) (b := g.1 a) (As := rs.map (mval g.1)) (rest := rest.map (mval g.1)) (n := n) (index := idx) (g := F0 m pc ls (((Sum.inr (some a) :: rs).reverse ++ rest).map (mval g.1)))
    ⟨hx, hb, hml, hown, hts⟩ hMet
    ⟨callB_of n hts (mGoodIn hcode) rfl rfl rfl (hts _ hini) (hts _ hlink) hy (mRm_call hd hm), hts _ hinst, hts _ hsel⟩
    ⟨mB_blind, hisa.recv hE hP hS, fun U hU hW => ⟨rfl, mPre hD hE hP hS U hU hW⟩⟩ rfl (by simpa using hlen) hsz (by show List.map (mval g.1) _ = _; rw [mMap_rev]) (mRoomOK hrest) hdg ⟨Nat.zero_le _, Nat.zero_le _⟩
  exact mBack hrun hS kk
theorem mSite.VN {own host : String} {d d' n idx : Nat} {y : MethodName} {bytes : ByteArray} {maxL : Nat} {ret : Option FieldType} {T : mG → mT} (hM : mOK y bytes maxL ret d' T) (hd : d' < d) (hm : maxL ≤ 29) (hrec : mHasR y n T)
    (hcode : Cond.code y bytes maxL ret ∈ mGW) (hlink : Cond.methodLinkNest own idx y host ∈ lw_tbl) (hinst : Cond.instanceMethod y ∈ mGW) (hsel : Cond.selects y.cls y y ∈ mGW) (hini : Cond.initialized y.cls ∈ mGW)
    (hy : y.cls ≠ "java/lang/invoke/MethodHandle" ∧ y.cls ≠ "java/lang/invoke/VarHandle" ∧ (parseMethodDescriptor y.desc).map (fun d => d.parameters.length) = some n) : mSite own d (3 * idx) (n + 1) T := by
  intro p l e s m args below meth c Q cc nL g hx hb hml hown hts hD hE pc H locs ls M as rest Po hdg hP hS hsz hlen hrest hT kk
  rw [mIns_v] at hdg
  obtain ⟨a, rs, rfl, hisa⟩ := hrec g as M Po hT hlen
  have hMet := hM l g H.size (.inr (some a) :: rs) M Po hT
  have hrun := va_runVN (p := p) (l := l) (e := e) (R := mRm d) (s := s) (m := m) (args := args) (below := below) (meth := meth) (c := c) (H := H) (locs := locs) (cells := 0) (slots := 0) (own := own) (C := y.cls) (host := host) (b := g.1 a) (As := rs.map (mval g.1)) (rest := rest.map (mval g.1)) (n := n) (index := idx) (g := F0 m pc ls (((Sum.inr (some a) :: rs).reverse ++ rest).map (mval g.1)))
    ⟨hx, hb, hml, hown, hts⟩ hMet
    ⟨va_cnB n hts (mGoodIn hcode) rfl rfl rfl (hE.2.1 _ hlink rfl) (hts _ hini) hy (mRm_call hd hm), hts _ hinst, hts _ hsel⟩
    ⟨mB_blind, hisa.recv hE hP hS, fun U hU hW => ⟨rfl, mPre hD hE hP hS U hU hW⟩⟩ rfl (by simpa using hlen) hsz (by show List.map (mval g.1) _ = _; rw [mMap_rev]) (mRoomOK hrest) hdg ⟨Nat.zero_le _, Nat.zero_le _⟩
  exact mBack hrun hS kk
theorem mSite.S {own : String} {d d' n idx : Nat} {y : MethodName} {bytes : ByteArray} {maxL : Nat} {ret : Option FieldType} {T : mG → mT} (hM : mOK y bytes maxL ret d' T) (hd : d' < d) (hm : maxL ≤ 29)
    (hcode : Cond.code y bytes maxL ret ∈ mGW) (hlink : Cond.methodLink own idx y ∈ mGW) (hst : Cond.static y ∈ mGW) (hini : Cond.initialized y.cls ∈ mGW)
    (hy : y.cls ≠ "java/lang/invoke/MethodHandle" ∧ y.cls ≠ "java/lang/invoke/VarHandle" ∧ (parseMethodDescriptor y.desc).map (fun d => d.parameters.length) = some n) : mSite own d (3 * idx + 1) n T := by
  intro p l e s m args below meth c Q cc nL g hx hb hml hown hts hD hE pc H locs ls M as rest Po hdg hP hS hsz hlen hrest hT kk
  rw [mIns_s] at hdg
  have hMet := hM l g H.size as M Po hT
  have hrun := va_runS (p := p) (l := l) (e := e) (R := mRm d) (s := s) (m := m) (args := args) (below := below) (meth := meth) (c := c) (H := H) (locs := locs) (cells := 0) (slots := 0) (own := own) (As := as.map (mval g.1)) (rest := rest.map (mval g.1)) (n := n) (index := idx) (g := F0 m pc ls ((as.reverse ++ rest).map (mval g.1)))
    ⟨hx, hb, hml, hown, hts⟩ hMet
    ⟨callB_of n hts (mGoodIn hcode) rfl rfl rfl (hts _ hini) (hts _ hlink) hy (mRm_call hd hm), hts _ hst⟩
    ⟨mB_blind, fun U hU hW => ⟨rfl, mPre hD hE hP hS U hU hW⟩⟩ rfl (by simpa using hlen) hsz (by show List.map (mval g.1) _ = _; rw [mMap_rev0]) (mRoomOK hrest) hdg ⟨Nat.zero_le _, Nat.zero_le _⟩
  exact mBack hrun hS kk
theorem mSite.SN {own host : String} {d d' n idx : Nat} {y : MethodName} {bytes : ByteArray} {maxL : Nat} {ret : Option FieldType} {T : mG → mT} (hM : mOK y bytes maxL ret d' T) (hd : d' < d) (hm : maxL ≤ 29)
    (hcode : Cond.code y bytes maxL ret ∈ mGW) (hlink : Cond.methodLinkNest own idx y host ∈ lw_tbl) (hst : Cond.static y ∈ mGW) (hini : Cond.initialized y.cls ∈ mGW)
    (hy : y.cls ≠ "java/lang/invoke/MethodHandle" ∧ y.cls ≠ "java/lang/invoke/VarHandle" ∧ (parseMethodDescriptor y.desc).map (fun d => d.parameters.length) = some n) : mSite own d (3 * idx + 1) n T := by
  intro p l e s m args below meth c Q cc nL g hx hb hml hown hts hD hE pc H locs ls M as rest Po hdg hP hS hsz hlen hrest hT kk
  rw [mIns_s] at hdg
  have hMet := hM l g H.size as M Po hT
  have hrun := va_runSN (p := p) (l := l) (e := e) (R := mRm d) (s := s) (m := m) (args := args) (below := below) (meth := meth) (c := c) (H := H) (locs := locs) (cells := 0) (slots := 0) (own := own) (host := host) (As := as.map (mval g.1)) (rest := rest.map (mval g.1)) (n := n) (index := idx) (g := F0 m pc ls ((as.reverse ++ rest).map (mval g.1)))
    ⟨hx, hb, hml, hown, hts⟩ hMet
    ⟨va_cnB n hts (mGoodIn hcode) rfl rfl rfl (hE.2.1 _ hlink rfl) (hts _ hini) hy (mRm_call hd hm), hts _ hst, trivial⟩
    ⟨mB_blind, fun U hU hW => ⟨rfl, mPre hD hE hP hS U hU hW⟩⟩ rfl (by simpa using hlen) hsz (by show List.map (mval g.1) _ = _; rw [mMap_rev0]) (mRoomOK hrest) hdg ⟨Nat.zero_le _, Nat.zero_le _⟩
  exact mBack hrun hS kk
def tMax : mG → mT := fun _ as M P => match as with
  | [.inl x, .inl y] => P (some (.inl (if x < y then y else x))) M
  | _ => False
def tMin : mG → mT := fun _ as M P => match as with
  | [.inl x, .inl y] => P (some (.inl (if y < x then y else x))) M
  | _ => False
theorem mSite.max {own : String} {d idx : Nat} (hd : 0 < d) (hcode : Cond.code Lib.Math.max.name Lib.Math.max.code 2 (some .int) ∈ mGW) (hlink : Cond.methodLink own idx Lib.Math.max.name ∈ mGW) (hst : Cond.static Lib.Math.max.name ∈ mGW) (hini : Cond.initialized "java/lang/Math" ∈ mGW) : mSite own d (3 * idx + 1) 2 tMax := by
  intro p l e s m args below meth c Q cc nL g hx hb hml hown hts hD hE pc H locs ls M as rest Po hdg hP hS hsz hlen hrest hT kk
  rw [mIns_s] at hdg
  have hloc : ((rest.map (mval g.1)).map fun v => v.category).sum + 13 ≤ (mRm d).locals := by rw [mCats]; show rest.length + 13 ≤ 48 * d; omega
  unfold tMax at hT
  split at hT
  · rename_i x y
    exact va_mmax hx hb (hml.trans hsz.symm) hown (hts _ hlink) (hts _ hst) (hts _ hini) (hts _ hcode) (show 1 ≤ (mRm d).frames from hd) hloc (Nat.zero_le _) (Nat.zero_le _) hdg (kk _ M H locs hP hS hT)
  · exact hT.elim
theorem mSite.min {own : String} {d idx : Nat} (hd : 0 < d) (hcode : Cond.code Lib.Math.min.name Lib.Math.min.code 2 (some .int) ∈ mGW) (hlink : Cond.methodLink own idx Lib.Math.min.name ∈ mGW) (hst : Cond.static Lib.Math.min.name ∈ mGW) (hini : Cond.initialized "java/lang/Math" ∈ mGW) : mSite own d (3 * idx + 1) 2 tMin := by
  intro p l e s m args below meth c Q cc nL g hx hb hml hown hts hD hE pc H locs ls M as rest Po hdg hP hS hsz hlen hrest hT kk
  rw [mIns_s] at hdg
  have hloc : ((rest.map (mval g.1)).map fun v => v.category).sum + 13 ≤ (mRm d).locals := by rw [mCats]; show rest.length + 13 ≤ 48 * d; omega
  unfold tMin at hT
  split at hT
  · rename_i x y
    exact va_mmin hx hb (hml.trans hsz.symm) hown (hts _ hlink) (hts _ hst) (hts _ hini) (hts _ hcode) (show 1 ≤ (mRm d).frames from hd) hloc (Nat.zero_le _) (Nat.zero_le _) hdg (kk _ M H locs hP hS hT)
  · exact hT.elim
/-- System.arraycopy between two int arrays -/
def tCopy : mG → mT := fun g as M P => match as with
  | [.inr (some a), .inl i, .inr (some b), .inl j, .inl n] => ∃ na nb : Nat, (∃ ra, (mSx g)[a]? = some (0, na, ra)) ∧ (∃ rb, (mSx g)[b]? = some (0, nb, rb)) ∧ ¬ i < 0 ∧ ¬ j < 0 ∧ ¬ n < 0 ∧ i.toNatClampNeg + n.toNatClampNeg ≤ na ∧ j.toNatClampNeg + n.toNatClampNeg ≤ nb ∧ P none (mUp M b (va_cpy (M a) (M b) i.toNatClampNeg j.toNatClampNeg n.toNatClampNeg))
  | _ => False
theorem mSite.copy {own : String} {d idx : Nat} (hd : 0 < d) (hlink : Cond.methodLink own idx arraycopyName ∈ mGW) (hnat : Cond.native arraycopyName ∈ mGW) (hst : Cond.static arraycopyName ∈ mGW) (hini : Cond.initialized "java/lang/System" ∈ mGW) : mSite own d (3 * idx + 1) 5 tCopy := by
  intro p l e s m args below meth c Q cc nL g hx hb hml hown hts hD hE pc H locs ls M as rest Po hdg hP hS hsz hlen hrest hT kk
  rw [mIns_s] at hdg
  have hnw : nativeFrameWords "java/lang/System" "arraycopy" 5 ≤ 20 := by decide +kernel
  have hloc : ((rest.map (mval g.1)).map fun v => v.category).sum + (nativeFrameWords "java/lang/System" "arraycopy" 5 + 11) ≤ (mRm d).locals := by rw [mCats]; show rest.length + _ ≤ 48 * d; omega
  unfold tCopy at hT
  split at hT
  · rename_i a i b j n
    obtain ⟨na, nb, ⟨ra, h1⟩, ⟨rb, h2⟩, h3, h4, h5, h6, h7, h8⟩ := hT
    have e1 := mWs_get (ad := g.1) (cy := g.2.2.1) (M := M) h1
    have e2 := mWs_get (ad := g.1) (cy := g.2.2.1) (M := M) h2
    exact va_copyi hx hb (hml.trans hsz.symm) hown (hts _ hlink) (hts _ hnat) (hts _ hst) (hts _ hini) hE.1 hP (mWs_D hD M) hS a b 0 0 e1 e2 rfl rfl rfl h3 h4 h5 h6 h7 (fun _ _ => rfl) (show 1 ≤ (mRm d).frames from hd) hloc hdg (fun H1 locs1 hP1 _ hS1 => kk none _ H1 locs1 (by rw [← mWs_set h2]; exact hP1) hS1 h8)
  · exact hT.elim
end
section
/-! ===== TABLES: code, fields, calls ===== -/
def mLk {α : Type} : List (Nat × α) → Nat → Option α
  | [], _ => none
  | q :: t, k => match Nat.beq q.1 k with
    | true => some q.2
    | false => mLk t k
theorem mLk_mem {α : Type} : ∀ {l : List (Nat × α)} {k : Nat} {x : α}, mLk l k = some x → (k, x) ∈ l
  | [], _, _, h => by cases h
  | q :: t, k, x, h => by
    unfold mLk at h
    split at h
    · rename_i hq
      cases h
      have e : q.1 = k := by simpa using hq
      subst e
      exact List.mem_cons_self
    · exact List.mem_cons_of_mem _ (mLk_mem h)
theorem mCodeOK {cc : ByteArray} {l : List (Nat × mI)} (h : (l.all fun e => mChk cc e.1 e.2) = true) (pc : Nat) (x : mI) (hx : mLk l pc = some x) : mChk cc pc x = true := List.all_eq_true.mp h (pc, x) (mLk_mem hx)
theorem mFldL {own : String} {l : List (Nat × Nat × Nat × Nat)} (h : ∀ e ∈ l, mFldE own e) {F : mF} (hF : F.2.1 = mLk l) : mFldOK own F mGW := by
  intro idx ci k b hq
  rw [hF] at hq
  exact h _ (mLk_mem hq)
theorem mCalL {own : String} {d : Nat} {F : mG → mF} {l : List (Nat × Nat × (mG → mT))} (h : ∀ e ∈ l, mSite own d e.1 e.2.1 e.2.2) (hF : ∀ g, (F g).2.2.1 = mLk (l.map fun e => (e.1, e.2.1, e.2.2 g))) : ∀ (g : mG) (key n : Nat) (T' : mT), (F g).2.2.1 key = some (n, T') → ∃ T2 : mG → mT, T' = T2 g ∧ mSite own d key n T2 := by
  intro g key n T' hq
  rw [hF] at hq
  obtain ⟨e, he, e2⟩ := List.mem_map.mp (mLk_mem hq)
  cases e2
  exact ⟨e.2.2, rfl, h e he⟩
/-! shapes of specifications -/
abbrev mR : Type := Option (Option mV × mM)
def mOut (q : mR) (P : mP) : Prop := match q with
  | some x => P x.1 x.2
  | none => False
def mFS (f : List mV → mM → mR) : mG → mT := fun _ as M P => mOut (f as M) P
def mFI (pl : Nat → Bool) (f : Nat → List mV → mM → mR) : mG → mT := fun _ as M P => match as with
  | .inr (some a) :: rs => match pl a with
    | true => mOut (f a rs M) P
    | false => False
  | _ => False
def mRl {α : Type} (Pre : α → mG → List mV → mM → Prop) (Post : α → mG → List mV → mM → Option mV → mM → Prop) : mG → mT := fun g as M P => ∃ x : α, Pre x g as M ∧ ∀ r M', Post x g as M r M' → P r M'
def mMn (T : mG → mT) : Prop := ∀ (g : mG) (a : List mV) (M : mM) (P Q : mP), (∀ r M', P r M' → Q r M') → T g a M P → T g a M Q
theorem mOut_mono {q : mR} {P Q : mP} (h : ∀ r M', P r M' → Q r M') (k : mOut q P) : mOut q Q := by
  unfold mOut at k ⊢
  split at k
  · exact h _ _ k
  · exact k
theorem mFS_mono {f : List mV → mM → mR} : mMn (mFS f) := fun _ _ _ _ _ h k => mOut_mono h k
theorem mFI_mono {pl : Nat → Bool} {f : Nat → List mV → mM → mR} : mMn (mFI pl f) := fun g a M P Q h k => by
  unfold mFI at k ⊢
  split at k
  · split at k
    · exact mOut_mono h k
    · exact k
  · exact k
theorem mRl_mono {α : Type} {Pre : α → mG → List mV → mM → Prop} {Post : α → mG → List mV → mM → Option mV → mM → Prop} : mMn (mRl Pre Post) := fun _ _ _ _ _ h k => by
  obtain ⟨x, h1, h2⟩ := k
  exact ⟨x, h1, fun r M' z => h _ _ (h2 r M' z)⟩
theorem tMax_mono : mMn tMax := fun g a M P Q h k => by
  unfold tMax at k ⊢
  split at k
  · exact h _ _ k
  · exact k
theorem tMin_mono : mMn tMin := fun g a M P Q h k => by
  unfold tMin at k ⊢
  split at k
  · exact h _ _ k
  · exact k
theorem tCopy_mono : mMn tCopy := fun g a M P Q h k => by
  unfold tCopy at k ⊢
  split at k
  · obtain ⟨na, nb, h1, h2, h3, h4, h5, h6, h7, h8⟩ := k
    exact ⟨na, nb, h1, h2, h3, h4, h5, h6, h7, h _ _ h8⟩
  · exact k
theorem mMonoL {F : mF} {g : mG} {l : List (Nat × Nat × (mG → mT))} (h : ∀ e ∈ l, mMn e.2.2) (hF : F.2.2.1 = mLk (l.map fun e => (e.1, e.2.1, e.2.2 g))) : mMono F := by
  intro key n T hq a M P Q hPQ k
  rw [hF] at hq
  obtain ⟨e, he, e2⟩ := List.mem_map.mp (mLk_mem hq)
  cases e2
  exact h e he g a M P Q hPQ k
theorem mFI_recv {pl : Nat → Bool} {f : Nat → List mV → mM → mR} {y : MethodName} {n : Nat} (h : ∀ (g : mG) (a : Nat), pl a = true → mIsA (mSx g) y.cls a) : mHasR y n (mFI pl f) := by
  intro g as M P hT hl
  unfold mFI at hT
  split at hT
  · rename_i a rs
    split at hT
    · rename_i hp
      exact ⟨a, rs, rfl, h g a hp⟩
    · exact hT.elim
  · exact hT.elim
/-- a method that is specified by a relation: it answers an int -/
def mRi {α : Type} (Pre : α → List mV → mM → Prop) (Post : α → List mV → mM → Int32 → mM → Prop) : mG → mT := fun _ as M P => ∃ x : α, Pre x as M ∧ ∀ (v : Int32) (M' : mM), Post x as M v M' → P (some (.inl v)) M'
/-- .. nothing -/
def mRv {α : Type} (Pre : α → List mV → mM → Prop) (Post : α → List mV → mM → mM → Prop) : mG → mT := fun _ as M P => ∃ x : α, Pre x as M ∧ ∀ M' : mM, Post x as M M' → P none M'
theorem mRi_mono {α : Type} {Pre : α → List mV → mM → Prop} {Post : α → List mV → mM → Int32 → mM → Prop} : mMn (mRi Pre Post) := fun _ _ _ _ _ h k => by
  obtain ⟨x, h1, h2⟩ := k
  exact ⟨x, h1, fun v M' z => h _ _ (h2 v M' z)⟩
theorem mRv_mono {α : Type} {Pre : α → List mV → mM → Prop} {Post : α → List mV → mM → mM → Prop} : mMn (mRv Pre Post) := fun _ _ _ _ _ h k => by
  obtain ⟨x, h1, h2⟩ := k
  exact ⟨x, h1, fun M' z => h _ _ (h2 M' z)⟩
def mCstE (own : String) (e : Nat × mV) : Prop := (∃ x, e.2 = .inl x ∧ Cond.constant own e.1 x ∈ mGW) ∨ (∃ (i : Nat) (tx : String), e.2 = .inr (some (1000 + i)) ∧ ((own, e.1, tx, i) : String × Nat × String × Nat) ∈ ([("TrickHouse", 326, "deal", 0), ("TrickHouse", 328, "bid", 1), ("TrickHouse", 330, "pass", 2), ("TrickHouse", 332, "double", 3), ("TrickHouse", 334, "redouble", 4), ("TrickHouse", 336, "play", 5), ("TrickHouse", 337, "claim", 6), ("TrickHouse", 339, "rank", 7), ("TrickHouse", 341, "rule", 8), ("TrickHouse", 343, "", 9), ("TrickHouseModel", 267, "c", 10), ("TrickHouseModel", 269, "d", 11), ("TrickHouseModel", 271, "h", 12), ("TrickHouseModel", 273, "s", 13), ("TrickHouseModel", 275, "n", 14), ("TrickHouseModel", 243, "deal", 0), ("TrickHouseModel", 245, "bid", 1), ("TrickHouseModel", 246, "pass", 2), ("TrickHouseModel", 248, "double", 3), ("TrickHouseModel", 250, "redouble", 4), ("TrickHouseModel", 252, "play", 5), ("TrickHouseModel", 254, "claim", 6), ("TrickHouseModel", 256, "rank", 7), ("TrickHouseModel", 258, "rule", 8), ("TrickHouseModel", 326, "cdhsn", 15), ("TrickHouseModel", 335, " ", 16)] : List (String × Nat × String × Nat)))
theorem mCstL {own : String} {F : mG → mF} {l : List (Nat × mV)} (h : ∀ e ∈ l, mCstE own e) (hF : ∀ g, (F g).2.2.2.1 = mLk l) : mCstT own F := by
  intro g idx v hq
  rw [hF] at hq
  exact h _ (mLk_mem hq)
end
section
/-! ===== SPECIFICATIONS OF THE SMALL FUNCTIONS ===== -/
def mb (p : Prop) [Decidable p] : Int32 := if p then 1 else 0
theorem mb_t {p : Prop} [Decidable p] (h : p) : mb p = 1 := if_pos h
theorem mb_f {p : Prop} [Decidable p] (h : ¬ p) : mb p = 0 := if_neg h
theorem mb_0 {p : Prop} [Decidable p] : mb p = 0 ↔ ¬ p := by
  unfold mb
  split <;> simp_all
theorem mb_1 {p : Prop} [Decidable p] : mb p = 1 ↔ p := by
  unfold mb
  split <;> simp_all
theorem mb_01 {p : Prop} [Decidable p] : mb p = 0 ∨ mb p = 1 := by
  unfold mb
  split
  · exact Or.inr rfl
  · exact Or.inl rfl
theorem b01 : nI 1 = 0 ∨ nI 1 = 1 := Or.inr rfl
theorem b00 : nI 0 = 0 ∨ nI 0 = 1 := Or.inl rfl
theorem nI1 : nI 1 = 1 := rfl
def aAt (f : Nat → Int32) (n : Nat) (i : Int32) : Int32 := if 0 ≤ i ∧ i < nI n then f i.toNatClampNeg else 0
def aSet (f : Nat → Int32) (n : Nat) (i v : Int32) : Nat → Int32 := if 0 ≤ i ∧ i < nI n then upd f i.toNatClampNeg v else f
def aFill (f : Nat → Int32) (n : Nat) (v : Int32) : Nat → Int32 := fun j => if j < n then v else f j
/-- pure functions of ints -/
def mP1 (F : Int32 → Int32) : mG → mT := fun _ as M P => match as with
  | [.inl x] => P (some (.inl (F x))) M
  | _ => False
def mP2 (F : Int32 → Int32 → Int32) : mG → mT := fun _ as M P => match as with
  | [.inl x, .inl y] => P (some (.inl (F x y))) M
  | _ => False
def mP3 (F : Int32 → Int32 → Int32 → Int32) : mG → mT := fun _ as M P => match as with
  | [.inl x, .inl y, .inl z] => P (some (.inl (F x y z))) M
  | _ => False
def mP4 (F : Int32 → Int32 → Int32 → Int32 → Int32) : mG → mT := fun _ as M P => match as with
  | [.inl x, .inl y, .inl z, .inl u] => P (some (.inl (F x y z u))) M
  | _ => False
def mP5 (F : Int32 → Int32 → Int32 → Int32 → Int32 → Int32) : mG → mT := fun _ as M P => match as with
  | [.inl x, .inl y, .inl z, .inl u, .inl w] => P (some (.inl (F x y z u w))) M
  | _ => False
theorem mP1_mono {F : Int32 → Int32} : mMn (mP1 F) := fun _ _ _ _ _ h k => by
  unfold mP1 at k ⊢
  split at k
  · exact h _ _ k
  · exact k
theorem mP2_mono {F : Int32 → Int32 → Int32} : mMn (mP2 F) := fun _ _ _ _ _ h k => by
  unfold mP2 at k ⊢
  split at k
  · exact h _ _ k
  · exact k
theorem mP3_mono {F : Int32 → Int32 → Int32 → Int32} : mMn (mP3 F) := fun _ _ _ _ _ h k => by
  unfold mP3 at k ⊢
  split at k
  · exact h _ _ k
  · exact k
theorem mP4_mono {F : Int32 → Int32 → Int32 → Int32 → Int32} : mMn (mP4 F) := fun _ _ _ _ _ h k => by
  unfold mP4 at k ⊢
  split at k
  · exact h _ _ k
  · exact k
theorem mP5_mono {F : Int32 → Int32 → Int32 → Int32 → Int32 → Int32} : mMn (mP5 F) := fun _ _ _ _ _ h k => by
  unfold mP5 at k ⊢
  split at k
  · exact h _ _ k
  · exact k
def mRunOf (maxL : Nat) (T : mG → mT) (F : mG → mF) : Prop := ∀ (g : mG) (as : List mV) (M : mM) (P : mP), T g as M P → as.length ≤ maxL ∧ mRun (mSx g) (F g) P (0, as.map some ++ List.replicate (maxL - as.length) none, [], M)
theorem runP1 {maxL : Nat} {G : Int32 → Int32} {F : mG → mF} (hn : 1 ≤ maxL) (h : ∀ (g : mG) (M : mM) (P : mP) (x : Int32), P (some (.inl (G x))) M → mRun (mSx g) (F g) P (0, [some (.inl x)] ++ List.replicate (maxL - 1) none, [], M)) : mRunOf maxL (mP1 G) F := fun g as M P hT => by
  unfold mP1 at hT
  split at hT
  · exact ⟨hn, h g M P _ hT⟩
  · exact hT.elim
theorem runP2 {maxL : Nat} {G : Int32 → Int32 → Int32} {F : mG → mF} (hn : 2 ≤ maxL) (h : ∀ (g : mG) (M : mM) (P : mP) (x y : Int32), P (some (.inl (G x y))) M → mRun (mSx g) (F g) P (0, [some (.inl x), some (.inl y)] ++ List.replicate (maxL - 2) none, [], M)) : mRunOf maxL (mP2 G) F := fun g as M P hT => by
  unfold mP2 at hT
  split at hT
  · exact ⟨hn, h g M P _ _ hT⟩
  · exact hT.elim
theorem runP3 {maxL : Nat} {G : Int32 → Int32 → Int32 → Int32} {F : mG → mF} (hn : 3 ≤ maxL) (h : ∀ (g : mG) (M : mM) (P : mP) (x y z : Int32), P (some (.inl (G x y z))) M → mRun (mSx g) (F g) P (0, [some (.inl x), some (.inl y), some (.inl z)] ++ List.replicate (maxL - 3) none, [], M)) : mRunOf maxL (mP3 G) F := fun g as M P hT => by
  unfold mP3 at hT
  split at hT
  · exact ⟨hn, h g M P _ _ _ hT⟩
  · exact hT.elim
theorem runP4 {maxL : Nat} {G : Int32 → Int32 → Int32 → Int32 → Int32} {F : mG → mF} (hn : 4 ≤ maxL) (h : ∀ (g : mG) (M : mM) (P : mP) (x y z u : Int32), P (some (.inl (G x y z u))) M → mRun (mSx g) (F g) P (0, [some (.inl x), some (.inl y), some (.inl z), some (.inl u)] ++ List.replicate (maxL - 4) none, [], M)) : mRunOf maxL (mP4 G) F := fun g as M P hT => by
  unfold mP4 at hT
  split at hT
  · exact ⟨hn, h g M P _ _ _ _ hT⟩
  · exact hT.elim
theorem runP5 {maxL : Nat} {G : Int32 → Int32 → Int32 → Int32 → Int32 → Int32} {F : mG → mF} (hn : 5 ≤ maxL) (h : ∀ (g : mG) (M : mM) (P : mP) (x y z u w : Int32), P (some (.inl (G x y z u w))) M → mRun (mSx g) (F g) P (0, [some (.inl x), some (.inl y), some (.inl z), some (.inl u), some (.inl w)] ++ List.replicate (maxL - 5) none, [], M)) : mRunOf maxL (mP5 G) F := fun g as M P hT => by
  unfold mP5 at hT
  split at hT
  · exact ⟨hn, h g M P _ _ _ _ _ hT⟩
  · exact hT.elim
/-- the arrays' helpers: of any int array of the 91 -/
def t_X7_at : mG → mT := fun _ as M P => match as with
  | [.inr (some a), .inl i] => match mSH[a]? with
    | some (0, n, _) => P (some (.inl (aAt (M a) n i))) M
    | _ => False
  | _ => False
def t_X7_set : mG → mT := fun _ as M P => match as with
  | [.inr (some a), .inl i, .inl v] => match mSH[a]? with
    | some (0, n, _) => P none (mUp M a (aSet (M a) n i v))
    | _ => False
  | _ => False
def t_X7_fill : mG → mT := fun _ as M P => match as with
  | [.inr (some a), .inl v] => match mSH[a]? with
    | some (0, n, _) => P none (mUp M a (aFill (M a) n v))
    | _ => False
  | _ => False
/-- of two int arrays of one length -/
def t_X7_take : mG → mT := fun _ as M P => match as with
  | [.inr (some a), .inr (some b)] => match mSH[a]?, mSH[b]? with
    | some (0, n, _), some (0, k, _) => match Nat.beq n k with
      | true => P none (mUp M b (va_cpy (M a) (M b) 0 0 k))
      | false => False
    | _, _ => False
  | _ => False
theorem mo_X7_at : mMn t_X7_at := fun _ _ _ _ _ h k => by
  unfold t_X7_at at k ⊢
  split at k
  · split at k
    · exact h _ _ k
    · exact k
  · exact k
theorem mo_X7_set : mMn t_X7_set := fun _ _ _ _ _ h k => by
  unfold t_X7_set at k ⊢
  split at k
  · split at k
    · exact h _ _ k
    · exact k
  · exact k
theorem mo_X7_fill : mMn t_X7_fill := fun _ _ _ _ _ h k => by
  unfold t_X7_fill at k ⊢
  split at k
  · split at k
    · exact h _ _ k
    · exact k
  · exact k
theorem mo_X7_take : mMn t_X7_take := fun _ _ _ _ _ h k => by
  unfold t_X7_take at k ⊢
  split at k
  · split at k
    · split at k
      · exact h _ _ k
      · exact k
    · exact k
  · exact k
theorem mSx_at {g : mG} {a : Nat} {h : mH} (ha : mSH[a]? = some h) : (mSx g)[a]? = some h := by
  unfold mSx
  rw [List.getElem?_append_left (List.getElem?_eq_some_iff.mp ha).1]
  exact ha
theorem mSH_no {a : Nat} {h : mH} (ha : mSH[a]? = some h) : mRoA a = none ∧ mRoS a = false := by
  have hl : a < 91 := (List.getElem?_eq_some_iff.mp ha).1
  have h1 : Nat.ble 1100 a = false := by
    cases hq : Nat.ble 1100 a with
    | false => rfl
    | true => rw [Nat.ble_eq] at hq; omega
  have h2 : Nat.beq a 1200 = false := by
    cases hq : Nat.beq a 1200 with
    | false => rfl
    | true => rw [Nat.beq_eq] at hq; omega
  have h3 : Nat.beq a 1201 = false := by
    cases hq : Nat.beq a 1201 with
    | false => rfl
    | true => rw [Nat.beq_eq] at hq; omega
  have h4 : Nat.ble 1000 a = false := by
    cases hq : Nat.ble 1000 a with
    | false => rfl
    | true => rw [Nat.ble_eq] at hq; omega
  exact ⟨by unfold mRoA; rw [h1, h2, h3]; rfl, by unfold mRoS; rw [h4]; rfl⟩
end
section
/-! ===== THE SMALL FUNCTIONS ===== -/
def fIn (v lo hi : Int32) : Int32 := mb (lo ≤ v ∧ v ≤ hi)
def fByte (v : Int32) : Int32 := mb (0 ≤ v ∧ v ≤ nI 255)
def fCard (c : Int32) : Int32 := mb (0 ≤ c ∧ c < nI 32)
def fHouse (h : Int32) : Int32 := mb (0 ≤ h ∧ h < nI 6)
def fNext (z : Int32) : Int32 := z * nI 1103515245 + nI 12345
def fBit (c : Int32) : Int32 := if 0 ≤ c ∧ c < nI 32 then nI 1 <<< (c &&& 31) else nI 0
def fSuit (s : Int32) : Int32 := if 0 ≤ s ∧ s < nI 4 then nI 255 <<< ((nI 8 * s) &&& 31) else nI 0
def fStr (c t how : Int32) : Int32 :=
  if how = nI 1 then nI 7 - (c - c / nI 8 * nI 8)
  else if how = nI 2 ∧ nI 3 ≤ c - c / nI 8 * nI 8 ∧ c - c / nI 8 * nI 8 < nI 7 then (if c - c / nI 8 * nI 8 = nI 3 then nI 6 else c - c / nI 8 * nI 8 - nI 1)
  else if how = nI 3 ∧ c / nI 8 = t then (if c - c / nI 8 * nI 8 = nI 4 then nI 7 else if c - c / nI 8 * nI 8 = nI 2 then nI 6 else c - c / nI 8 * nI 8 - (if nI 2 < c - c / nI 8 * nI 8 then nI 1 else nI 0) - (if nI 4 < c - c / nI 8 * nI 8 then nI 1 else nI 0))
  else c - c / nI 8 * nI 8
def fPlain (m b : Int32) : Int32 := if m < b then nI 10 * (m - b) else nI 10 * b + nI 2 * (m - b)
def fBold (m b : Int32) : Int32 := fPlain m b + (if b < nI 7 then nI 0 else if m < b then nI 0 else nI 20)
def fSharp (m b : Int32) : Int32 := if 0 ≤ fPlain m b then fPlain m b else nI 2 * fPlain m b
def fTimes (d : Int32) : Int32 := if d = nI 2 then nI 4 else if d = nI 1 then nI 2 else nI 1
def fBase (h m b t : Int32) : Int32 := if h = nI 0 then fPlain m b else if h = nI 1 then fBold m b else if h = nI 2 then fSharp m b else if h = nI 3 then fBold m b + (if m = nI 8 then nI 50 else nI 0) else if h = nI 4 then fSharp m b - (if b < m then nI 2 * (m - b) else nI 0) else fPlain m b + (if t = nI 4 then nI 5 else nI 0)
def fScore (h m b t d : Int32) : Int32 := fTimes d * fBase h m b t
def fSide (x : Int32) : Int32 := x - x / nI 2 * nI 2
def fSh1 (c : Int32) : Int32 := nI 1 <<< (c &&& 31)
def fHas (s c : Int32) : Int32 := mb ((s.toUInt32 >>> (c.toUInt32 &&& Int32.toUInt32 31)).toInt32 &&& nI 1 = nI 1)
def fStrB (c t how : Int32) : Int32 :=
  if how = nI 1 then nI 2 * (nI 7 - (c - c / nI 8 * nI 8))
  else if how = nI 2 ∧ c - c / nI 8 * nI 8 = nI 3 then nI 13
  else if how = nI 3 ∧ c / nI 8 = t ∧ c - c / nI 8 * nI 8 = nI 4 then nI 20
  else if how = nI 3 ∧ c / nI 8 = t ∧ c - c / nI 8 * nI 8 = nI 2 then nI 18
  else nI 2 * (c - c / nI 8 * nI 8)
def fOfS (s u : Int32) : Int32 := if u = nI 4 then nI 0 else s &&& (nI 255 <<< ((nI 8 * u) &&& 31))
def fScoreB (h m b t d : Int32) : Int32 := fBase h m b t * (if d = nI 0 then nI 1 else nI 2 * d)

theorem fa_lt (a b : Int32) : a < b ↔ a.toInt < b.toInt := Int32.lt_iff_toInt_lt
theorem fa_le (a b : Int32) : a ≤ b ↔ a.toInt ≤ b.toInt := Int32.le_iff_toInt_le
theorem fa_eq (a b : Int32) : a = b ↔ a.toInt = b.toInt := Int32.toInt_inj.symm
theorem mP_eq {P : mP} {x y : Int32} {M : mM} (h : P (some (.inl y)) M) (e : x = y) : P (some (.inl x)) M := by
  rw [e]
  exact h
theorem mUp_same {M : mM} {a : Nat} : mUp M a (M a) = M := by
  funext c
  unfold mUp
  split
  · rename_i h
    rw [h]
  · rfl
theorem mSH_small {a n k : Nat} {rs : List (Option Nat)} (h : mSH[a]? = some (k, n, rs)) : n < 2 ^ 31 := by
  have hl : a < mSH.length := (List.getElem?_eq_some_iff.mp h).1
  have hall : ∀ e ∈ mSH, e.2.1 < 2 ^ 31 := by decide +kernel
  exact hall _ (List.mem_of_getElem? h)

def cs_RX7 : List (Nat × mV) := [(326, .inr (some 1000)), (328, .inr (some 1001)), (330, .inr (some 1002)), (332, .inr (some 1003)), (334, .inr (some 1004)), (336, .inr (some 1005)), (337, .inr (some 1006)), (339, .inr (some 1007)), (341, .inr (some 1008)), (343, .inr (some 1009)), (388, .inl (nI 1103515245))]
theorem ck_RX7 : ∀ e ∈ cs_RX7, mCstE RX7 e := List.forall_mem_cons.mpr ⟨Or.inr ⟨0, "deal", rfl, by decide +kernel⟩, List.forall_mem_cons.mpr ⟨Or.inr ⟨1, "bid", rfl, by decide +kernel⟩, List.forall_mem_cons.mpr ⟨Or.inr ⟨2, "pass", rfl, by decide +kernel⟩, List.forall_mem_cons.mpr ⟨Or.inr ⟨3, "double", rfl, by decide +kernel⟩, List.forall_mem_cons.mpr ⟨Or.inr ⟨4, "redouble", rfl, by decide +kernel⟩, List.forall_mem_cons.mpr ⟨Or.inr ⟨5, "play", rfl, by decide +kernel⟩, List.forall_mem_cons.mpr ⟨Or.inr ⟨6, "claim", rfl, by decide +kernel⟩, List.forall_mem_cons.mpr ⟨Or.inr ⟨7, "rank", rfl, by decide +kernel⟩, List.forall_mem_cons.mpr ⟨Or.inr ⟨8, "rule", rfl, by decide +kernel⟩, List.forall_mem_cons.mpr ⟨Or.inr ⟨9, "", rfl, by decide +kernel⟩, List.forall_mem_cons.mpr ⟨Or.inl ⟨_, rfl, mIn 612 (by decide +kernel) rfl⟩, fun _ h => absurd h List.not_mem_nil⟩⟩⟩⟩⟩⟩⟩⟩⟩⟩⟩
def cs_RX8 : List (Nat × mV) := [(170, .inl (nI 1103515245)), (243, .inr (some 1000)), (245, .inr (some 1001)), (246, .inr (some 1002)), (248, .inr (some 1003)), (250, .inr (some 1004)), (252, .inr (some 1005)), (254, .inr (some 1006)), (256, .inr (some 1007)), (258, .inr (some 1008)), (267, .inr (some 1010)), (269, .inr (some 1011)), (271, .inr (some 1012)), (273, .inr (some 1013)), (275, .inr (some 1014)), (304, .inl (nI 999999)), (326, .inr (some 1015)), (335, .inr (some 1016))]
theorem ck_RX8 : ∀ e ∈ cs_RX8, mCstE RX8 e := List.forall_mem_cons.mpr ⟨Or.inl ⟨_, rfl, mIn 1323 (by decide +kernel) rfl⟩, List.forall_mem_cons.mpr ⟨Or.inr ⟨0, "deal", rfl, by decide +kernel⟩, List.forall_mem_cons.mpr ⟨Or.inr ⟨1, "bid", rfl, by decide +kernel⟩, List.forall_mem_cons.mpr ⟨Or.inr ⟨2, "pass", rfl, by decide +kernel⟩, List.forall_mem_cons.mpr ⟨Or.inr ⟨3, "double", rfl, by decide +kernel⟩, List.forall_mem_cons.mpr ⟨Or.inr ⟨4, "redouble", rfl, by decide +kernel⟩, List.forall_mem_cons.mpr ⟨Or.inr ⟨5, "play", rfl, by decide +kernel⟩, List.forall_mem_cons.mpr ⟨Or.inr ⟨6, "claim", rfl, by decide +kernel⟩, List.forall_mem_cons.mpr ⟨Or.inr ⟨7, "rank", rfl, by decide +kernel⟩, List.forall_mem_cons.mpr ⟨Or.inr ⟨8, "rule", rfl, by decide +kernel⟩, List.forall_mem_cons.mpr ⟨Or.inr ⟨10, "c", rfl, by decide +kernel⟩, List.forall_mem_cons.mpr ⟨Or.inr ⟨11, "d", rfl, by decide +kernel⟩, List.forall_mem_cons.mpr ⟨Or.inr ⟨12, "h", rfl, by decide +kernel⟩, List.forall_mem_cons.mpr ⟨Or.inr ⟨13, "s", rfl, by decide +kernel⟩, List.forall_mem_cons.mpr ⟨Or.inr ⟨14, "n", rfl, by decide +kernel⟩, List.forall_mem_cons.mpr ⟨Or.inl ⟨_, rfl, mIn 1301 (by decide +kernel) rfl⟩, List.forall_mem_cons.mpr ⟨Or.inr ⟨15, "cdhsn", rfl, by decide +kernel⟩, List.forall_mem_cons.mpr ⟨Or.inr ⟨16, " ", rfl, by decide +kernel⟩, fun _ h => absurd h List.not_mem_nil⟩⟩⟩⟩⟩⟩⟩⟩⟩⟩⟩⟩⟩⟩⟩⟩⟩⟩
def cs_RJ6 : List (Nat × mV) := [(265, .inl (nI 1431655765)), (266, .inl (nI 858993459)), (267, .inl (nI 252645135))]
theorem ck_RJ6 : ∀ e ∈ cs_RJ6, mCstE RJ6 e := List.forall_mem_cons.mpr ⟨Or.inl ⟨_, rfl, mIn 560 (by decide +kernel) rfl⟩, List.forall_mem_cons.mpr ⟨Or.inl ⟨_, rfl, mIn 561 (by decide +kernel) rfl⟩, List.forall_mem_cons.mpr ⟨Or.inl ⟨_, rfl, mIn 562 (by decide +kernel) rfl⟩, fun _ h => absurd h List.not_mem_nil⟩⟩⟩
def k_X7_at : List (Nat × mI) := [(0, .iload_n 1, 1, 1, 0, []),
  (1, .ifCond .lt 15, 3, 16, 0, []),
  (4, .iload_n 1, 1, 1, 0, []),
  (5, .aload_n 0, 1, 0, 0, []),
  (6, .arraylength, 1, 1, 0, []),
  (7, .if_icmp .ge 9, 3, 16, 0, []),
  (10, .aload_n 0, 1, 0, 0, []),
  (11, .iload_n 1, 1, 1, 0, []),
  (12, .iaload, 1, 1, 0, []),
  (13, .goto 4, 3, 17, 0, []),
  (16, .iconst 0, 1, 0, nI 0, []),
  (17, .ireturn, 1, 0, 0, [])]
theorem kk_X7_at : (k_X7_at.all fun e => mChk cX7_at e.1 e.2) = true := by decide +kernel
def l_X7_at : List (Nat × Nat × (mG → mT)) := []
def f_X7_at (g : mG) : mF := (mLk k_X7_at, mLk fl_RX7, mLk (l_X7_at.map fun e => (e.1, e.2.1, e.2.2 g)), mLk ([] : List (Nat × mV)), mLk ([] : List (Nat × mV)), some .int)
theorem m_X7_at (g : mG) : mMono (f_X7_at g) := mMonoL (g := g) (l := l_X7_at) (fun _ h => absurd h List.not_mem_nil) rfl

theorem v_X7_at (g : mG) (M : mM) (P : mP) (a : Nat) (i : Int32)
    (h : (i < 0 → P (some (.inl (nI 0))) M) ∧ (¬ i < 0 → ∃ (n1 : Nat) (rs2 : List (Option Nat)), mRoA a = none ∧ (mSx g)[a]? = some (0, n1, rs2) ∧ (((nI n1) ≤ i → P (some (.inl (nI 0))) M) ∧ (¬ (nI n1) ≤ i → ∃ (n3 : Nat) (rs4 : List (Option Nat)), (mSx g)[a]? = some (0, n3, rs4) ∧ vp_in i n3 ∧ (P (some (.inl (M a i.toNatClampNeg))) M))))) :
    mRun (mSx g) (f_X7_at g) P (0, [some (.inr (some a)), some (.inl i)], [], M) := mRun.vc (m_X7_at g) [] 11 h

theorem run_X7_at : mRunOf 2 t_X7_at f_X7_at := fun g as M P hT => by
  unfold t_X7_at at hT
  split at hT
  · rename_i a i
    split at hT
    · rename_i n rs ha
      refine ⟨Nat.le_refl _, v_X7_at g M P a i ⟨fun h1 => ?_, fun h1 => ⟨n, rs, (mSH_no ha).1, mSx_at ha, fun h2 => ?_, fun h2 => ⟨n, rs, mSx_at ha, ?_, ?_⟩⟩⟩⟩
      · unfold aAt at hT
        rw [if_neg (fun z => absurd h1 (by rw [Int32.not_lt]; exact z.1))] at hT
        exact hT
      · unfold aAt at hT
        rw [if_neg (fun z => absurd z.2 (by rw [Int32.not_lt]; exact h2))] at hT
        exact hT
      · rw [Int32.not_lt] at h1
        rw [Int32.not_le] at h2
        intro z
        rcases z with z | z
        · exact absurd z (by rw [Int32.not_lt]; exact h1)
        · have hn : n < 2 ^ 31 := mSH_small ha
          obtain ⟨j, hj, rfl⟩ := nI_of (by rw [Int32.not_lt]; exact h1)
          rw [nI_clamp hj] at z
          exact absurd h2 (nI_nlt z hj)
      · unfold aAt at hT
        rw [Int32.not_lt] at h1
        rw [Int32.not_le] at h2
        rw [if_pos ⟨h1, h2⟩] at hT
        exact hT
    · exact hT.elim
  · exact hT.elim
theorem ok_X7_at : mOK yX7_at cX7_at 2 (some .int) 1 t_X7_at := mOK.of f_X7_at (by decide) (fun _ => rfl) (fun g => mCodeOK kk_X7_at) (fun g => mFldL fk_RX7 rfl) (fun g idx v h => by cases h) (fun g idx v h => by cases h) (mCalL (l := l_X7_at) (fun _ h => absurd h List.not_mem_nil) (fun _ => rfl)) run_X7_at

def k_X7_set : List (Nat × mI) := [(0, .iload_n 1, 1, 1, 0, []),
  (1, .ifCond .lt 13, 3, 14, 0, []),
  (4, .iload_n 1, 1, 1, 0, []),
  (5, .aload_n 0, 1, 0, 0, []),
  (6, .arraylength, 1, 1, 0, []),
  (7, .if_icmp .ge 7, 3, 14, 0, []),
  (10, .aload_n 0, 1, 0, 0, []),
  (11, .iload_n 1, 1, 1, 0, []),
  (12, .iload_n 2, 1, 2, 0, []),
  (13, .iastore, 1, 1, 0, []),
  (14, .return_, 1, 0, 0, [])]
theorem kk_X7_set : (k_X7_set.all fun e => mChk cX7_set e.1 e.2) = true := by decide +kernel
def l_X7_set : List (Nat × Nat × (mG → mT)) := []
def f_X7_set (g : mG) : mF := (mLk k_X7_set, mLk fl_RX7, mLk (l_X7_set.map fun e => (e.1, e.2.1, e.2.2 g)), mLk ([] : List (Nat × mV)), mLk ([] : List (Nat × mV)), none)
theorem m_X7_set (g : mG) : mMono (f_X7_set g) := mMonoL (g := g) (l := l_X7_set) (fun _ h => absurd h List.not_mem_nil) rfl

theorem v_X7_set (g : mG) (M : mM) (P : mP) (a : Nat) (i v : Int32)
    (h : (i < 0 → P none M) ∧ (¬ i < 0 → ∃ (n1 : Nat) (rs2 : List (Option Nat)), mRoA a = none ∧ (mSx g)[a]? = some (0, n1, rs2) ∧ (((nI n1) ≤ i → P none M) ∧ (¬ (nI n1) ≤ i → ∃ (n3 : Nat) (rs4 : List (Option Nat)), (mSx g)[a]? = some (0, n3, rs4) ∧ vp_in i n3 ∧ (let M5 : mM := mW1 M a i.toNatClampNeg v; P none M5))))) :
    mRun (mSx g) (f_X7_set g) P (0, [some (.inr (some a)), some (.inl i), some (.inl v)], [], M) := mRun.vc (m_X7_set g) [] 11 h

theorem run_X7_set : mRunOf 3 t_X7_set f_X7_set := fun g as M P hT => by
  unfold t_X7_set at hT
  split at hT
  · rename_i a i v
    split at hT
    · rename_i n rs ha
      refine ⟨Nat.le_refl _, v_X7_set g M P a i v ⟨fun h1 => ?_, fun h1 => ⟨n, rs, (mSH_no ha).1, mSx_at ha, fun h2 => ?_, fun h2 => ⟨n, rs, mSx_at ha, ?_, ?_⟩⟩⟩⟩
      · unfold aSet at hT
        rw [if_neg (fun z => absurd h1 (by rw [Int32.not_lt]; exact z.1)), mUp_same] at hT
        exact hT
      · unfold aSet at hT
        rw [if_neg (fun z => absurd z.2 (by rw [Int32.not_lt]; exact h2)), mUp_same] at hT
        exact hT
      · rw [Int32.not_lt] at h1
        rw [Int32.not_le] at h2
        intro z
        rcases z with z | z
        · exact absurd z (by rw [Int32.not_lt]; exact h1)
        · have hn : n < 2 ^ 31 := mSH_small ha
          obtain ⟨j, hj, rfl⟩ := nI_of (by rw [Int32.not_lt]; exact h1)
          rw [nI_clamp hj] at z
          exact absurd h2 (nI_nlt z hj)
      · unfold aSet at hT
        rw [Int32.not_lt] at h1
        rw [Int32.not_le] at h2
        rw [if_pos ⟨h1, h2⟩] at hT
        exact hT
    · exact hT.elim
  · exact hT.elim
theorem ok_X7_set : mOK yX7_set cX7_set 3 (none) 1 t_X7_set := mOK.of f_X7_set (by decide) (fun _ => rfl) (fun g => mCodeOK kk_X7_set) (fun g => mFldL fk_RX7 rfl) (fun g idx v h => by cases h) (fun g idx v h => by cases h) (mCalL (l := l_X7_set) (fun _ h => absurd h List.not_mem_nil) (fun _ => rfl)) run_X7_set

abbrev t_X7_isByte : mG → mT := mP1 fByte
theorem mo_X7_isByte : mMn t_X7_isByte := mP1_mono
def k_X7_isByte : List (Nat × mI) := [(0, .iload_n 0, 1, 0, 0, []),
  (1, .ifCond .lt 14, 3, 15, 0, []),
  (4, .iload_n 0, 1, 0, 0, []),
  (5, .sipush 255, 3, 0, nI 255, []),
  (8, .if_icmp .gt 7, 3, 15, 0, []),
  (11, .iconst 1, 1, 0, nI 1, []),
  (12, .goto 4, 3, 16, 0, []),
  (15, .iconst 0, 1, 0, nI 0, []),
  (16, .ireturn, 1, 0, 0, [])]
theorem kk_X7_isByte : (k_X7_isByte.all fun e => mChk cX7_isByte e.1 e.2) = true := by decide +kernel
def l_X7_isByte : List (Nat × Nat × (mG → mT)) := []
def f_X7_isByte (g : mG) : mF := (mLk k_X7_isByte, mLk fl_RX7, mLk (l_X7_isByte.map fun e => (e.1, e.2.1, e.2.2 g)), mLk ([] : List (Nat × mV)), mLk ([] : List (Nat × mV)), some .boolean)
theorem m_X7_isByte (g : mG) : mMono (f_X7_isByte g) := mMonoL (g := g) (l := l_X7_isByte) (fun _ h => absurd h List.not_mem_nil) rfl

theorem v_X7_isByte (g : mG) (M : mM) (P : mP) (x : Int32)
    (h : (x < 0 → ((nI 0) = 0 ∨ (nI 0) = 1) ∧ P (some (.inl (nI 0))) M) ∧ (¬ x < 0 → ((nI 255) < x → ((nI 0) = 0 ∨ (nI 0) = 1) ∧ P (some (.inl (nI 0))) M) ∧ (¬ (nI 255) < x → ((nI 1) = 0 ∨ (nI 1) = 1) ∧ P (some (.inl (nI 1))) M))) :
    mRun (mSx g) (f_X7_isByte g) P (0, [some (.inl x)], [], M) := mRun.vc (m_X7_isByte g) [] 8 h

set_option maxHeartbeats 4000000 in
theorem run_X7_isByte : mRunOf 1 t_X7_isByte f_X7_isByte := runP1 (by decide) (fun g M P x h => v_X7_isByte g M P x (by
    (repeat' (first | (refine ⟨?_, ?_⟩) | (intro _)))
    all_goals first | decide | (refine mP_eq h ?_; unfold fByte; (try unfold mb); (repeat' split) <;> first | rfl | (simp_all; done) | (exfalso; simp (disch := decide) only [fa_lt, fa_le, fa_eq, nI_toInt, Int32.toInt_zero] at * <;> omega)) | (exfalso; simp (disch := decide) only [fa_lt, fa_le, fa_eq, nI_toInt, Int32.toInt_zero] at * <;> omega) | skip))
theorem ok_X7_isByte : mOK yX7_isByte cX7_isByte 1 (some .boolean) 1 t_X7_isByte := mOK.of f_X7_isByte (by decide) (fun _ => rfl) (fun g => mCodeOK kk_X7_isByte) (fun g => mFldL fk_RX7 rfl) (fun g idx v h => by cases h) (fun g idx v h => by cases h) (mCalL (l := l_X7_isByte) (fun _ h => absurd h List.not_mem_nil) (fun _ => rfl)) run_X7_isByte

abbrev t_X7_isCard : mG → mT := mP1 fCard
theorem mo_X7_isCard : mMn t_X7_isCard := mP1_mono
def k_X7_isCard : List (Nat × mI) := [(0, .iload_n 0, 1, 0, 0, []),
  (1, .ifCond .lt 13, 3, 14, 0, []),
  (4, .iload_n 0, 1, 0, 0, []),
  (5, .bipush 32, 2, 0, nI 32, []),
  (7, .if_icmp .ge 7, 3, 14, 0, []),
  (10, .iconst 1, 1, 0, nI 1, []),
  (11, .goto 4, 3, 15, 0, []),
  (14, .iconst 0, 1, 0, nI 0, []),
  (15, .ireturn, 1, 0, 0, [])]
theorem kk_X7_isCard : (k_X7_isCard.all fun e => mChk cX7_isCard e.1 e.2) = true := by decide +kernel
def l_X7_isCard : List (Nat × Nat × (mG → mT)) := []
def f_X7_isCard (g : mG) : mF := (mLk k_X7_isCard, mLk fl_RX7, mLk (l_X7_isCard.map fun e => (e.1, e.2.1, e.2.2 g)), mLk ([] : List (Nat × mV)), mLk ([] : List (Nat × mV)), some .boolean)
theorem m_X7_isCard (g : mG) : mMono (f_X7_isCard g) := mMonoL (g := g) (l := l_X7_isCard) (fun _ h => absurd h List.not_mem_nil) rfl

theorem v_X7_isCard (g : mG) (M : mM) (P : mP) (x : Int32)
    (h : (x < 0 → ((nI 0) = 0 ∨ (nI 0) = 1) ∧ P (some (.inl (nI 0))) M) ∧ (¬ x < 0 → ((nI 32) ≤ x → ((nI 0) = 0 ∨ (nI 0) = 1) ∧ P (some (.inl (nI 0))) M) ∧ (¬ (nI 32) ≤ x → ((nI 1) = 0 ∨ (nI 1) = 1) ∧ P (some (.inl (nI 1))) M))) :
    mRun (mSx g) (f_X7_isCard g) P (0, [some (.inl x)], [], M) := mRun.vc (m_X7_isCard g) [] 8 h

set_option maxHeartbeats 4000000 in
theorem run_X7_isCard : mRunOf 1 t_X7_isCard f_X7_isCard := runP1 (by decide) (fun g M P x h => v_X7_isCard g M P x (by
    (repeat' (first | (refine ⟨?_, ?_⟩) | (intro _)))
    all_goals first | decide | (refine mP_eq h ?_; unfold fCard; (try unfold mb); (repeat' split) <;> first | rfl | (simp_all; done) | (exfalso; simp (disch := decide) only [fa_lt, fa_le, fa_eq, nI_toInt, Int32.toInt_zero] at * <;> omega)) | (exfalso; simp (disch := decide) only [fa_lt, fa_le, fa_eq, nI_toInt, Int32.toInt_zero] at * <;> omega) | skip))
theorem ok_X7_isCard : mOK yX7_isCard cX7_isCard 1 (some .boolean) 1 t_X7_isCard := mOK.of f_X7_isCard (by decide) (fun _ => rfl) (fun g => mCodeOK kk_X7_isCard) (fun g => mFldL fk_RX7 rfl) (fun g idx v h => by cases h) (fun g idx v h => by cases h) (mCalL (l := l_X7_isCard) (fun _ h => absurd h List.not_mem_nil) (fun _ => rfl)) run_X7_isCard

abbrev t_X7_isHouse : mG → mT := mP1 fHouse
theorem mo_X7_isHouse : mMn t_X7_isHouse := mP1_mono
def k_X7_isHouse : List (Nat × mI) := [(0, .iload_n 0, 1, 0, 0, []),
  (1, .ifCond .lt 13, 3, 14, 0, []),
  (4, .iload_n 0, 1, 0, 0, []),
  (5, .bipush 6, 2, 0, nI 6, []),
  (7, .if_icmp .ge 7, 3, 14, 0, []),
  (10, .iconst 1, 1, 0, nI 1, []),
  (11, .goto 4, 3, 15, 0, []),
  (14, .iconst 0, 1, 0, nI 0, []),
  (15, .ireturn, 1, 0, 0, [])]
theorem kk_X7_isHouse : (k_X7_isHouse.all fun e => mChk cX7_isHouse e.1 e.2) = true := by decide +kernel
def l_X7_isHouse : List (Nat × Nat × (mG → mT)) := []
def f_X7_isHouse (g : mG) : mF := (mLk k_X7_isHouse, mLk fl_RX7, mLk (l_X7_isHouse.map fun e => (e.1, e.2.1, e.2.2 g)), mLk ([] : List (Nat × mV)), mLk ([] : List (Nat × mV)), some .boolean)
theorem m_X7_isHouse (g : mG) : mMono (f_X7_isHouse g) := mMonoL (g := g) (l := l_X7_isHouse) (fun _ h => absurd h List.not_mem_nil) rfl

theorem v_X7_isHouse (g : mG) (M : mM) (P : mP) (x : Int32)
    (h : (x < 0 → ((nI 0) = 0 ∨ (nI 0) = 1) ∧ P (some (.inl (nI 0))) M) ∧ (¬ x < 0 → ((nI 6) ≤ x → ((nI 0) = 0 ∨ (nI 0) = 1) ∧ P (some (.inl (nI 0))) M) ∧ (¬ (nI 6) ≤ x → ((nI 1) = 0 ∨ (nI 1) = 1) ∧ P (some (.inl (nI 1))) M))) :
    mRun (mSx g) (f_X7_isHouse g) P (0, [some (.inl x)], [], M) := mRun.vc (m_X7_isHouse g) [] 8 h

set_option maxHeartbeats 4000000 in
theorem run_X7_isHouse : mRunOf 1 t_X7_isHouse f_X7_isHouse := runP1 (by decide) (fun g M P x h => v_X7_isHouse g M P x (by
    (repeat' (first | (refine ⟨?_, ?_⟩) | (intro _)))
    all_goals first | decide | (refine mP_eq h ?_; unfold fHouse; (try unfold mb); (repeat' split) <;> first | rfl | (simp_all; done) | (exfalso; simp (disch := decide) only [fa_lt, fa_le, fa_eq, nI_toInt, Int32.toInt_zero] at * <;> omega)) | (exfalso; simp (disch := decide) only [fa_lt, fa_le, fa_eq, nI_toInt, Int32.toInt_zero] at * <;> omega) | skip))
theorem ok_X7_isHouse : mOK yX7_isHouse cX7_isHouse 1 (some .boolean) 1 t_X7_isHouse := mOK.of f_X7_isHouse (by decide) (fun _ => rfl) (fun g => mCodeOK kk_X7_isHouse) (fun g => mFldL fk_RX7 rfl) (fun g idx v h => by cases h) (fun g idx v h => by cases h) (mCalL (l := l_X7_isHouse) (fun _ h => absurd h List.not_mem_nil) (fun _ => rfl)) run_X7_isHouse

abbrev t_X7_nextSeed : mG → mT := mP1 fNext
theorem mo_X7_nextSeed : mMn t_X7_nextSeed := mP1_mono
def k_X7_nextSeed : List (Nat × mI) := [(0, .iload_n 0, 1, 0, 0, []),
  (1, .ldc_w 388, 3, 0, 0, []),
  (4, .imul, 1, 0, 0, []),
  (5, .sipush 12345, 3, 0, nI 12345, []),
  (8, .iadd, 1, 0, 0, []),
  (9, .ireturn, 1, 0, 0, [])]
theorem kk_X7_nextSeed : (k_X7_nextSeed.all fun e => mChk cX7_nextSeed e.1 e.2) = true := by decide +kernel
def l_X7_nextSeed : List (Nat × Nat × (mG → mT)) := []
def f_X7_nextSeed (g : mG) : mF := (mLk k_X7_nextSeed, mLk fl_RX7, mLk (l_X7_nextSeed.map fun e => (e.1, e.2.1, e.2.2 g)), mLk cs_RX7, mLk ([] : List (Nat × mV)), some .int)
theorem m_X7_nextSeed (g : mG) : mMono (f_X7_nextSeed g) := mMonoL (g := g) (l := l_X7_nextSeed) (fun _ h => absurd h List.not_mem_nil) rfl

theorem v_X7_nextSeed (g : mG) (M : mM) (P : mP) (x : Int32)
    (h : P (some (.inl ((x * (nI 1103515245)) + (nI 12345)))) M) :
    mRun (mSx g) (f_X7_nextSeed g) P (0, [some (.inl x)], [], M) := mRun.vc (m_X7_nextSeed g) [] 6 h

set_option maxHeartbeats 4000000 in
theorem run_X7_nextSeed : mRunOf 1 t_X7_nextSeed f_X7_nextSeed := runP1 (by decide) (fun g M P x h => v_X7_nextSeed g M P x (by
    (repeat' (first | (refine ⟨?_, ?_⟩) | (intro _)))
    all_goals first | decide | (refine mP_eq h ?_; unfold fNext; (try unfold mb); (repeat' split) <;> first | rfl | (simp_all; done) | (exfalso; simp (disch := decide) only [fa_lt, fa_le, fa_eq, nI_toInt, Int32.toInt_zero] at * <;> omega)) | (exfalso; simp (disch := decide) only [fa_lt, fa_le, fa_eq, nI_toInt, Int32.toInt_zero] at * <;> omega) | skip))
theorem ok_X7_nextSeed : mOK yX7_nextSeed cX7_nextSeed 1 (some .int) 1 t_X7_nextSeed := mOK.of f_X7_nextSeed (by decide) (fun _ => rfl) (fun g => mCodeOK kk_X7_nextSeed) (fun g => mFldL fk_RX7 rfl) (mCstL ck_RX7 (fun _ => rfl)) (fun g idx v h => by cases h) (mCalL (l := l_X7_nextSeed) (fun _ h => absurd h List.not_mem_nil) (fun _ => rfl)) run_X7_nextSeed

abbrev t_X7_bitOf : mG → mT := mP1 fBit
theorem mo_X7_bitOf : mMn t_X7_bitOf := mP1_mono
def k_X7_bitOf : List (Nat × mI) := [(0, .iload_n 0, 1, 0, 0, []),
  (1, .ifCond .lt 15, 3, 16, 0, []),
  (4, .iload_n 0, 1, 0, 0, []),
  (5, .bipush 32, 2, 0, nI 32, []),
  (7, .if_icmp .ge 9, 3, 16, 0, []),
  (10, .iconst 1, 1, 0, nI 1, []),
  (11, .iload_n 0, 1, 0, 0, []),
  (12, .ishl, 1, 0, 0, []),
  (13, .goto 4, 3, 17, 0, []),
  (16, .iconst 0, 1, 0, nI 0, []),
  (17, .ireturn, 1, 0, 0, [])]
theorem kk_X7_bitOf : (k_X7_bitOf.all fun e => mChk cX7_bitOf e.1 e.2) = true := by decide +kernel
def l_X7_bitOf : List (Nat × Nat × (mG → mT)) := []
def f_X7_bitOf (g : mG) : mF := (mLk k_X7_bitOf, mLk fl_RX7, mLk (l_X7_bitOf.map fun e => (e.1, e.2.1, e.2.2 g)), mLk ([] : List (Nat × mV)), mLk ([] : List (Nat × mV)), some .int)
theorem m_X7_bitOf (g : mG) : mMono (f_X7_bitOf g) := mMonoL (g := g) (l := l_X7_bitOf) (fun _ h => absurd h List.not_mem_nil) rfl

theorem v_X7_bitOf (g : mG) (M : mM) (P : mP) (x : Int32)
    (h : (x < 0 → P (some (.inl (nI 0))) M) ∧ (¬ x < 0 → ((nI 32) ≤ x → P (some (.inl (nI 0))) M) ∧ (¬ (nI 32) ≤ x → P (some (.inl ((nI 1) <<< (x &&& 31)))) M))) :
    mRun (mSx g) (f_X7_bitOf g) P (0, [some (.inl x)], [], M) := mRun.vc (m_X7_bitOf g) [] 10 h

set_option maxHeartbeats 4000000 in
theorem run_X7_bitOf : mRunOf 1 t_X7_bitOf f_X7_bitOf := runP1 (by decide) (fun g M P x h => v_X7_bitOf g M P x (by
    (repeat' (first | (refine ⟨?_, ?_⟩) | (intro _)))
    all_goals first | decide | (refine mP_eq h ?_; unfold fBit; (try unfold mb); (repeat' split) <;> first | rfl | (simp_all; done) | (exfalso; simp (disch := decide) only [fa_lt, fa_le, fa_eq, nI_toInt, Int32.toInt_zero] at * <;> omega)) | (exfalso; simp (disch := decide) only [fa_lt, fa_le, fa_eq, nI_toInt, Int32.toInt_zero] at * <;> omega) | skip))
theorem ok_X7_bitOf : mOK yX7_bitOf cX7_bitOf 1 (some .int) 1 t_X7_bitOf := mOK.of f_X7_bitOf (by decide) (fun _ => rfl) (fun g => mCodeOK kk_X7_bitOf) (fun g => mFldL fk_RX7 rfl) (fun g idx v h => by cases h) (fun g idx v h => by cases h) (mCalL (l := l_X7_bitOf) (fun _ h => absurd h List.not_mem_nil) (fun _ => rfl)) run_X7_bitOf

abbrev t_X7_bitsOfSuit : mG → mT := mP1 fSuit
theorem mo_X7_bitsOfSuit : mMn t_X7_bitsOfSuit := mP1_mono
def k_X7_bitsOfSuit : List (Nat × mI) := [(0, .iload_n 0, 1, 0, 0, []),
  (1, .ifCond .lt 19, 3, 20, 0, []),
  (4, .iload_n 0, 1, 0, 0, []),
  (5, .iconst 4, 1, 0, nI 4, []),
  (6, .if_icmp .ge 14, 3, 20, 0, []),
  (9, .sipush 255, 3, 0, nI 255, []),
  (12, .bipush 8, 2, 0, nI 8, []),
  (14, .iload_n 0, 1, 0, 0, []),
  (15, .imul, 1, 0, 0, []),
  (16, .ishl, 1, 0, 0, []),
  (17, .goto 4, 3, 21, 0, []),
  (20, .iconst 0, 1, 0, nI 0, []),
  (21, .ireturn, 1, 0, 0, [])]
theorem kk_X7_bitsOfSuit : (k_X7_bitsOfSuit.all fun e => mChk cX7_bitsOfSuit e.1 e.2) = true := by decide +kernel
def l_X7_bitsOfSuit : List (Nat × Nat × (mG → mT)) := []
def f_X7_bitsOfSuit (g : mG) : mF := (mLk k_X7_bitsOfSuit, mLk fl_RX7, mLk (l_X7_bitsOfSuit.map fun e => (e.1, e.2.1, e.2.2 g)), mLk ([] : List (Nat × mV)), mLk ([] : List (Nat × mV)), some .int)
theorem m_X7_bitsOfSuit (g : mG) : mMono (f_X7_bitsOfSuit g) := mMonoL (g := g) (l := l_X7_bitsOfSuit) (fun _ h => absurd h List.not_mem_nil) rfl

theorem v_X7_bitsOfSuit (g : mG) (M : mM) (P : mP) (x : Int32)
    (h : (x < 0 → P (some (.inl (nI 0))) M) ∧ (¬ x < 0 → ((nI 4) ≤ x → P (some (.inl (nI 0))) M) ∧ (¬ (nI 4) ≤ x → P (some (.inl ((nI 255) <<< (((nI 8) * x) &&& 31)))) M))) :
    mRun (mSx g) (f_X7_bitsOfSuit g) P (0, [some (.inl x)], [], M) := mRun.vc (m_X7_bitsOfSuit g) [] 12 h

set_option maxHeartbeats 4000000 in
theorem run_X7_bitsOfSuit : mRunOf 1 t_X7_bitsOfSuit f_X7_bitsOfSuit := runP1 (by decide) (fun g M P x h => v_X7_bitsOfSuit g M P x (by
    (repeat' (first | (refine ⟨?_, ?_⟩) | (intro _)))
    all_goals first | decide | (refine mP_eq h ?_; unfold fSuit; (try unfold mb); (repeat' split) <;> first | rfl | (simp_all; done) | (exfalso; simp (disch := decide) only [fa_lt, fa_le, fa_eq, nI_toInt, Int32.toInt_zero] at * <;> omega)) | (exfalso; simp (disch := decide) only [fa_lt, fa_le, fa_eq, nI_toInt, Int32.toInt_zero] at * <;> omega) | skip))
theorem ok_X7_bitsOfSuit : mOK yX7_bitsOfSuit cX7_bitsOfSuit 1 (some .int) 1 t_X7_bitsOfSuit := mOK.of f_X7_bitsOfSuit (by decide) (fun _ => rfl) (fun g => mCodeOK kk_X7_bitsOfSuit) (fun g => mFldL fk_RX7 rfl) (fun g idx v h => by cases h) (fun g idx v h => by cases h) (mCalL (l := l_X7_bitsOfSuit) (fun _ h => absurd h List.not_mem_nil) (fun _ => rfl)) run_X7_bitsOfSuit

abbrev t_X7_strengthOf : mG → mT := mP3 fStr
theorem mo_X7_strengthOf : mMn t_X7_strengthOf := mP3_mono
def k_X7_strengthOf : List (Nat × mI) := [(0, .iload_n 0, 1, 0, 0, []),
  (1, .bipush 8, 2, 0, nI 8, []),
  (3, .irem, 1, 0, 0, []),
  (4, .istore_n 3, 1, 3, 0, []),
  (5, .iload_n 2, 1, 2, 0, []),
  (6, .iconst 1, 1, 0, nI 1, []),
  (7, .if_icmp .ne 8, 3, 15, 0, []),
  (10, .bipush 7, 2, 0, nI 7, []),
  (12, .iload_n 3, 1, 3, 0, []),
  (13, .isub, 1, 0, 0, []),
  (14, .ireturn, 1, 0, 0, []),
  (15, .iload_n 2, 1, 2, 0, []),
  (16, .iconst 2, 1, 0, nI 2, []),
  (17, .if_icmp .ne 28, 3, 45, 0, []),
  (20, .iload_n 3, 1, 3, 0, []),
  (21, .iconst 3, 1, 0, nI 3, []),
  (22, .if_icmp .lt 23, 3, 45, 0, []),
  (25, .iload_n 3, 1, 3, 0, []),
  (26, .bipush 7, 2, 0, nI 7, []),
  (28, .if_icmp .ge 17, 3, 45, 0, []),
  (31, .iload_n 3, 1, 3, 0, []),
  (32, .iconst 3, 1, 0, nI 3, []),
  (33, .if_icmp .ne 8, 3, 41, 0, []),
  (36, .bipush 6, 2, 0, nI 6, []),
  (38, .goto 6, 3, 44, 0, []),
  (41, .iload_n 3, 1, 3, 0, []),
  (42, .iconst 1, 1, 0, nI 1, []),
  (43, .isub, 1, 0, 0, []),
  (44, .ireturn, 1, 0, 0, []),
  (45, .iload_n 2, 1, 2, 0, []),
  (46, .iconst 3, 1, 0, nI 3, []),
  (47, .if_icmp .ne 53, 3, 100, 0, []),
  (50, .iload_n 0, 1, 0, 0, []),
  (51, .bipush 8, 2, 0, nI 8, []),
  (53, .idiv, 1, 0, 0, []),
  (54, .iload_n 1, 1, 1, 0, []),
  (55, .if_icmp .ne 45, 3, 100, 0, []),
  (58, .iload_n 3, 1, 3, 0, []),
  (59, .iconst 4, 1, 0, nI 4, []),
  (60, .if_icmp .ne 6, 3, 66, 0, []),
  (63, .bipush 7, 2, 0, nI 7, []),
  (65, .ireturn, 1, 0, 0, []),
  (66, .iload_n 3, 1, 3, 0, []),
  (67, .iconst 2, 1, 0, nI 2, []),
  (68, .if_icmp .ne 8, 3, 76, 0, []),
  (71, .bipush 6, 2, 0, nI 6, []),
  (73, .goto 26, 3, 99, 0, []),
  (76, .iload_n 3, 1, 3, 0, []),
  (77, .iload_n 3, 1, 3, 0, []),
  (78, .iconst 2, 1, 0, nI 2, []),
  (79, .if_icmp .le 7, 3, 86, 0, []),
  (82, .iconst 1, 1, 0, nI 1, []),
  (83, .goto 4, 3, 87, 0, []),
  (86, .iconst 0, 1, 0, nI 0, []),
  (87, .isub, 1, 0, 0, []),
  (88, .iload_n 3, 1, 3, 0, []),
  (89, .iconst 4, 1, 0, nI 4, []),
  (90, .if_icmp .le 7, 3, 97, 0, []),
  (93, .iconst 1, 1, 0, nI 1, []),
  (94, .goto 4, 3, 98, 0, []),
  (97, .iconst 0, 1, 0, nI 0, []),
  (98, .isub, 1, 0, 0, []),
  (99, .ireturn, 1, 0, 0, []),
  (100, .iload_n 3, 1, 3, 0, []),
  (101, .ireturn, 1, 0, 0, [])]
theorem kk_X7_strengthOf : (k_X7_strengthOf.all fun e => mChk cX7_strengthOf e.1 e.2) = true := by decide +kernel
def l_X7_strengthOf : List (Nat × Nat × (mG → mT)) := []
def f_X7_strengthOf (g : mG) : mF := (mLk k_X7_strengthOf, mLk fl_RX7, mLk (l_X7_strengthOf.map fun e => (e.1, e.2.1, e.2.2 g)), mLk ([] : List (Nat × mV)), mLk ([] : List (Nat × mV)), some .int)
theorem m_X7_strengthOf (g : mG) : mMono (f_X7_strengthOf g) := mMonoL (g := g) (l := l_X7_strengthOf) (fun _ h => absurd h List.not_mem_nil) rfl

theorem v_X7_strengthOf (g : mG) (M : mM) (P : mP) (x y z : Int32)
    (h : ¬ (nI 8) = 0 ∧ ((¬ z = (nI 1) → (¬ z = (nI 2) → (¬ z = (nI 3) → P (some (.inl (x - x / (nI 8) * (nI 8)))) M) ∧ (¬ (¬ z = (nI 3)) → ¬ (nI 8) = 0 ∧ ((¬ (x / (nI 8)) = y → P (some (.inl (x - x / (nI 8) * (nI 8)))) M) ∧ (¬ (¬ (x / (nI 8)) = y) → (¬ (x - x / (nI 8) * (nI 8)) = (nI 4) → (¬ (x - x / (nI 8) * (nI 8)) = (nI 2) → ((x - x / (nI 8) * (nI 8)) ≤ (nI 2) → ((x - x / (nI 8) * (nI 8)) ≤ (nI 4) → P (some (.inl (((x - x / (nI 8) * (nI 8)) - (nI 0)) - (nI 0)))) M) ∧ (¬ (x - x / (nI 8) * (nI 8)) ≤ (nI 4) → P (some (.inl (((x - x / (nI 8) * (nI 8)) - (nI 0)) - (nI 1)))) M)) ∧ (¬ (x - x / (nI 8) * (nI 8)) ≤ (nI 2) → ((x - x / (nI 8) * (nI 8)) ≤ (nI 4) → P (some (.inl (((x - x / (nI 8) * (nI 8)) - (nI 1)) - (nI 0)))) M) ∧ (¬ (x - x / (nI 8) * (nI 8)) ≤ (nI 4) → P (some (.inl (((x - x / (nI 8) * (nI 8)) - (nI 1)) - (nI 1)))) M))) ∧ (¬ (¬ (x - x / (nI 8) * (nI 8)) = (nI 2)) → P (some (.inl (nI 6))) M)) ∧ (¬ (¬ (x - x / (nI 8) * (nI 8)) = (nI 4)) → P (some (.inl (nI 7))) M))))) ∧ (¬ (¬ z = (nI 2)) → ((x - x / (nI 8) * (nI 8)) < (nI 3) → (¬ z = (nI 3) → P (some (.inl (x - x / (nI 8) * (nI 8)))) M) ∧ (¬ (¬ z = (nI 3)) → ¬ (nI 8) = 0 ∧ ((¬ (x / (nI 8)) = y → P (some (.inl (x - x / (nI 8) * (nI 8)))) M) ∧ (¬ (¬ (x / (nI 8)) = y) → (¬ (x - x / (nI 8) * (nI 8)) = (nI 4) → (¬ (x - x / (nI 8) * (nI 8)) = (nI 2) → ((x - x / (nI 8) * (nI 8)) ≤ (nI 2) → ((x - x / (nI 8) * (nI 8)) ≤ (nI 4) → P (some (.inl (((x - x / (nI 8) * (nI 8)) - (nI 0)) - (nI 0)))) M) ∧ (¬ (x - x / (nI 8) * (nI 8)) ≤ (nI 4) → P (some (.inl (((x - x / (nI 8) * (nI 8)) - (nI 0)) - (nI 1)))) M)) ∧ (¬ (x - x / (nI 8) * (nI 8)) ≤ (nI 2) → ((x - x / (nI 8) * (nI 8)) ≤ (nI 4) → P (some (.inl (((x - x / (nI 8) * (nI 8)) - (nI 1)) - (nI 0)))) M) ∧ (¬ (x - x / (nI 8) * (nI 8)) ≤ (nI 4) → P (some (.inl (((x - x / (nI 8) * (nI 8)) - (nI 1)) - (nI 1)))) M))) ∧ (¬ (¬ (x - x / (nI 8) * (nI 8)) = (nI 2)) → P (some (.inl (nI 6))) M)) ∧ (¬ (¬ (x - x / (nI 8) * (nI 8)) = (nI 4)) → P (some (.inl (nI 7))) M))))) ∧ (¬ (x - x / (nI 8) * (nI 8)) < (nI 3) → ((nI 7) ≤ (x - x / (nI 8) * (nI 8)) → (¬ z = (nI 3) → P (some (.inl (x - x / (nI 8) * (nI 8)))) M) ∧ (¬ (¬ z = (nI 3)) → ¬ (nI 8) = 0 ∧ ((¬ (x / (nI 8)) = y → P (some (.inl (x - x / (nI 8) * (nI 8)))) M) ∧ (¬ (¬ (x / (nI 8)) = y) → (¬ (x - x / (nI 8) * (nI 8)) = (nI 4) → (¬ (x - x / (nI 8) * (nI 8)) = (nI 2) → ((x - x / (nI 8) * (nI 8)) ≤ (nI 2) → ((x - x / (nI 8) * (nI 8)) ≤ (nI 4) → P (some (.inl (((x - x / (nI 8) * (nI 8)) - (nI 0)) - (nI 0)))) M) ∧ (¬ (x - x / (nI 8) * (nI 8)) ≤ (nI 4) → P (some (.inl (((x - x / (nI 8) * (nI 8)) - (nI 0)) - (nI 1)))) M)) ∧ (¬ (x - x / (nI 8) * (nI 8)) ≤ (nI 2) → ((x - x / (nI 8) * (nI 8)) ≤ (nI 4) → P (some (.inl (((x - x / (nI 8) * (nI 8)) - (nI 1)) - (nI 0)))) M) ∧ (¬ (x - x / (nI 8) * (nI 8)) ≤ (nI 4) → P (some (.inl (((x - x / (nI 8) * (nI 8)) - (nI 1)) - (nI 1)))) M))) ∧ (¬ (¬ (x - x / (nI 8) * (nI 8)) = (nI 2)) → P (some (.inl (nI 6))) M)) ∧ (¬ (¬ (x - x / (nI 8) * (nI 8)) = (nI 4)) → P (some (.inl (nI 7))) M))))) ∧ (¬ (nI 7) ≤ (x - x / (nI 8) * (nI 8)) → (¬ (x - x / (nI 8) * (nI 8)) = (nI 3) → P (some (.inl ((x - x / (nI 8) * (nI 8)) - (nI 1)))) M) ∧ (¬ (¬ (x - x / (nI 8) * (nI 8)) = (nI 3)) → P (some (.inl (nI 6))) M))))) ∧ (¬ (¬ z = (nI 1)) → P (some (.inl ((nI 7) - (x - x / (nI 8) * (nI 8))))) M))) :
    mRun (mSx g) (f_X7_strengthOf g) P (0, [some (.inl x), some (.inl y), some (.inl z), none], [], M) := mRun.vc (m_X7_strengthOf g) [] 44 h

set_option maxHeartbeats 4000000 in
theorem run_X7_strengthOf : mRunOf 4 t_X7_strengthOf f_X7_strengthOf := runP3 (by decide) (fun g M P x y z h => v_X7_strengthOf g M P x y z (by
    (repeat' (first | (refine ⟨?_, ?_⟩) | (intro _)))
    all_goals first | decide | (refine mP_eq h ?_; unfold fStr; (try unfold mb); (repeat' split) <;> first | rfl | (simp_all; done) | (exfalso; simp (disch := decide) only [fa_lt, fa_le, fa_eq, nI_toInt, Int32.toInt_zero] at * <;> omega)) | (exfalso; simp (disch := decide) only [fa_lt, fa_le, fa_eq, nI_toInt, Int32.toInt_zero] at * <;> omega) | skip))
theorem ok_X7_strengthOf : mOK yX7_strengthOf cX7_strengthOf 4 (some .int) 1 t_X7_strengthOf := mOK.of f_X7_strengthOf (by decide) (fun _ => rfl) (fun g => mCodeOK kk_X7_strengthOf) (fun g => mFldL fk_RX7 rfl) (fun g idx v h => by cases h) (fun g idx v h => by cases h) (mCalL (l := l_X7_strengthOf) (fun _ h => absurd h List.not_mem_nil) (fun _ => rfl)) run_X7_strengthOf

abbrev t_X8_in : mG → mT := mP3 fIn
theorem mo_X8_in : mMn t_X8_in := mP3_mono
def k_X8_in : List (Nat × mI) := [(0, .iload_n 0, 1, 0, 0, []),
  (1, .iload_n 1, 1, 1, 0, []),
  (2, .if_icmp .lt 12, 3, 14, 0, []),
  (5, .iload_n 0, 1, 0, 0, []),
  (6, .iload_n 2, 1, 2, 0, []),
  (7, .if_icmp .gt 7, 3, 14, 0, []),
  (10, .iconst 1, 1, 0, nI 1, []),
  (11, .goto 4, 3, 15, 0, []),
  (14, .iconst 0, 1, 0, nI 0, []),
  (15, .ireturn, 1, 0, 0, [])]
theorem kk_X8_in : (k_X8_in.all fun e => mChk cX8_in e.1 e.2) = true := by decide +kernel
def l_X8_in : List (Nat × Nat × (mG → mT)) := []
def f_X8_in (g : mG) : mF := (mLk k_X8_in, mLk fl_RX8, mLk (l_X8_in.map fun e => (e.1, e.2.1, e.2.2 g)), mLk ([] : List (Nat × mV)), mLk ([] : List (Nat × mV)), some .boolean)
theorem m_X8_in (g : mG) : mMono (f_X8_in g) := mMonoL (g := g) (l := l_X8_in) (fun _ h => absurd h List.not_mem_nil) rfl

theorem v_X8_in (g : mG) (M : mM) (P : mP) (x y z : Int32)
    (h : (x < y → ((nI 0) = 0 ∨ (nI 0) = 1) ∧ P (some (.inl (nI 0))) M) ∧ (¬ x < y → (z < x → ((nI 0) = 0 ∨ (nI 0) = 1) ∧ P (some (.inl (nI 0))) M) ∧ (¬ z < x → ((nI 1) = 0 ∨ (nI 1) = 1) ∧ P (some (.inl (nI 1))) M))) :
    mRun (mSx g) (f_X8_in g) P (0, [some (.inl x), some (.inl y), some (.inl z)], [], M) := mRun.vc (m_X8_in g) [] 9 h

set_option maxHeartbeats 4000000 in
theorem run_X8_in : mRunOf 3 t_X8_in f_X8_in := runP3 (by decide) (fun g M P x y z h => v_X8_in g M P x y z (by
    (repeat' (first | (refine ⟨?_, ?_⟩) | (intro _)))
    all_goals first | decide | (refine mP_eq h ?_; unfold fIn; (try unfold mb); (repeat' split) <;> first | rfl | (simp_all; done) | (exfalso; simp (disch := decide) only [fa_lt, fa_le, fa_eq, nI_toInt, Int32.toInt_zero] at * <;> omega)) | (exfalso; simp (disch := decide) only [fa_lt, fa_le, fa_eq, nI_toInt, Int32.toInt_zero] at * <;> omega) | skip))
theorem ok_X8_in : mOK yX8_in cX8_in 3 (some .boolean) 1 t_X8_in := mOK.of f_X8_in (by decide) (fun _ => rfl) (fun g => mCodeOK kk_X8_in) (fun g => mFldL fk_RX8 rfl) (fun g idx v h => by cases h) (fun g idx v h => by cases h) (mCalL (l := l_X8_in) (fun _ h => absurd h List.not_mem_nil) (fun _ => rfl)) run_X8_in

abbrev t_X8_side : mG → mT := mP1 fSide
theorem mo_X8_side : mMn t_X8_side := mP1_mono
def k_X8_side : List (Nat × mI) := [(0, .iload_n 0, 1, 0, 0, []),
  (1, .iconst 2, 1, 0, nI 2, []),
  (2, .irem, 1, 0, 0, []),
  (3, .ireturn, 1, 0, 0, [])]
theorem kk_X8_side : (k_X8_side.all fun e => mChk cX8_side e.1 e.2) = true := by decide +kernel
def l_X8_side : List (Nat × Nat × (mG → mT)) := []
def f_X8_side (g : mG) : mF := (mLk k_X8_side, mLk fl_RX8, mLk (l_X8_side.map fun e => (e.1, e.2.1, e.2.2 g)), mLk ([] : List (Nat × mV)), mLk ([] : List (Nat × mV)), some .int)
theorem m_X8_side (g : mG) : mMono (f_X8_side g) := mMonoL (g := g) (l := l_X8_side) (fun _ h => absurd h List.not_mem_nil) rfl

theorem v_X8_side (g : mG) (M : mM) (P : mP) (x : Int32)
    (h : ¬ (nI 2) = 0 ∧ (P (some (.inl (x - x / (nI 2) * (nI 2)))) M)) :
    mRun (mSx g) (f_X8_side g) P (0, [some (.inl x)], [], M) := mRun.vc (m_X8_side g) [] 4 h

set_option maxHeartbeats 4000000 in
theorem run_X8_side : mRunOf 1 t_X8_side f_X8_side := runP1 (by decide) (fun g M P x h => v_X8_side g M P x (by
    (repeat' (first | (refine ⟨?_, ?_⟩) | (intro _)))
    all_goals first | decide | (refine mP_eq h ?_; unfold fSide; (try unfold mb); (repeat' split) <;> first | rfl | (simp_all; done) | (exfalso; simp (disch := decide) only [fa_lt, fa_le, fa_eq, nI_toInt, Int32.toInt_zero] at * <;> omega)) | (exfalso; simp (disch := decide) only [fa_lt, fa_le, fa_eq, nI_toInt, Int32.toInt_zero] at * <;> omega) | skip))
theorem ok_X8_side : mOK yX8_side cX8_side 1 (some .int) 1 t_X8_side := mOK.of f_X8_side (by decide) (fun _ => rfl) (fun g => mCodeOK kk_X8_side) (fun g => mFldL fk_RX8 rfl) (fun g idx v h => by cases h) (fun g idx v h => by cases h) (mCalL (l := l_X8_side) (fun _ h => absurd h List.not_mem_nil) (fun _ => rfl)) run_X8_side

abbrev t_X8_bit : mG → mT := mP1 fSh1
theorem mo_X8_bit : mMn t_X8_bit := mP1_mono
def k_X8_bit : List (Nat × mI) := [(0, .iconst 1, 1, 0, nI 1, []),
  (1, .iload_n 0, 1, 0, 0, []),
  (2, .ishl, 1, 0, 0, []),
  (3, .ireturn, 1, 0, 0, [])]
theorem kk_X8_bit : (k_X8_bit.all fun e => mChk cX8_bit e.1 e.2) = true := by decide +kernel
def l_X8_bit : List (Nat × Nat × (mG → mT)) := []
def f_X8_bit (g : mG) : mF := (mLk k_X8_bit, mLk fl_RX8, mLk (l_X8_bit.map fun e => (e.1, e.2.1, e.2.2 g)), mLk ([] : List (Nat × mV)), mLk ([] : List (Nat × mV)), some .int)
theorem m_X8_bit (g : mG) : mMono (f_X8_bit g) := mMonoL (g := g) (l := l_X8_bit) (fun _ h => absurd h List.not_mem_nil) rfl

theorem v_X8_bit (g : mG) (M : mM) (P : mP) (x : Int32)
    (h : P (some (.inl ((nI 1) <<< (x &&& 31)))) M) :
    mRun (mSx g) (f_X8_bit g) P (0, [some (.inl x)], [], M) := mRun.vc (m_X8_bit g) [] 4 h

set_option maxHeartbeats 4000000 in
theorem run_X8_bit : mRunOf 1 t_X8_bit f_X8_bit := runP1 (by decide) (fun g M P x h => v_X8_bit g M P x (by
    (repeat' (first | (refine ⟨?_, ?_⟩) | (intro _)))
    all_goals first | decide | (refine mP_eq h ?_; unfold fSh1; (try unfold mb); (repeat' split) <;> first | rfl | (simp_all; done) | (exfalso; simp (disch := decide) only [fa_lt, fa_le, fa_eq, nI_toInt, Int32.toInt_zero] at * <;> omega)) | (exfalso; simp (disch := decide) only [fa_lt, fa_le, fa_eq, nI_toInt, Int32.toInt_zero] at * <;> omega) | skip))
theorem ok_X8_bit : mOK yX8_bit cX8_bit 1 (some .int) 1 t_X8_bit := mOK.of f_X8_bit (by decide) (fun _ => rfl) (fun g => mCodeOK kk_X8_bit) (fun g => mFldL fk_RX8 rfl) (fun g idx v h => by cases h) (fun g idx v h => by cases h) (mCalL (l := l_X8_bit) (fun _ h => absurd h List.not_mem_nil) (fun _ => rfl)) run_X8_bit

abbrev t_X8_has : mG → mT := mP2 fHas
theorem mo_X8_has : mMn t_X8_has := mP2_mono
def k_X8_has : List (Nat × mI) := [(0, .iload_n 0, 1, 0, 0, []),
  (1, .iload_n 1, 1, 1, 0, []),
  (2, .iushr, 1, 0, 0, []),
  (3, .iconst 1, 1, 0, nI 1, []),
  (4, .iand, 1, 0, 0, []),
  (5, .iconst 1, 1, 0, nI 1, []),
  (6, .if_icmp .ne 7, 3, 13, 0, []),
  (9, .iconst 1, 1, 0, nI 1, []),
  (10, .goto 4, 3, 14, 0, []),
  (13, .iconst 0, 1, 0, nI 0, []),
  (14, .ireturn, 1, 0, 0, [])]
theorem kk_X8_has : (k_X8_has.all fun e => mChk cX8_has e.1 e.2) = true := by decide +kernel
def l_X8_has : List (Nat × Nat × (mG → mT)) := []
def f_X8_has (g : mG) : mF := (mLk k_X8_has, mLk fl_RX8, mLk (l_X8_has.map fun e => (e.1, e.2.1, e.2.2 g)), mLk ([] : List (Nat × mV)), mLk ([] : List (Nat × mV)), some .boolean)
theorem m_X8_has (g : mG) : mMono (f_X8_has g) := mMonoL (g := g) (l := l_X8_has) (fun _ h => absurd h List.not_mem_nil) rfl

theorem v_X8_has (g : mG) (M : mM) (P : mP) (x y : Int32)
    (h : (¬ (((x.toUInt32 >>> (y.toUInt32 &&& Int32.toUInt32 31)).toInt32) &&& (nI 1)) = (nI 1) → ((nI 0) = 0 ∨ (nI 0) = 1) ∧ P (some (.inl (nI 0))) M) ∧ (¬ (¬ (((x.toUInt32 >>> (y.toUInt32 &&& Int32.toUInt32 31)).toInt32) &&& (nI 1)) = (nI 1)) → ((nI 1) = 0 ∨ (nI 1) = 1) ∧ P (some (.inl (nI 1))) M)) :
    mRun (mSx g) (f_X8_has g) P (0, [some (.inl x), some (.inl y)], [], M) := mRun.vc (m_X8_has g) [] 10 h

set_option maxHeartbeats 4000000 in
theorem run_X8_has : mRunOf 2 t_X8_has f_X8_has := runP2 (by decide) (fun g M P x y h => v_X8_has g M P x y (by
    (repeat' (first | (refine ⟨?_, ?_⟩) | (intro _)))
    all_goals first | decide | (refine mP_eq h ?_; unfold fHas; (try unfold mb); (repeat' split) <;> first | rfl | (simp_all; done) | (exfalso; simp (disch := decide) only [fa_lt, fa_le, fa_eq, nI_toInt, Int32.toInt_zero] at * <;> omega)) | (exfalso; simp (disch := decide) only [fa_lt, fa_le, fa_eq, nI_toInt, Int32.toInt_zero] at * <;> omega) | skip))
theorem ok_X8_has : mOK yX8_has cX8_has 2 (some .boolean) 1 t_X8_has := mOK.of f_X8_has (by decide) (fun _ => rfl) (fun g => mCodeOK kk_X8_has) (fun g => mFldL fk_RX8 rfl) (fun g idx v h => by cases h) (fun g idx v h => by cases h) (mCalL (l := l_X8_has) (fun _ h => absurd h List.not_mem_nil) (fun _ => rfl)) run_X8_has

abbrev t_X8_strengthBy : mG → mT := mP3 fStrB
theorem mo_X8_strengthBy : mMn t_X8_strengthBy := mP3_mono
def k_X8_strengthBy : List (Nat × mI) := [(0, .iload_n 0, 1, 0, 0, []),
  (1, .bipush 8, 2, 0, nI 8, []),
  (3, .irem, 1, 0, 0, []),
  (4, .istore_n 3, 1, 3, 0, []),
  (5, .iload_n 0, 1, 0, 0, []),
  (6, .bipush 8, 2, 0, nI 8, []),
  (8, .idiv, 1, 0, 0, []),
  (9, .iload_n 1, 1, 1, 0, []),
  (10, .if_icmp .ne 7, 3, 17, 0, []),
  (13, .iconst 1, 1, 0, nI 1, []),
  (14, .goto 4, 3, 18, 0, []),
  (17, .iconst 0, 1, 0, nI 0, []),
  (18, .istore 4, 2, 4, 0, []),
  (20, .iload_n 2, 1, 2, 0, []),
  (21, .iconst 1, 1, 0, nI 1, []),
  (22, .if_icmp .ne 10, 3, 32, 0, []),
  (25, .iconst 2, 1, 0, nI 2, []),
  (26, .bipush 7, 2, 0, nI 7, []),
  (28, .iload_n 3, 1, 3, 0, []),
  (29, .isub, 1, 0, 0, []),
  (30, .imul, 1, 0, 0, []),
  (31, .ireturn, 1, 0, 0, []),
  (32, .iload_n 2, 1, 2, 0, []),
  (33, .iconst 2, 1, 0, nI 2, []),
  (34, .if_icmp .ne 11, 3, 45, 0, []),
  (37, .iload_n 3, 1, 3, 0, []),
  (38, .iconst 3, 1, 0, nI 3, []),
  (39, .if_icmp .ne 6, 3, 45, 0, []),
  (42, .bipush 13, 2, 0, nI 13, []),
  (44, .ireturn, 1, 0, 0, []),
  (45, .iload_n 2, 1, 2, 0, []),
  (46, .iconst 3, 1, 0, nI 3, []),
  (47, .if_icmp .ne 16, 3, 63, 0, []),
  (50, .iload 4, 2, 4, 0, []),
  (52, .ifCond .eq 11, 3, 63, 0, []),
  (55, .iload_n 3, 1, 3, 0, []),
  (56, .iconst 4, 1, 0, nI 4, []),
  (57, .if_icmp .ne 6, 3, 63, 0, []),
  (60, .bipush 20, 2, 0, nI 20, []),
  (62, .ireturn, 1, 0, 0, []),
  (63, .iload_n 2, 1, 2, 0, []),
  (64, .iconst 3, 1, 0, nI 3, []),
  (65, .if_icmp .ne 18, 3, 83, 0, []),
  (68, .iload 4, 2, 4, 0, []),
  (70, .ifCond .eq 13, 3, 83, 0, []),
  (73, .iload_n 3, 1, 3, 0, []),
  (74, .iconst 2, 1, 0, nI 2, []),
  (75, .if_icmp .ne 8, 3, 83, 0, []),
  (78, .bipush 18, 2, 0, nI 18, []),
  (80, .goto 6, 3, 86, 0, []),
  (83, .iconst 2, 1, 0, nI 2, []),
  (84, .iload_n 3, 1, 3, 0, []),
  (85, .imul, 1, 0, 0, []),
  (86, .ireturn, 1, 0, 0, [])]
theorem kk_X8_strengthBy : (k_X8_strengthBy.all fun e => mChk cX8_strengthBy e.1 e.2) = true := by decide +kernel
def l_X8_strengthBy : List (Nat × Nat × (mG → mT)) := []
def f_X8_strengthBy (g : mG) : mF := (mLk k_X8_strengthBy, mLk fl_RX8, mLk (l_X8_strengthBy.map fun e => (e.1, e.2.1, e.2.2 g)), mLk ([] : List (Nat × mV)), mLk ([] : List (Nat × mV)), some .int)
theorem m_X8_strengthBy (g : mG) : mMono (f_X8_strengthBy g) := mMonoL (g := g) (l := l_X8_strengthBy) (fun _ h => absurd h List.not_mem_nil) rfl

theorem v_X8_strengthBy (g : mG) (M : mM) (P : mP) (x y z : Int32)
    (h : ¬ (nI 8) = 0 ∧ (¬ (nI 8) = 0 ∧ ((¬ (x / (nI 8)) = y → (¬ z = (nI 1) → (¬ z = (nI 2) → (¬ z = (nI 3) → (¬ z = (nI 3) → P (some (.inl ((nI 2) * (x - x / (nI 8) * (nI 8))))) M) ∧ (¬ (¬ z = (nI 3)) → ((nI 0) = 0 → P (some (.inl ((nI 2) * (x - x / (nI 8) * (nI 8))))) M) ∧ (¬ (nI 0) = 0 → (¬ (x - x / (nI 8) * (nI 8)) = (nI 2) → P (some (.inl ((nI 2) * (x - x / (nI 8) * (nI 8))))) M) ∧ (¬ (¬ (x - x / (nI 8) * (nI 8)) = (nI 2)) → P (some (.inl (nI 18))) M)))) ∧ (¬ (¬ z = (nI 3)) → ((nI 0) = 0 → (¬ z = (nI 3) → P (some (.inl ((nI 2) * (x - x / (nI 8) * (nI 8))))) M) ∧ (¬ (¬ z = (nI 3)) → ((nI 0) = 0 → P (some (.inl ((nI 2) * (x - x / (nI 8) * (nI 8))))) M) ∧ (¬ (nI 0) = 0 → (¬ (x - x / (nI 8) * (nI 8)) = (nI 2) → P (some (.inl ((nI 2) * (x - x / (nI 8) * (nI 8))))) M) ∧ (¬ (¬ (x - x / (nI 8) * (nI 8)) = (nI 2)) → P (some (.inl (nI 18))) M)))) ∧ (¬ (nI 0) = 0 → (¬ (x - x / (nI 8) * (nI 8)) = (nI 4) → (¬ z = (nI 3) → P (some (.inl ((nI 2) * (x - x / (nI 8) * (nI 8))))) M) ∧ (¬ (¬ z = (nI 3)) → ((nI 0) = 0 → P (some (.inl ((nI 2) * (x - x / (nI 8) * (nI 8))))) M) ∧ (¬ (nI 0) = 0 → (¬ (x - x / (nI 8) * (nI 8)) = (nI 2) → P (some (.inl ((nI 2) * (x - x / (nI 8) * (nI 8))))) M) ∧ (¬ (¬ (x - x / (nI 8) * (nI 8)) = (nI 2)) → P (some (.inl (nI 18))) M)))) ∧ (¬ (¬ (x - x / (nI 8) * (nI 8)) = (nI 4)) → P (some (.inl (nI 20))) M)))) ∧ (¬ (¬ z = (nI 2)) → (¬ (x - x / (nI 8) * (nI 8)) = (nI 3) → (¬ z = (nI 3) → (¬ z = (nI 3) → P (some (.inl ((nI 2) * (x - x / (nI 8) * (nI 8))))) M) ∧ (¬ (¬ z = (nI 3)) → ((nI 0) = 0 → P (some (.inl ((nI 2) * (x - x / (nI 8) * (nI 8))))) M) ∧ (¬ (nI 0) = 0 → (¬ (x - x / (nI 8) * (nI 8)) = (nI 2) → P (some (.inl ((nI 2) * (x - x / (nI 8) * (nI 8))))) M) ∧ (¬ (¬ (x - x / (nI 8) * (nI 8)) = (nI 2)) → P (some (.inl (nI 18))) M)))) ∧ (¬ (¬ z = (nI 3)) → ((nI 0) = 0 → (¬ z = (nI 3) → P (some (.inl ((nI 2) * (x - x / (nI 8) * (nI 8))))) M) ∧ (¬ (¬ z = (nI 3)) → ((nI 0) = 0 → P (some (.inl ((nI 2) * (x - x / (nI 8) * (nI 8))))) M) ∧ (¬ (nI 0) = 0 → (¬ (x - x / (nI 8) * (nI 8)) = (nI 2) → P (some (.inl ((nI 2) * (x - x / (nI 8) * (nI 8))))) M) ∧ (¬ (¬ (x - x / (nI 8) * (nI 8)) = (nI 2)) → P (some (.inl (nI 18))) M)))) ∧ (¬ (nI 0) = 0 → (¬ (x - x / (nI 8) * (nI 8)) = (nI 4) → (¬ z = (nI 3) → P (some (.inl ((nI 2) * (x - x / (nI 8) * (nI 8))))) M) ∧ (¬ (¬ z = (nI 3)) → ((nI 0) = 0 → P (some (.inl ((nI 2) * (x - x / (nI 8) * (nI 8))))) M) ∧ (¬ (nI 0) = 0 → (¬ (x - x / (nI 8) * (nI 8)) = (nI 2) → P (some (.inl ((nI 2) * (x - x / (nI 8) * (nI 8))))) M) ∧ (¬ (¬ (x - x / (nI 8) * (nI 8)) = (nI 2)) → P (some (.inl (nI 18))) M)))) ∧ (¬ (¬ (x - x / (nI 8) * (nI 8)) = (nI 4)) → P (some (.inl (nI 20))) M)))) ∧ (¬ (¬ (x - x / (nI 8) * (nI 8)) = (nI 3)) → P (some (.inl (nI 13))) M))) ∧ (¬ (¬ z = (nI 1)) → P (some (.inl ((nI 2) * ((nI 7) - (x - x / (nI 8) * (nI 8)))))) M)) ∧ (¬ (¬ (x / (nI 8)) = y) → (¬ z = (nI 1) → (¬ z = (nI 2) → (¬ z = (nI 3) → (¬ z = (nI 3) → P (some (.inl ((nI 2) * (x - x / (nI 8) * (nI 8))))) M) ∧ (¬ (¬ z = (nI 3)) → ((nI 1) = 0 → P (some (.inl ((nI 2) * (x - x / (nI 8) * (nI 8))))) M) ∧ (¬ (nI 1) = 0 → (¬ (x - x / (nI 8) * (nI 8)) = (nI 2) → P (some (.inl ((nI 2) * (x - x / (nI 8) * (nI 8))))) M) ∧ (¬ (¬ (x - x / (nI 8) * (nI 8)) = (nI 2)) → P (some (.inl (nI 18))) M)))) ∧ (¬ (¬ z = (nI 3)) → ((nI 1) = 0 → (¬ z = (nI 3) → P (some (.inl ((nI 2) * (x - x / (nI 8) * (nI 8))))) M) ∧ (¬ (¬ z = (nI 3)) → ((nI 1) = 0 → P (some (.inl ((nI 2) * (x - x / (nI 8) * (nI 8))))) M) ∧ (¬ (nI 1) = 0 → (¬ (x - x / (nI 8) * (nI 8)) = (nI 2) → P (some (.inl ((nI 2) * (x - x / (nI 8) * (nI 8))))) M) ∧ (¬ (¬ (x - x / (nI 8) * (nI 8)) = (nI 2)) → P (some (.inl (nI 18))) M)))) ∧ (¬ (nI 1) = 0 → (¬ (x - x / (nI 8) * (nI 8)) = (nI 4) → (¬ z = (nI 3) → P (some (.inl ((nI 2) * (x - x / (nI 8) * (nI 8))))) M) ∧ (¬ (¬ z = (nI 3)) → ((nI 1) = 0 → P (some (.inl ((nI 2) * (x - x / (nI 8) * (nI 8))))) M) ∧ (¬ (nI 1) = 0 → (¬ (x - x / (nI 8) * (nI 8)) = (nI 2) → P (some (.inl ((nI 2) * (x - x / (nI 8) * (nI 8))))) M) ∧ (¬ (¬ (x - x / (nI 8) * (nI 8)) = (nI 2)) → P (some (.inl (nI 18))) M)))) ∧ (¬ (¬ (x - x / (nI 8) * (nI 8)) = (nI 4)) → P (some (.inl (nI 20))) M)))) ∧ (¬ (¬ z = (nI 2)) → (¬ (x - x / (nI 8) * (nI 8)) = (nI 3) → (¬ z = (nI 3) → (¬ z = (nI 3) → P (some (.inl ((nI 2) * (x - x / (nI 8) * (nI 8))))) M) ∧ (¬ (¬ z = (nI 3)) → ((nI 1) = 0 → P (some (.inl ((nI 2) * (x - x / (nI 8) * (nI 8))))) M) ∧ (¬ (nI 1) = 0 → (¬ (x - x / (nI 8) * (nI 8)) = (nI 2) → P (some (.inl ((nI 2) * (x - x / (nI 8) * (nI 8))))) M) ∧ (¬ (¬ (x - x / (nI 8) * (nI 8)) = (nI 2)) → P (some (.inl (nI 18))) M)))) ∧ (¬ (¬ z = (nI 3)) → ((nI 1) = 0 → (¬ z = (nI 3) → P (some (.inl ((nI 2) * (x - x / (nI 8) * (nI 8))))) M) ∧ (¬ (¬ z = (nI 3)) → ((nI 1) = 0 → P (some (.inl ((nI 2) * (x - x / (nI 8) * (nI 8))))) M) ∧ (¬ (nI 1) = 0 → (¬ (x - x / (nI 8) * (nI 8)) = (nI 2) → P (some (.inl ((nI 2) * (x - x / (nI 8) * (nI 8))))) M) ∧ (¬ (¬ (x - x / (nI 8) * (nI 8)) = (nI 2)) → P (some (.inl (nI 18))) M)))) ∧ (¬ (nI 1) = 0 → (¬ (x - x / (nI 8) * (nI 8)) = (nI 4) → (¬ z = (nI 3) → P (some (.inl ((nI 2) * (x - x / (nI 8) * (nI 8))))) M) ∧ (¬ (¬ z = (nI 3)) → ((nI 1) = 0 → P (some (.inl ((nI 2) * (x - x / (nI 8) * (nI 8))))) M) ∧ (¬ (nI 1) = 0 → (¬ (x - x / (nI 8) * (nI 8)) = (nI 2) → P (some (.inl ((nI 2) * (x - x / (nI 8) * (nI 8))))) M) ∧ (¬ (¬ (x - x / (nI 8) * (nI 8)) = (nI 2)) → P (some (.inl (nI 18))) M)))) ∧ (¬ (¬ (x - x / (nI 8) * (nI 8)) = (nI 4)) → P (some (.inl (nI 20))) M)))) ∧ (¬ (¬ (x - x / (nI 8) * (nI 8)) = (nI 3)) → P (some (.inl (nI 13))) M))) ∧ (¬ (¬ z = (nI 1)) → P (some (.inl ((nI 2) * ((nI 7) - (x - x / (nI 8) * (nI 8)))))) M))))) :
    mRun (mSx g) (f_X8_strengthBy g) P (0, [some (.inl x), some (.inl y), some (.inl z), none, none], [], M) := mRun.vc (m_X8_strengthBy g) [] 41 h

set_option maxHeartbeats 4000000 in
theorem run_X8_strengthBy : mRunOf 5 t_X8_strengthBy f_X8_strengthBy := runP3 (by decide) (fun g M P x y z h => v_X8_strengthBy g M P x y z (by
    (repeat' (first | (refine ⟨?_, ?_⟩) | (intro _)))
    all_goals first | decide | (refine mP_eq h ?_; unfold fStrB; (try unfold mb); (repeat' split) <;> first | rfl | (simp_all; done) | (exfalso; simp (disch := decide) only [fa_lt, fa_le, fa_eq, nI_toInt, Int32.toInt_zero] at * <;> omega)) | (exfalso; simp (disch := decide) only [fa_lt, fa_le, fa_eq, nI_toInt, Int32.toInt_zero] at * <;> omega) | skip))
theorem ok_X8_strengthBy : mOK yX8_strengthBy cX8_strengthBy 5 (some .int) 1 t_X8_strengthBy := mOK.of f_X8_strengthBy (by decide) (fun _ => rfl) (fun g => mCodeOK kk_X8_strengthBy) (fun g => mFldL fk_RX8 rfl) (fun g idx v h => by cases h) (fun g idx v h => by cases h) (mCalL (l := l_X8_strengthBy) (fun _ h => absurd h List.not_mem_nil) (fun _ => rfl)) run_X8_strengthBy

abbrev t_X8_ofSuit : mG → mT := mP2 fOfS
theorem mo_X8_ofSuit : mMn t_X8_ofSuit := mP2_mono
def k_X8_ofSuit : List (Nat × mI) := [(0, .iload_n 1, 1, 1, 0, []),
  (1, .iconst 4, 1, 0, nI 4, []),
  (2, .if_icmp .ne 7, 3, 9, 0, []),
  (5, .iconst 0, 1, 0, nI 0, []),
  (6, .goto 13, 3, 19, 0, []),
  (9, .iload_n 0, 1, 0, 0, []),
  (10, .sipush 255, 3, 0, nI 255, []),
  (13, .bipush 8, 2, 0, nI 8, []),
  (15, .iload_n 1, 1, 1, 0, []),
  (16, .imul, 1, 0, 0, []),
  (17, .ishl, 1, 0, 0, []),
  (18, .iand, 1, 0, 0, []),
  (19, .ireturn, 1, 0, 0, [])]
theorem kk_X8_ofSuit : (k_X8_ofSuit.all fun e => mChk cX8_ofSuit e.1 e.2) = true := by decide +kernel
def l_X8_ofSuit : List (Nat × Nat × (mG → mT)) := []
def f_X8_ofSuit (g : mG) : mF := (mLk k_X8_ofSuit, mLk fl_RX8, mLk (l_X8_ofSuit.map fun e => (e.1, e.2.1, e.2.2 g)), mLk ([] : List (Nat × mV)), mLk ([] : List (Nat × mV)), some .int)
theorem m_X8_ofSuit (g : mG) : mMono (f_X8_ofSuit g) := mMonoL (g := g) (l := l_X8_ofSuit) (fun _ h => absurd h List.not_mem_nil) rfl

theorem v_X8_ofSuit (g : mG) (M : mM) (P : mP) (x y : Int32)
    (h : (¬ y = (nI 4) → P (some (.inl (x &&& ((nI 255) <<< (((nI 8) * y) &&& 31))))) M) ∧ (¬ (¬ y = (nI 4)) → P (some (.inl (nI 0))) M)) :
    mRun (mSx g) (f_X8_ofSuit g) P (0, [some (.inl x), some (.inl y)], [], M) := mRun.vc (m_X8_ofSuit g) [] 11 h

set_option maxHeartbeats 4000000 in
theorem run_X8_ofSuit : mRunOf 2 t_X8_ofSuit f_X8_ofSuit := runP2 (by decide) (fun g M P x y h => v_X8_ofSuit g M P x y (by
    (repeat' (first | (refine ⟨?_, ?_⟩) | (intro _)))
    all_goals first | decide | (refine mP_eq h ?_; unfold fOfS; (try unfold mb); (repeat' split) <;> first | rfl | (simp_all; done) | (exfalso; simp (disch := decide) only [fa_lt, fa_le, fa_eq, nI_toInt, Int32.toInt_zero] at * <;> omega)) | (exfalso; simp (disch := decide) only [fa_lt, fa_le, fa_eq, nI_toInt, Int32.toInt_zero] at * <;> omega) | skip))
theorem ok_X8_ofSuit : mOK yX8_ofSuit cX8_ofSuit 2 (some .int) 1 t_X8_ofSuit := mOK.of f_X8_ofSuit (by decide) (fun _ => rfl) (fun g => mCodeOK kk_X8_ofSuit) (fun g => mFldL fk_RX8 rfl) (fun g idx v h => by cases h) (fun g idx v h => by cases h) (mCalL (l := l_X8_ofSuit) (fun _ h => absurd h List.not_mem_nil) (fun _ => rfl)) run_X8_ofSuit
end
section
/-! ===== METHODS WITHOUT LOOPS: what they ask is what their instructions ask ===== -/
theorem mOp_monoP {SH : List mH} {F : mF} {P Q : mP} (h : ∀ r M, P r M → Q r M) {X : mS → Prop} {e : mI} {pc : Nat} {L : mL} {S : List mV} {M : mM} (w : mOp SH F P X e pc L S M) : mOp SH F Q X e pc L S M := by
  obtain ⟨i, n, a, v, tl⟩ := e
  cases i
  case ireturn =>
    simp only [mOp, mEnd] at w ⊢
    repeat' split at w
    all_goals first | exact w | exact h _ _ w | exact ⟨w.1, h _ _ w.2⟩
  case areturn =>
    simp only [mOp, mEndA] at w ⊢
    repeat' split at w
    all_goals first | exact w | exact h _ _ w
  case return_ =>
    simp only [mOp, mEndV] at w ⊢
    repeat' split at w
    all_goals first | exact w | exact h _ _ w
  case ifCond cd o => cases cd <;> exact w
  case if_icmp cd o => cases cd <;> exact w
  all_goals exact w
theorem mWp_monoP {SH : List mH} {F : mF} {P Q : mP} (h : ∀ r M, P r M → Q r M) {X : mS → Prop} {σ : mS} (w : mWp SH F P X σ) : mWp SH F Q X σ := by
  unfold mWp at w ⊢
  split at w
  · exact w
  · exact mOp_monoP h w
theorem mVc_mono {SH : List mH} {F : mF} (hF : mMono F) {P Q : mP} (h : ∀ r M, P r M → Q r M) {X Y : mS → Prop} (hX : ∀ σ, X σ → Y σ) (st : List Nat) : ∀ (n : Nat) {σ : mS}, mVc SH F P st X n σ → mVc SH F Q st Y n σ
  | 0, _, k => hX _ k
  | n + 1, σ, k => by
    refine mWp_monoP h (mWp_mono hF (fun τ w => ?_) k)
    split at w
    · exact hX _ w
    · exact mVc_mono hF h hX st n w
/-- an instance method, by its own instructions -/
def mIV (pl : Nat → Bool) (F : mG → mF) (maxL fuel : Nat) : mG → mT := fun g as M P => match as with
  | .inr (some a) :: rs => match pl a, Nat.ble (rs.length + 1) maxL with
    | true, true => mVc (mSx g) (F g) P [] (fun _ => False) fuel (0, some (.inr (some a)) :: (rs.map some ++ List.replicate (maxL - (rs.length + 1)) none), [], M)
    | _, _ => False
  | _ => False
def mSV (F : mG → mF) (maxL fuel : Nat) : mG → mT := fun g as M P => match Nat.ble as.length maxL with
  | true => mVc (mSx g) (F g) P [] (fun _ => False) fuel (0, as.map some ++ List.replicate (maxL - as.length) none, [], M)
  | false => False
theorem mIV_mono {pl : Nat → Bool} {F : mG → mF} {maxL fuel : Nat} (hF : ∀ g, mMono (F g)) : mMn (mIV pl F maxL fuel) := fun g as M P Q h k => by
  unfold mIV at k ⊢
  split at k
  · split at k
    · exact mVc_mono (hF g) h (fun _ z => z) [] fuel k
    · exact k
  · exact k
theorem mSV_mono {F : mG → mF} {maxL fuel : Nat} (hF : ∀ g, mMono (F g)) : mMn (mSV F maxL fuel) := fun g as M P Q h k => by
  unfold mSV at k ⊢
  split at k
  · exact mVc_mono (hF g) h (fun _ z => z) [] fuel k
  · exact k
theorem mIV_run {pl : Nat → Bool} {F : mG → mF} {maxL fuel : Nat} (hF : ∀ g, mMono (F g)) : mRunOf maxL (mIV pl F maxL fuel) F := fun g as M P k => by
  unfold mIV at k
  split at k
  · rename_i a rs
    split at k
    · rename_i h1 h2
      rw [Nat.ble_eq] at h2
      exact ⟨h2, mRun.vc (hF g) [] fuel (mVc_mono (hF g) (fun _ _ z => z) (fun _ z => z.elim) [] fuel k)⟩
    · exact k.elim
  · exact k.elim
theorem mSV_run {F : mG → mF} {maxL fuel : Nat} (hF : ∀ g, mMono (F g)) : mRunOf maxL (mSV F maxL fuel) F := fun g as M P k => by
  unfold mSV at k
  split at k
  · rename_i h1
    rw [Nat.ble_eq] at h1
    exact ⟨h1, mRun.vc (hF g) [] fuel (mVc_mono (hF g) (fun _ _ z => z) (fun _ z => z.elim) [] fuel k)⟩
  · exact k.elim
theorem mIV_recv {pl : Nat → Bool} {F : mG → mF} {maxL fuel : Nat} {y : MethodName} {n : Nat} (h : ∀ (g : mG) (a : Nat), pl a = true → mIsA (mSx g) y.cls a) : mHasR y n (mIV pl F maxL fuel) := by
  intro g as M P k hl
  unfold mIV at k
  split at k
  · rename_i a rs
    split at k
    · rename_i hp _
      exact ⟨a, rs, rfl, h g a hp⟩
    · exact k.elim
  · exact k.elim
def pl_X0 (a : Nat) : Bool := Nat.beq a 3 || Nat.beq a 8
def pl_X1 (a : Nat) : Bool := Nat.beq a 14 || Nat.beq a 27
def pl_X2 (a : Nat) : Bool := Nat.beq a 16 || Nat.beq a 29
def pl_X3 (a : Nat) : Bool := Nat.beq a 24 || Nat.beq a 37
def pl_X4 (a : Nat) : Bool := Nat.beq a 40 || Nat.beq a 42 || Nat.beq a 44 || Nat.beq a 46
def pl_X5 (a : Nat) : Bool := Nat.beq a 13 || Nat.beq a 26
def pl_X6 (a : Nat) : Bool := Nat.beq a 1
def pl_X7 (a : Nat) : Bool := Nat.beq a 0
def pl_X8 (a : Nat) : Bool := Nat.beq a 50
def pl_J0 (a : Nat) : Bool := mRoS a
theorem pl_two {a x y : Nat} (h : (Nat.beq a x || Nat.beq a y) = true) : a = x ∨ a = y := by
  rw [Bool.or_eq_true, Nat.beq_eq, Nat.beq_eq] at h
  exact h
theorem mIsA_of {g : mG} {a ci : Nat} {rs : List (Option Nat)} {q : vw_C} {C : String} (h1 : mSH[a]? = some (ci + 5, 0, rs)) (h2 : vwCl[ci]? = some q) (h3 : q.1 = C) : mIsA (mSx g) C a := Or.inl ⟨ci, 0, rs, q, mSx_at h1, h2, h3⟩
theorem is_X0 (g : mG) (a : Nat) (h : pl_X0 a = true) : mIsA (mSx g) RX0 a := by
  rcases pl_two h with rfl | rfl
  · exact mIsA_of (ci := 2) rfl rfl rfl
  · exact mIsA_of (ci := 2) rfl rfl rfl
theorem is_X1 (g : mG) (a : Nat) (h : pl_X1 a = true) : mIsA (mSx g) RX1 a := by
  rcases pl_two h with rfl | rfl
  · exact mIsA_of (ci := 3) rfl rfl rfl
  · exact mIsA_of (ci := 3) rfl rfl rfl
theorem is_X2 (g : mG) (a : Nat) (h : pl_X2 a = true) : mIsA (mSx g) RX2 a := by
  rcases pl_two h with rfl | rfl
  · exact mIsA_of (ci := 4) rfl rfl rfl
  · exact mIsA_of (ci := 4) rfl rfl rfl
theorem is_X3 (g : mG) (a : Nat) (h : pl_X3 a = true) : mIsA (mSx g) RX3 a := by
  rcases pl_two h with rfl | rfl
  · exact mIsA_of (ci := 5) rfl rfl rfl
  · exact mIsA_of (ci := 5) rfl rfl rfl
theorem is_X4 (g : mG) (a : Nat) (h : pl_X4 a = true) : mIsA (mSx g) RX4 a := by
  unfold pl_X4 at h
  rw [Bool.or_eq_true, Bool.or_eq_true, Bool.or_eq_true, Nat.beq_eq, Nat.beq_eq, Nat.beq_eq, Nat.beq_eq] at h
  rcases h with ((rfl | rfl) | rfl) | rfl
  · exact mIsA_of (ci := 6) rfl rfl rfl
  · exact mIsA_of (ci := 6) rfl rfl rfl
  · exact mIsA_of (ci := 6) rfl rfl rfl
  · exact mIsA_of (ci := 6) rfl rfl rfl
theorem is_X5 (g : mG) (a : Nat) (h : pl_X5 a = true) : mIsA (mSx g) RX5 a := by
  rcases pl_two h with rfl | rfl
  · exact mIsA_of (ci := 7) rfl rfl rfl
  · exact mIsA_of (ci := 7) rfl rfl rfl
theorem is_X6 (g : mG) (a : Nat) (h : pl_X6 a = true) : mIsA (mSx g) RX6 a := by
  unfold pl_X6 at h
  rw [Nat.beq_eq] at h
  subst h
  exact mIsA_of (ci := 8) rfl rfl rfl
theorem is_X7 (g : mG) (a : Nat) (h : pl_X7 a = true) : mIsA (mSx g) RX7 a := by
  unfold pl_X7 at h
  rw [Nat.beq_eq] at h
  subst h
  exact mIsA_of (ci := 9) rfl rfl rfl
theorem is_X8 (g : mG) (a : Nat) (h : pl_X8 a = true) : mIsA (mSx g) RX8 a := by
  unfold pl_X8 at h
  rw [Nat.beq_eq] at h
  subst h
  exact mIsA_of (ci := 10) rfl rfl rfl
theorem is_J0 (g : mG) (a : Nat) (h : pl_J0 a = true) : mIsA (mSx g) RJ0 a := Or.inr ⟨rfl, h⟩
end
section
/-! ===== METHODS OF THE CLASS WITHOUT LOOPS: their own instructions ===== -/
def k_X1_isAbove : List (Nat × mI) := [(0, .iload_n 1, 1, 1, 0, []),
  (1, .aload_n 0, 1, 0, 0, []),
  (2, .getfield 23, 3, 0, 0, []),
  (5, .if_icmp .gt 19, 3, 24, 0, []),
  (8, .iload_n 1, 1, 1, 0, []),
  (9, .aload_n 0, 1, 0, 0, []),
  (10, .getfield 23, 3, 0, 0, []),
  (13, .if_icmp .ne 15, 3, 28, 0, []),
  (16, .iload_n 2, 1, 2, 0, []),
  (17, .aload_n 0, 1, 0, 0, []),
  (18, .getfield 26, 3, 0, 0, []),
  (21, .if_icmp .le 7, 3, 28, 0, []),
  (24, .iconst 1, 1, 0, nI 1, []),
  (25, .goto 4, 3, 29, 0, []),
  (28, .iconst 0, 1, 0, nI 0, []),
  (29, .ireturn, 1, 0, 0, [])]
theorem kk_X1_isAbove : (k_X1_isAbove.all fun e => mChk cX1_isAbove e.1 e.2) = true := by decide +kernel
def l_X1_isAbove : List (Nat × Nat × (mG → mT)) := []
def f_X1_isAbove (g : mG) : mF := (mLk k_X1_isAbove, mLk fl_RX1, mLk (l_X1_isAbove.map fun e => (e.1, e.2.1, e.2.2 g)), mLk ([] : List (Nat × mV)), mLk ([] : List (Nat × mV)), some .boolean)
theorem m_X1_isAbove (g : mG) : mMono (f_X1_isAbove g) := mMonoL (g := g) (l := l_X1_isAbove) (fun _ h => absurd h List.not_mem_nil) rfl
def t_X1_isAbove : mG → mT := mIV pl_X1 f_X1_isAbove 3 17
theorem mo_X1_isAbove : mMn t_X1_isAbove := mIV_mono m_X1_isAbove
theorem rv_X1_isAbove : mHasR yX1_isAbove 2 t_X1_isAbove := mIV_recv is_X1
theorem ok_X1_isAbove : mOK yX1_isAbove cX1_isAbove 3 (some .boolean) 1 t_X1_isAbove := mOK.of f_X1_isAbove (by decide) (fun _ => rfl) (fun g => mCodeOK kk_X1_isAbove) (fun g => mFldL fk_RX1 rfl) (fun g idx v h => by cases h) (fun g idx v h => by cases h) (mCalL (l := l_X1_isAbove) (fun _ h => absurd h List.not_mem_nil) (fun _ => rfl)) (mIV_run m_X1_isAbove)

def k_X1_mayDouble : List (Nat × mI) := [(0, .aload_n 0, 1, 0, 0, []),
  (1, .getfield 23, 3, 0, 0, []),
  (4, .iconst (-1), 1, 0, -1, []),
  (5, .if_icmp .eq 27, 3, 32, 0, []),
  (8, .aload_n 0, 1, 0, 0, []),
  (9, .getfield 29, 3, 0, 0, []),
  (12, .aload_n 0, 1, 0, 0, []),
  (13, .getfield 19, 3, 0, 0, []),
  (16, .iconst 1, 1, 0, nI 1, []),
  (17, .iand, 1, 0, 0, []),
  (18, .if_icmp .eq 14, 3, 32, 0, []),
  (21, .aload_n 0, 1, 0, 0, []),
  (22, .getfield 32, 3, 0, 0, []),
  (25, .ifCond .ne 7, 3, 32, 0, []),
  (28, .iconst 1, 1, 0, nI 1, []),
  (29, .goto 4, 3, 33, 0, []),
  (32, .iconst 0, 1, 0, nI 0, []),
  (33, .ireturn, 1, 0, 0, [])]
theorem kk_X1_mayDouble : (k_X1_mayDouble.all fun e => mChk cX1_mayDouble e.1 e.2) = true := by decide +kernel
def l_X1_mayDouble : List (Nat × Nat × (mG → mT)) := []
def f_X1_mayDouble (g : mG) : mF := (mLk k_X1_mayDouble, mLk fl_RX1, mLk (l_X1_mayDouble.map fun e => (e.1, e.2.1, e.2.2 g)), mLk ([] : List (Nat × mV)), mLk ([] : List (Nat × mV)), some .boolean)
theorem m_X1_mayDouble (g : mG) : mMono (f_X1_mayDouble g) := mMonoL (g := g) (l := l_X1_mayDouble) (fun _ h => absurd h List.not_mem_nil) rfl
def t_X1_mayDouble : mG → mT := mIV pl_X1 f_X1_mayDouble 1 19
theorem mo_X1_mayDouble : mMn t_X1_mayDouble := mIV_mono m_X1_mayDouble
theorem rv_X1_mayDouble : mHasR yX1_mayDouble 0 t_X1_mayDouble := mIV_recv is_X1
theorem ok_X1_mayDouble : mOK yX1_mayDouble cX1_mayDouble 1 (some .boolean) 1 t_X1_mayDouble := mOK.of f_X1_mayDouble (by decide) (fun _ => rfl) (fun g => mCodeOK kk_X1_mayDouble) (fun g => mFldL fk_RX1 rfl) (fun g idx v h => by cases h) (fun g idx v h => by cases h) (mCalL (l := l_X1_mayDouble) (fun _ h => absurd h List.not_mem_nil) (fun _ => rfl)) (mIV_run m_X1_mayDouble)

def k_X1_mayRedouble : List (Nat × mI) := [(0, .aload_n 0, 1, 0, 0, []),
  (1, .getfield 23, 3, 0, 0, []),
  (4, .iconst (-1), 1, 0, -1, []),
  (5, .if_icmp .eq 28, 3, 33, 0, []),
  (8, .aload_n 0, 1, 0, 0, []),
  (9, .getfield 29, 3, 0, 0, []),
  (12, .aload_n 0, 1, 0, 0, []),
  (13, .getfield 19, 3, 0, 0, []),
  (16, .iconst 1, 1, 0, nI 1, []),
  (17, .iand, 1, 0, 0, []),
  (18, .if_icmp .ne 15, 3, 33, 0, []),
  (21, .aload_n 0, 1, 0, 0, []),
  (22, .getfield 32, 3, 0, 0, []),
  (25, .iconst 1, 1, 0, nI 1, []),
  (26, .if_icmp .ne 7, 3, 33, 0, []),
  (29, .iconst 1, 1, 0, nI 1, []),
  (30, .goto 4, 3, 34, 0, []),
  (33, .iconst 0, 1, 0, nI 0, []),
  (34, .ireturn, 1, 0, 0, [])]
theorem kk_X1_mayRedouble : (k_X1_mayRedouble.all fun e => mChk cX1_mayRedouble e.1 e.2) = true := by decide +kernel
def l_X1_mayRedouble : List (Nat × Nat × (mG → mT)) := []
def f_X1_mayRedouble (g : mG) : mF := (mLk k_X1_mayRedouble, mLk fl_RX1, mLk (l_X1_mayRedouble.map fun e => (e.1, e.2.1, e.2.2 g)), mLk ([] : List (Nat × mV)), mLk ([] : List (Nat × mV)), some .boolean)
theorem m_X1_mayRedouble (g : mG) : mMono (f_X1_mayRedouble g) := mMonoL (g := g) (l := l_X1_mayRedouble) (fun _ h => absurd h List.not_mem_nil) rfl
def t_X1_mayRedouble : mG → mT := mIV pl_X1 f_X1_mayRedouble 1 20
theorem mo_X1_mayRedouble : mMn t_X1_mayRedouble := mIV_mono m_X1_mayRedouble
theorem rv_X1_mayRedouble : mHasR yX1_mayRedouble 0 t_X1_mayRedouble := mIV_recv is_X1
theorem ok_X1_mayRedouble : mOK yX1_mayRedouble cX1_mayRedouble 1 (some .boolean) 1 t_X1_mayRedouble := mOK.of f_X1_mayRedouble (by decide) (fun _ => rfl) (fun g => mCodeOK kk_X1_mayRedouble) (fun g => mFldL fk_RX1 rfl) (fun g idx v h => by cases h) (fun g idx v h => by cases h) (mCalL (l := l_X1_mayRedouble) (fun _ h => absurd h List.not_mem_nil) (fun _ => rfl)) (mIV_run m_X1_mayRedouble)

def k_X1_bid : List (Nat × mI) := [(0, .aload_n 0, 1, 0, 0, []),
  (1, .iload_n 1, 1, 1, 0, []),
  (2, .putfield 23, 3, 0, 0, []),
  (5, .aload_n 0, 1, 0, 0, []),
  (6, .iload_n 2, 1, 2, 0, []),
  (7, .putfield 26, 3, 0, 0, []),
  (10, .aload_n 0, 1, 0, 0, []),
  (11, .aload_n 0, 1, 0, 0, []),
  (12, .getfield 19, 3, 0, 0, []),
  (15, .iconst 1, 1, 0, nI 1, []),
  (16, .iand, 1, 0, 0, []),
  (17, .putfield 29, 3, 0, 0, []),
  (20, .aload_n 0, 1, 0, 0, []),
  (21, .iconst 0, 1, 0, nI 0, []),
  (22, .putfield 32, 3, 0, 0, []),
  (25, .aload_n 0, 1, 0, 0, []),
  (26, .iconst 0, 1, 0, nI 0, []),
  (27, .putfield 35, 3, 0, 0, []),
  (30, .aload_n 0, 1, 0, 0, []),
  (31, .getfield 29, 3, 0, 0, []),
  (34, .iconst 5, 1, 0, nI 5, []),
  (35, .imul, 1, 0, 0, []),
  (36, .aload_n 0, 1, 0, 0, []),
  (37, .getfield 26, 3, 0, 0, []),
  (40, .iadd, 1, 0, 0, []),
  (41, .istore_n 3, 1, 3, 0, []),
  (42, .aload_n 0, 1, 0, 0, []),
  (43, .getfield 9, 3, 0, 0, []),
  (46, .iload_n 3, 1, 3, 0, []),
  (47, .invokestatic 41, 3, 0, 0, []),
  (50, .iconst (-1), 1, 0, -1, []),
  (51, .if_icmp .ne 15, 3, 66, 0, []),
  (54, .aload_n 0, 1, 0, 0, []),
  (55, .getfield 9, 3, 0, 0, []),
  (58, .iload_n 3, 1, 3, 0, []),
  (59, .aload_n 0, 1, 0, 0, []),
  (60, .getfield 19, 3, 0, 0, []),
  (63, .invokestatic 45, 3, 0, 0, []),
  (66, .aload_n 0, 1, 0, 0, []),
  (67, .aload_n 0, 1, 0, 0, []),
  (68, .getfield 19, 3, 0, 0, []),
  (71, .iconst 1, 1, 0, nI 1, []),
  (72, .iadd, 1, 0, 0, []),
  (73, .iconst 3, 1, 0, nI 3, []),
  (74, .iand, 1, 0, 0, []),
  (75, .putfield 19, 3, 0, 0, []),
  (78, .return_, 1, 0, 0, [])]
theorem kk_X1_bid : (k_X1_bid.all fun e => mChk cX1_bid e.1 e.2) = true := by decide +kernel
def l_X1_bid : List (Nat × Nat × (mG → mT)) := [(3 * 41 + 1, 2, t_X7_at), (3 * 45 + 1, 3, t_X7_set)]
def f_X1_bid (g : mG) : mF := (mLk k_X1_bid, mLk fl_RX1, mLk (l_X1_bid.map fun e => (e.1, e.2.1, e.2.2 g)), mLk ([] : List (Nat × mV)), mLk ([] : List (Nat × mV)), none)
theorem m_X1_bid (g : mG) : mMono (f_X1_bid g) := mMonoL (g := g) (l := l_X1_bid) (List.forall_mem_cons.mpr ⟨mo_X7_at, List.forall_mem_cons.mpr ⟨mo_X7_set, fun _ h => absurd h List.not_mem_nil⟩⟩) rfl
def t_X1_bid : mG → mT := mIV pl_X1 f_X1_bid 4 48
theorem mo_X1_bid : mMn t_X1_bid := mIV_mono m_X1_bid
theorem rv_X1_bid : mHasR yX1_bid 2 t_X1_bid := mIV_recv is_X1
theorem ok_X1_bid : mOK yX1_bid cX1_bid 4 (none) 2 t_X1_bid := mOK.of f_X1_bid (by decide) (fun _ => rfl) (fun g => mCodeOK kk_X1_bid) (fun g => mFldL fk_RX1 rfl) (fun g idx v h => by cases h) (fun g idx v h => by cases h) (mCalL (l := l_X1_bid) (List.forall_mem_cons.mpr ⟨mSite.SN (idx := 41) ok_X7_at (by decide) (by decide) wc_X7_at wm_RX1_41 wt_X7_at wn_RX7 wd_X7_at, List.forall_mem_cons.mpr ⟨mSite.SN (idx := 45) ok_X7_set (by decide) (by decide) wc_X7_set wm_RX1_45 wt_X7_set wn_RX7 wd_X7_set, fun _ h => absurd h List.not_mem_nil⟩⟩) (fun _ => rfl)) (mIV_run m_X1_bid)

def k_X1_redoubleOrDouble : List (Nat × mI) := [(0, .aload_n 0, 1, 0, 0, []),
  (1, .dup, 1, 0, 0, []),
  (2, .getfield 32, 3, 0, 0, []),
  (5, .iconst 1, 1, 0, nI 1, []),
  (6, .iadd, 1, 0, 0, []),
  (7, .putfield 32, 3, 0, 0, []),
  (10, .aload_n 0, 1, 0, 0, []),
  (11, .iconst 0, 1, 0, nI 0, []),
  (12, .putfield 35, 3, 0, 0, []),
  (15, .aload_n 0, 1, 0, 0, []),
  (16, .aload_n 0, 1, 0, 0, []),
  (17, .getfield 19, 3, 0, 0, []),
  (20, .iconst 1, 1, 0, nI 1, []),
  (21, .iadd, 1, 0, 0, []),
  (22, .iconst 3, 1, 0, nI 3, []),
  (23, .iand, 1, 0, 0, []),
  (24, .putfield 19, 3, 0, 0, []),
  (27, .return_, 1, 0, 0, [])]
theorem kk_X1_redoubleOrDouble : (k_X1_redoubleOrDouble.all fun e => mChk cX1_redoubleOrDouble e.1 e.2) = true := by decide +kernel
def l_X1_redoubleOrDouble : List (Nat × Nat × (mG → mT)) := []
def f_X1_redoubleOrDouble (g : mG) : mF := (mLk k_X1_redoubleOrDouble, mLk fl_RX1, mLk (l_X1_redoubleOrDouble.map fun e => (e.1, e.2.1, e.2.2 g)), mLk ([] : List (Nat × mV)), mLk ([] : List (Nat × mV)), none)
theorem m_X1_redoubleOrDouble (g : mG) : mMono (f_X1_redoubleOrDouble g) := mMonoL (g := g) (l := l_X1_redoubleOrDouble) (fun _ h => absurd h List.not_mem_nil) rfl
def t_X1_redoubleOrDouble : mG → mT := mIV pl_X1 f_X1_redoubleOrDouble 1 19
theorem mo_X1_redoubleOrDouble : mMn t_X1_redoubleOrDouble := mIV_mono m_X1_redoubleOrDouble
theorem rv_X1_redoubleOrDouble : mHasR yX1_redoubleOrDouble 0 t_X1_redoubleOrDouble := mIV_recv is_X1
theorem ok_X1_redoubleOrDouble : mOK yX1_redoubleOrDouble cX1_redoubleOrDouble 1 (none) 1 t_X1_redoubleOrDouble := mOK.of f_X1_redoubleOrDouble (by decide) (fun _ => rfl) (fun g => mCodeOK kk_X1_redoubleOrDouble) (fun g => mFldL fk_RX1 rfl) (fun g idx v h => by cases h) (fun g idx v h => by cases h) (mCalL (l := l_X1_redoubleOrDouble) (fun _ h => absurd h List.not_mem_nil) (fun _ => rfl)) (mIV_run m_X1_redoubleOrDouble)

def k_X1_pass : List (Nat × mI) := [(0, .aload_n 0, 1, 0, 0, []),
  (1, .dup, 1, 0, 0, []),
  (2, .getfield 35, 3, 0, 0, []),
  (5, .iconst 1, 1, 0, nI 1, []),
  (6, .iadd, 1, 0, 0, []),
  (7, .putfield 35, 3, 0, 0, []),
  (10, .aload_n 0, 1, 0, 0, []),
  (11, .aload_n 0, 1, 0, 0, []),
  (12, .getfield 19, 3, 0, 0, []),
  (15, .iconst 1, 1, 0, nI 1, []),
  (16, .iadd, 1, 0, 0, []),
  (17, .iconst 3, 1, 0, nI 3, []),
  (18, .iand, 1, 0, 0, []),
  (19, .putfield 19, 3, 0, 0, []),
  (22, .return_, 1, 0, 0, [])]
theorem kk_X1_pass : (k_X1_pass.all fun e => mChk cX1_pass e.1 e.2) = true := by decide +kernel
def l_X1_pass : List (Nat × Nat × (mG → mT)) := []
def f_X1_pass (g : mG) : mF := (mLk k_X1_pass, mLk fl_RX1, mLk (l_X1_pass.map fun e => (e.1, e.2.1, e.2.2 g)), mLk ([] : List (Nat × mV)), mLk ([] : List (Nat × mV)), none)
theorem m_X1_pass (g : mG) : mMono (f_X1_pass g) := mMonoL (g := g) (l := l_X1_pass) (fun _ h => absurd h List.not_mem_nil) rfl
def t_X1_pass : mG → mT := mIV pl_X1 f_X1_pass 1 16
theorem mo_X1_pass : mMn t_X1_pass := mIV_mono m_X1_pass
theorem rv_X1_pass : mHasR yX1_pass 0 t_X1_pass := mIV_recv is_X1
theorem ok_X1_pass : mOK yX1_pass cX1_pass 1 (none) 1 t_X1_pass := mOK.of f_X1_pass (by decide) (fun _ => rfl) (fun g => mCodeOK kk_X1_pass) (fun g => mFldL fk_RX1 rfl) (fun g idx v h => by cases h) (fun g idx v h => by cases h) (mCalL (l := l_X1_pass) (fun _ h => absurd h List.not_mem_nil) (fun _ => rfl)) (mIV_run m_X1_pass)

def k_X1_hasContract : List (Nat × mI) := [(0, .aload_n 0, 1, 0, 0, []),
  (1, .getfield 23, 3, 0, 0, []),
  (4, .iconst (-1), 1, 0, -1, []),
  (5, .if_icmp .eq 15, 3, 20, 0, []),
  (8, .aload_n 0, 1, 0, 0, []),
  (9, .getfield 35, 3, 0, 0, []),
  (12, .iconst 3, 1, 0, nI 3, []),
  (13, .if_icmp .lt 7, 3, 20, 0, []),
  (16, .iconst 1, 1, 0, nI 1, []),
  (17, .goto 4, 3, 21, 0, []),
  (20, .iconst 0, 1, 0, nI 0, []),
  (21, .ireturn, 1, 0, 0, [])]
theorem kk_X1_hasContract : (k_X1_hasContract.all fun e => mChk cX1_hasContract e.1 e.2) = true := by decide +kernel
def l_X1_hasContract : List (Nat × Nat × (mG → mT)) := []
def f_X1_hasContract (g : mG) : mF := (mLk k_X1_hasContract, mLk fl_RX1, mLk (l_X1_hasContract.map fun e => (e.1, e.2.1, e.2.2 g)), mLk ([] : List (Nat × mV)), mLk ([] : List (Nat × mV)), some .boolean)
theorem m_X1_hasContract (g : mG) : mMono (f_X1_hasContract g) := mMonoL (g := g) (l := l_X1_hasContract) (fun _ h => absurd h List.not_mem_nil) rfl
def t_X1_hasContract : mG → mT := mIV pl_X1 f_X1_hasContract 1 13
theorem mo_X1_hasContract : mMn t_X1_hasContract := mIV_mono m_X1_hasContract
theorem rv_X1_hasContract : mHasR yX1_hasContract 0 t_X1_hasContract := mIV_recv is_X1
theorem ok_X1_hasContract : mOK yX1_hasContract cX1_hasContract 1 (some .boolean) 1 t_X1_hasContract := mOK.of f_X1_hasContract (by decide) (fun _ => rfl) (fun g => mCodeOK kk_X1_hasContract) (fun g => mFldL fk_RX1 rfl) (fun g idx v h => by cases h) (fun g idx v h => by cases h) (mCalL (l := l_X1_hasContract) (fun _ h => absurd h List.not_mem_nil) (fun _ => rfl)) (mIV_run m_X1_hasContract)

def k_X1_nameDeclarer : List (Nat × mI) := [(0, .aload_n 0, 1, 0, 0, []),
  (1, .aload_n 0, 1, 0, 0, []),
  (2, .getfield 9, 3, 0, 0, []),
  (5, .aload_n 0, 1, 0, 0, []),
  (6, .getfield 29, 3, 0, 0, []),
  (9, .iconst 5, 1, 0, nI 5, []),
  (10, .imul, 1, 0, 0, []),
  (11, .aload_n 0, 1, 0, 0, []),
  (12, .getfield 26, 3, 0, 0, []),
  (15, .iadd, 1, 0, 0, []),
  (16, .invokestatic 41, 3, 0, 0, []),
  (19, .putfield 38, 3, 0, 0, []),
  (22, .return_, 1, 0, 0, [])]
theorem kk_X1_nameDeclarer : (k_X1_nameDeclarer.all fun e => mChk cX1_nameDeclarer e.1 e.2) = true := by decide +kernel
def l_X1_nameDeclarer : List (Nat × Nat × (mG → mT)) := [(3 * 41 + 1, 2, t_X7_at)]
def f_X1_nameDeclarer (g : mG) : mF := (mLk k_X1_nameDeclarer, mLk fl_RX1, mLk (l_X1_nameDeclarer.map fun e => (e.1, e.2.1, e.2.2 g)), mLk ([] : List (Nat × mV)), mLk ([] : List (Nat × mV)), none)
theorem m_X1_nameDeclarer (g : mG) : mMono (f_X1_nameDeclarer g) := mMonoL (g := g) (l := l_X1_nameDeclarer) (List.forall_mem_cons.mpr ⟨mo_X7_at, fun _ h => absurd h List.not_mem_nil⟩) rfl
def t_X1_nameDeclarer : mG → mT := mIV pl_X1 f_X1_nameDeclarer 1 14
theorem mo_X1_nameDeclarer : mMn t_X1_nameDeclarer := mIV_mono m_X1_nameDeclarer
theorem rv_X1_nameDeclarer : mHasR yX1_nameDeclarer 0 t_X1_nameDeclarer := mIV_recv is_X1
theorem ok_X1_nameDeclarer : mOK yX1_nameDeclarer cX1_nameDeclarer 1 (none) 2 t_X1_nameDeclarer := mOK.of f_X1_nameDeclarer (by decide) (fun _ => rfl) (fun g => mCodeOK kk_X1_nameDeclarer) (fun g => mFldL fk_RX1 rfl) (fun g idx v h => by cases h) (fun g idx v h => by cases h) (mCalL (l := l_X1_nameDeclarer) (List.forall_mem_cons.mpr ⟨mSite.SN (idx := 41) ok_X7_at (by decide) (by decide) wc_X7_at wm_RX1_41 wt_X7_at wn_RX7 wd_X7_at, fun _ h => absurd h List.not_mem_nil⟩) (fun _ => rfl)) (mIV_run m_X1_nameDeclarer)

def k_X2_begin : List (Nat × mI) := [(0, .aload_n 0, 1, 0, 0, []),
  (1, .iload_n 1, 1, 1, 0, []),
  (2, .putfield 67, 3, 0, 0, []),
  (5, .aload_n 0, 1, 0, 0, []),
  (6, .iload_n 2, 1, 2, 0, []),
  (7, .putfield 70, 3, 0, 0, []),
  (10, .aload_n 0, 1, 0, 0, []),
  (11, .iload_n 3, 1, 3, 0, []),
  (12, .putfield 73, 3, 0, 0, []),
  (15, .aload_n 0, 1, 0, 0, []),
  (16, .iload 4, 2, 4, 0, []),
  (18, .putfield 76, 3, 0, 0, []),
  (21, .return_, 1, 0, 0, [])]
theorem kk_X2_begin : (k_X2_begin.all fun e => mChk cX2_begin e.1 e.2) = true := by decide +kernel
def l_X2_begin : List (Nat × Nat × (mG → mT)) := []
def f_X2_begin (g : mG) : mF := (mLk k_X2_begin, mLk fl_RX2, mLk (l_X2_begin.map fun e => (e.1, e.2.1, e.2.2 g)), mLk ([] : List (Nat × mV)), mLk ([] : List (Nat × mV)), none)
theorem m_X2_begin (g : mG) : mMono (f_X2_begin g) := mMonoL (g := g) (l := l_X2_begin) (fun _ h => absurd h List.not_mem_nil) rfl
def t_X2_begin : mG → mT := mIV pl_X2 f_X2_begin 5 14
theorem mo_X2_begin : mMn t_X2_begin := mIV_mono m_X2_begin
theorem rv_X2_begin : mHasR yX2_begin 4 t_X2_begin := mIV_recv is_X2
theorem ok_X2_begin : mOK yX2_begin cX2_begin 5 (none) 1 t_X2_begin := mOK.of f_X2_begin (by decide) (fun _ => rfl) (fun g => mCodeOK kk_X2_begin) (fun g => mFldL fk_RX2 rfl) (fun g idx v h => by cases h) (fun g idx v h => by cases h) (mCalL (l := l_X2_begin) (fun _ h => absurd h List.not_mem_nil) (fun _ => rfl)) (mIV_run m_X2_begin)

def k_X2_full : List (Nat × mI) := [(0, .aload_n 0, 1, 0, 0, []),
  (1, .getfield 37, 3, 0, 0, []),
  (4, .iconst 4, 1, 0, nI 4, []),
  (5, .idiv, 1, 0, 0, []),
  (6, .ireturn, 1, 0, 0, [])]
theorem kk_X2_full : (k_X2_full.all fun e => mChk cX2_full e.1 e.2) = true := by decide +kernel
def l_X2_full : List (Nat × Nat × (mG → mT)) := []
def f_X2_full (g : mG) : mF := (mLk k_X2_full, mLk fl_RX2, mLk (l_X2_full.map fun e => (e.1, e.2.1, e.2.2 g)), mLk ([] : List (Nat × mV)), mLk ([] : List (Nat × mV)), some .int)
theorem m_X2_full (g : mG) : mMono (f_X2_full g) := mMonoL (g := g) (l := l_X2_full) (fun _ h => absurd h List.not_mem_nil) rfl
def t_X2_full : mG → mT := mIV pl_X2 f_X2_full 1 6
theorem mo_X2_full : mMn t_X2_full := mIV_mono m_X2_full
theorem rv_X2_full : mHasR yX2_full 0 t_X2_full := mIV_recv is_X2
theorem ok_X2_full : mOK yX2_full cX2_full 1 (some .int) 1 t_X2_full := mOK.of f_X2_full (by decide) (fun _ => rfl) (fun g => mCodeOK kk_X2_full) (fun g => mFldL fk_RX2 rfl) (fun g idx v h => by cases h) (fun g idx v h => by cases h) (mCalL (l := l_X2_full) (fun _ h => absurd h List.not_mem_nil) (fun _ => rfl)) (mIV_run m_X2_full)

def k_X2_left : List (Nat × mI) := [(0, .bipush 8, 2, 0, nI 8, []),
  (2, .aload_n 0, 1, 0, 0, []),
  (3, .invokevirtual 79, 3, 0, 0, []),
  (6, .isub, 1, 0, 0, []),
  (7, .ireturn, 1, 0, 0, [])]
theorem kk_X2_left : (k_X2_left.all fun e => mChk cX2_left e.1 e.2) = true := by decide +kernel
def l_X2_left : List (Nat × Nat × (mG → mT)) := [(3 * 79, 0 + 1, t_X2_full)]
def f_X2_left (g : mG) : mF := (mLk k_X2_left, mLk fl_RX2, mLk (l_X2_left.map fun e => (e.1, e.2.1, e.2.2 g)), mLk ([] : List (Nat × mV)), mLk ([] : List (Nat × mV)), some .int)
theorem m_X2_left (g : mG) : mMono (f_X2_left g) := mMonoL (g := g) (l := l_X2_left) (List.forall_mem_cons.mpr ⟨mo_X2_full, fun _ h => absurd h List.not_mem_nil⟩) rfl
def t_X2_left : mG → mT := mIV pl_X2 f_X2_left 1 6
theorem mo_X2_left : mMn t_X2_left := mIV_mono m_X2_left
theorem rv_X2_left : mHasR yX2_left 0 t_X2_left := mIV_recv is_X2
theorem ok_X2_left : mOK yX2_left cX2_left 1 (some .int) 2 t_X2_left := mOK.of f_X2_left (by decide) (fun _ => rfl) (fun g => mCodeOK kk_X2_left) (fun g => mFldL fk_RX2 rfl) (fun g idx v h => by cases h) (fun g idx v h => by cases h) (mCalL (l := l_X2_left) (List.forall_mem_cons.mpr ⟨mSite.V (idx := 79) ok_X2_full (by decide) (by decide) rv_X2_full wc_X2_full wk_RX2_79 wi_X2_full wl_X2_full wn_RX2 wd_X2_full, fun _ h => absurd h List.not_mem_nil⟩) (fun _ => rfl)) (mIV_run m_X2_left)

def k_X2_cardAt : List (Nat × mI) := [(0, .iload_n 1, 1, 1, 0, []),
  (1, .aload_n 0, 1, 0, 0, []),
  (2, .getfield 37, 3, 0, 0, []),
  (5, .if_icmp .ge 14, 3, 19, 0, []),
  (8, .aload_n 0, 1, 0, 0, []),
  (9, .getfield 21, 3, 0, 0, []),
  (12, .iload_n 1, 1, 1, 0, []),
  (13, .invokestatic 56, 3, 0, 0, []),
  (16, .goto 4, 3, 20, 0, []),
  (19, .iconst (-1), 1, 0, -1, []),
  (20, .ireturn, 1, 0, 0, [])]
theorem kk_X2_cardAt : (k_X2_cardAt.all fun e => mChk cX2_cardAt e.1 e.2) = true := by decide +kernel
def l_X2_cardAt : List (Nat × Nat × (mG → mT)) := [(3 * 56 + 1, 2, t_X7_at)]
def f_X2_cardAt (g : mG) : mF := (mLk k_X2_cardAt, mLk fl_RX2, mLk (l_X2_cardAt.map fun e => (e.1, e.2.1, e.2.2 g)), mLk ([] : List (Nat × mV)), mLk ([] : List (Nat × mV)), some .int)
theorem m_X2_cardAt (g : mG) : mMono (f_X2_cardAt g) := mMonoL (g := g) (l := l_X2_cardAt) (List.forall_mem_cons.mpr ⟨mo_X7_at, fun _ h => absurd h List.not_mem_nil⟩) rfl
def t_X2_cardAt : mG → mT := mIV pl_X2 f_X2_cardAt 2 12
theorem mo_X2_cardAt : mMn t_X2_cardAt := mIV_mono m_X2_cardAt
theorem rv_X2_cardAt : mHasR yX2_cardAt 1 t_X2_cardAt := mIV_recv is_X2
theorem ok_X2_cardAt : mOK yX2_cardAt cX2_cardAt 2 (some .int) 2 t_X2_cardAt := mOK.of f_X2_cardAt (by decide) (fun _ => rfl) (fun g => mCodeOK kk_X2_cardAt) (fun g => mFldL fk_RX2 rfl) (fun g idx v h => by cases h) (fun g idx v h => by cases h) (mCalL (l := l_X2_cardAt) (List.forall_mem_cons.mpr ⟨mSite.SN (idx := 56) ok_X7_at (by decide) (by decide) wc_X7_at wm_RX2_56 wt_X7_at wn_RX7 wd_X7_at, fun _ h => absurd h List.not_mem_nil⟩) (fun _ => rfl)) (mIV_run m_X2_cardAt)

def k_X2_addWon : List (Nat × mI) := [(0, .aload_n 0, 1, 0, 0, []),
  (1, .getfield 30, 3, 0, 0, []),
  (4, .iload_n 1, 1, 1, 0, []),
  (5, .aload_n 0, 1, 0, 0, []),
  (6, .getfield 30, 3, 0, 0, []),
  (9, .iload_n 1, 1, 1, 0, []),
  (10, .invokestatic 56, 3, 0, 0, []),
  (13, .iload_n 2, 1, 2, 0, []),
  (14, .iadd, 1, 0, 0, []),
  (15, .invokestatic 48, 3, 0, 0, []),
  (18, .return_, 1, 0, 0, [])]
theorem kk_X2_addWon : (k_X2_addWon.all fun e => mChk cX2_addWon e.1 e.2) = true := by decide +kernel
def l_X2_addWon : List (Nat × Nat × (mG → mT)) := [(3 * 56 + 1, 2, t_X7_at), (3 * 48 + 1, 3, t_X7_set)]
def f_X2_addWon (g : mG) : mF := (mLk k_X2_addWon, mLk fl_RX2, mLk (l_X2_addWon.map fun e => (e.1, e.2.1, e.2.2 g)), mLk ([] : List (Nat × mV)), mLk ([] : List (Nat × mV)), none)
theorem m_X2_addWon (g : mG) : mMono (f_X2_addWon g) := mMonoL (g := g) (l := l_X2_addWon) (List.forall_mem_cons.mpr ⟨mo_X7_at, List.forall_mem_cons.mpr ⟨mo_X7_set, fun _ h => absurd h List.not_mem_nil⟩⟩) rfl
def t_X2_addWon : mG → mT := mIV pl_X2 f_X2_addWon 3 12
theorem mo_X2_addWon : mMn t_X2_addWon := mIV_mono m_X2_addWon
theorem rv_X2_addWon : mHasR yX2_addWon 2 t_X2_addWon := mIV_recv is_X2
theorem ok_X2_addWon : mOK yX2_addWon cX2_addWon 3 (none) 2 t_X2_addWon := mOK.of f_X2_addWon (by decide) (fun _ => rfl) (fun g => mCodeOK kk_X2_addWon) (fun g => mFldL fk_RX2 rfl) (fun g idx v h => by cases h) (fun g idx v h => by cases h) (mCalL (l := l_X2_addWon) (List.forall_mem_cons.mpr ⟨mSite.SN (idx := 56) ok_X7_at (by decide) (by decide) wc_X7_at wm_RX2_56 wt_X7_at wn_RX7 wd_X7_at, List.forall_mem_cons.mpr ⟨mSite.SN (idx := 48) ok_X7_set (by decide) (by decide) wc_X7_set wm_RX2_48 wt_X7_set wn_RX7 wd_X7_set, fun _ h => absurd h List.not_mem_nil⟩⟩) (fun _ => rfl)) (mIV_run m_X2_addWon)

def k_X3_totalOf : List (Nat × mI) := [(0, .aload_n 0, 1, 0, 0, []),
  (1, .getfield 9, 3, 0, 0, []),
  (4, .iload_n 1, 1, 1, 0, []),
  (5, .bipush 6, 2, 0, nI 6, []),
  (7, .imul, 1, 0, 0, []),
  (8, .iload_n 2, 1, 2, 0, []),
  (9, .iadd, 1, 0, 0, []),
  (10, .invokestatic 44, 3, 0, 0, []),
  (13, .ireturn, 1, 0, 0, [])]
theorem kk_X3_totalOf : (k_X3_totalOf.all fun e => mChk cX3_totalOf e.1 e.2) = true := by decide +kernel
def l_X3_totalOf : List (Nat × Nat × (mG → mT)) := [(3 * 44 + 1, 2, t_X7_at)]
def f_X3_totalOf (g : mG) : mF := (mLk k_X3_totalOf, mLk fl_RX3, mLk (l_X3_totalOf.map fun e => (e.1, e.2.1, e.2.2 g)), mLk ([] : List (Nat × mV)), mLk ([] : List (Nat × mV)), some .int)
theorem m_X3_totalOf (g : mG) : mMono (f_X3_totalOf g) := mMonoL (g := g) (l := l_X3_totalOf) (List.forall_mem_cons.mpr ⟨mo_X7_at, fun _ h => absurd h List.not_mem_nil⟩) rfl
def t_X3_totalOf : mG → mT := mIV pl_X3 f_X3_totalOf 3 10
theorem mo_X3_totalOf : mMn t_X3_totalOf := mIV_mono m_X3_totalOf
theorem rv_X3_totalOf : mHasR yX3_totalOf 2 t_X3_totalOf := mIV_recv is_X3
theorem ok_X3_totalOf : mOK yX3_totalOf cX3_totalOf 3 (some .int) 2 t_X3_totalOf := mOK.of f_X3_totalOf (by decide) (fun _ => rfl) (fun g => mCodeOK kk_X3_totalOf) (fun g => mFldL fk_RX3 rfl) (fun g idx v h => by cases h) (fun g idx v h => by cases h) (mCalL (l := l_X3_totalOf) (List.forall_mem_cons.mpr ⟨mSite.SN (idx := 44) ok_X7_at (by decide) (by decide) wc_X7_at wm_RX3_44 wt_X7_at wn_RX7 wd_X7_at, fun _ h => absurd h List.not_mem_nil⟩) (fun _ => rfl)) (mIV_run m_X3_totalOf)

def k_X4_isMissing : List (Nat × mI) := [(0, .aload_n 0, 1, 0, 0, []),
  (1, .getfield 15, 3, 0, 0, []),
  (4, .iconst (-1), 1, 0, -1, []),
  (5, .if_icmp .ne 7, 3, 12, 0, []),
  (8, .iconst 1, 1, 0, nI 1, []),
  (9, .goto 4, 3, 13, 0, []),
  (12, .iconst 0, 1, 0, nI 0, []),
  (13, .ireturn, 1, 0, 0, [])]
theorem kk_X4_isMissing : (k_X4_isMissing.all fun e => mChk cX4_isMissing e.1 e.2) = true := by decide +kernel
def l_X4_isMissing : List (Nat × Nat × (mG → mT)) := []
def f_X4_isMissing (g : mG) : mF := (mLk k_X4_isMissing, mLk fl_RX4, mLk (l_X4_isMissing.map fun e => (e.1, e.2.1, e.2.2 g)), mLk ([] : List (Nat × mV)), mLk ([] : List (Nat × mV)), some .boolean)
theorem m_X4_isMissing (g : mG) : mMono (f_X4_isMissing g) := mMonoL (g := g) (l := l_X4_isMissing) (fun _ h => absurd h List.not_mem_nil) rfl
def t_X4_isMissing : mG → mT := mIV pl_X4 f_X4_isMissing 1 9
theorem mo_X4_isMissing : mMn t_X4_isMissing := mIV_mono m_X4_isMissing
theorem rv_X4_isMissing : mHasR yX4_isMissing 0 t_X4_isMissing := mIV_recv is_X4
theorem ok_X4_isMissing : mOK yX4_isMissing cX4_isMissing 1 (some .boolean) 1 t_X4_isMissing := mOK.of f_X4_isMissing (by decide) (fun _ => rfl) (fun g => mCodeOK kk_X4_isMissing) (fun g => mFldL fk_RX4 rfl) (fun g idx v h => by cases h) (fun g idx v h => by cases h) (mCalL (l := l_X4_isMissing) (fun _ h => absurd h List.not_mem_nil) (fun _ => rfl)) (mIV_run m_X4_isMissing)

def k_X4_holds : List (Nat × mI) := [(0, .iload_n 1, 1, 1, 0, []),
  (1, .ifCond .lt 29, 3, 30, 0, []),
  (4, .iload_n 2, 1, 2, 0, []),
  (5, .ifCond .lt 25, 3, 30, 0, []),
  (8, .iload_n 2, 1, 2, 0, []),
  (9, .aload_n 0, 1, 0, 0, []),
  (10, .getfield 19, 3, 0, 0, []),
  (13, .if_icmp .gt 17, 3, 30, 0, []),
  (16, .iload_n 1, 1, 1, 0, []),
  (17, .aload_n 0, 1, 0, 0, []),
  (18, .getfield 19, 3, 0, 0, []),
  (21, .iload_n 2, 1, 2, 0, []),
  (22, .isub, 1, 0, 0, []),
  (23, .if_icmp .gt 7, 3, 30, 0, []),
  (26, .iconst 1, 1, 0, nI 1, []),
  (27, .goto 4, 3, 31, 0, []),
  (30, .iconst 0, 1, 0, nI 0, []),
  (31, .ireturn, 1, 0, 0, [])]
theorem kk_X4_holds : (k_X4_holds.all fun e => mChk cX4_holds e.1 e.2) = true := by decide +kernel
def l_X4_holds : List (Nat × Nat × (mG → mT)) := []
def f_X4_holds (g : mG) : mF := (mLk k_X4_holds, mLk fl_RX4, mLk (l_X4_holds.map fun e => (e.1, e.2.1, e.2.2 g)), mLk ([] : List (Nat × mV)), mLk ([] : List (Nat × mV)), some .boolean)
theorem m_X4_holds (g : mG) : mMono (f_X4_holds g) := mMonoL (g := g) (l := l_X4_holds) (fun _ h => absurd h List.not_mem_nil) rfl
def t_X4_holds : mG → mT := mIV pl_X4 f_X4_holds 3 19
theorem mo_X4_holds : mMn t_X4_holds := mIV_mono m_X4_holds
theorem rv_X4_holds : mHasR yX4_holds 2 t_X4_holds := mIV_recv is_X4
theorem ok_X4_holds : mOK yX4_holds cX4_holds 3 (some .boolean) 1 t_X4_holds := mOK.of f_X4_holds (by decide) (fun _ => rfl) (fun g => mCodeOK kk_X4_holds) (fun g => mFldL fk_RX4 rfl) (fun g idx v h => by cases h) (fun g idx v h => by cases h) (mCalL (l := l_X4_holds) (fun _ h => absurd h List.not_mem_nil) (fun _ => rfl)) (mIV_run m_X4_holds)

def k_X5_inTurn : List (Nat × mI) := [(0, .aload_n 0, 1, 0, 0, []),
  (1, .getfield 35, 3, 0, 0, []),
  (4, .ifCond .ne 7, 3, 11, 0, []),
  (7, .iconst (-1), 1, 0, -1, []),
  (8, .goto 28, 3, 36, 0, []),
  (11, .aload_n 0, 1, 0, 0, []),
  (12, .getfield 35, 3, 0, 0, []),
  (15, .iconst 1, 1, 0, nI 1, []),
  (16, .if_icmp .ne 13, 3, 29, 0, []),
  (19, .aload_n 0, 1, 0, 0, []),
  (20, .getfield 12, 3, 0, 0, []),
  (23, .getfield 54, 3, 0, 0, []),
  (26, .goto 10, 3, 36, 0, []),
  (29, .aload_n 0, 1, 0, 0, []),
  (30, .getfield 21, 3, 0, 0, []),
  (33, .getfield 57, 3, 0, 0, []),
  (36, .ireturn, 1, 0, 0, [])]
theorem kk_X5_inTurn : (k_X5_inTurn.all fun e => mChk cX5_inTurn e.1 e.2) = true := by decide +kernel
def l_X5_inTurn : List (Nat × Nat × (mG → mT)) := []
def f_X5_inTurn (g : mG) : mF := (mLk k_X5_inTurn, mLk fl_RX5, mLk (l_X5_inTurn.map fun e => (e.1, e.2.1, e.2.2 g)), mLk ([] : List (Nat × mV)), mLk ([] : List (Nat × mV)), some .int)
theorem m_X5_inTurn (g : mG) : mMono (f_X5_inTurn g) := mMonoL (g := g) (l := l_X5_inTurn) (fun _ h => absurd h List.not_mem_nil) rfl
def t_X5_inTurn : mG → mT := mIV pl_X5 f_X5_inTurn 1 18
theorem mo_X5_inTurn : mMn t_X5_inTurn := mIV_mono m_X5_inTurn
theorem rv_X5_inTurn : mHasR yX5_inTurn 0 t_X5_inTurn := mIV_recv is_X5
theorem ok_X5_inTurn : mOK yX5_inTurn cX5_inTurn 1 (some .int) 1 t_X5_inTurn := mOK.of f_X5_inTurn (by decide) (fun _ => rfl) (fun g => mCodeOK kk_X5_inTurn) (fun g => mFldL fk_RX5 rfl) (fun g idx v h => by cases h) (fun g idx v h => by cases h) (mCalL (l := l_X5_inTurn) (fun _ h => absurd h List.not_mem_nil) (fun _ => rfl)) (mIV_run m_X5_inTurn)

def k_X5_isNearEnd : List (Nat × mI) := [(0, .aload_n 0, 1, 0, 0, []),
  (1, .getfield 35, 3, 0, 0, []),
  (4, .iconst 2, 1, 0, nI 2, []),
  (5, .if_icmp .ne 18, 3, 23, 0, []),
  (8, .aload_n 0, 1, 0, 0, []),
  (9, .getfield 21, 3, 0, 0, []),
  (12, .invokevirtual 58, 3, 0, 0, []),
  (15, .iconst 3, 1, 0, nI 3, []),
  (16, .if_icmp .gt 7, 3, 23, 0, []),
  (19, .iconst 1, 1, 0, nI 1, []),
  (20, .goto 4, 3, 24, 0, []),
  (23, .iconst 0, 1, 0, nI 0, []),
  (24, .ireturn, 1, 0, 0, [])]
theorem kk_X5_isNearEnd : (k_X5_isNearEnd.all fun e => mChk cX5_isNearEnd e.1 e.2) = true := by decide +kernel
def l_X5_isNearEnd : List (Nat × Nat × (mG → mT)) := [(3 * 58, 0 + 1, t_X2_left)]
def f_X5_isNearEnd (g : mG) : mF := (mLk k_X5_isNearEnd, mLk fl_RX5, mLk (l_X5_isNearEnd.map fun e => (e.1, e.2.1, e.2.2 g)), mLk ([] : List (Nat × mV)), mLk ([] : List (Nat × mV)), some .boolean)
theorem m_X5_isNearEnd (g : mG) : mMono (f_X5_isNearEnd g) := mMonoL (g := g) (l := l_X5_isNearEnd) (List.forall_mem_cons.mpr ⟨mo_X2_left, fun _ h => absurd h List.not_mem_nil⟩) rfl
def t_X5_isNearEnd : mG → mT := mIV pl_X5 f_X5_isNearEnd 1 14
theorem mo_X5_isNearEnd : mMn t_X5_isNearEnd := mIV_mono m_X5_isNearEnd
theorem rv_X5_isNearEnd : mHasR yX5_isNearEnd 0 t_X5_isNearEnd := mIV_recv is_X5
theorem ok_X5_isNearEnd : mOK yX5_isNearEnd cX5_isNearEnd 1 (some .boolean) 3 t_X5_isNearEnd := mOK.of f_X5_isNearEnd (by decide) (fun _ => rfl) (fun g => mCodeOK kk_X5_isNearEnd) (fun g => mFldL fk_RX5 rfl) (fun g idx v h => by cases h) (fun g idx v h => by cases h) (mCalL (l := l_X5_isNearEnd) (List.forall_mem_cons.mpr ⟨mSite.V (idx := 58) ok_X2_left (by decide) (by decide) rv_X2_left wc_X2_left wk_RX5_58 wi_X2_left wl_X2_left wn_RX2 wd_X2_left, fun _ h => absurd h List.not_mem_nil⟩) (fun _ => rfl)) (mIV_run m_X5_isNearEnd)

def k_X5_endDeal : List (Nat × mI) := [(0, .aload_n 0, 1, 0, 0, []),
  (1, .iconst 0, 1, 0, nI 0, []),
  (2, .putfield 35, 3, 0, 0, []),
  (5, .aload_n 0, 1, 0, 0, []),
  (6, .aload_n 0, 1, 0, 0, []),
  (7, .getfield 39, 3, 0, 0, []),
  (10, .iconst 1, 1, 0, nI 1, []),
  (11, .iadd, 1, 0, 0, []),
  (12, .iconst 3, 1, 0, nI 3, []),
  (13, .iand, 1, 0, 0, []),
  (14, .putfield 39, 3, 0, 0, []),
  (17, .return_, 1, 0, 0, [])]
theorem kk_X5_endDeal : (k_X5_endDeal.all fun e => mChk cX5_endDeal e.1 e.2) = true := by decide +kernel
def l_X5_endDeal : List (Nat × Nat × (mG → mT)) := []
def f_X5_endDeal (g : mG) : mF := (mLk k_X5_endDeal, mLk fl_RX5, mLk (l_X5_endDeal.map fun e => (e.1, e.2.1, e.2.2 g)), mLk ([] : List (Nat × mV)), mLk ([] : List (Nat × mV)), none)
theorem m_X5_endDeal (g : mG) : mMono (f_X5_endDeal g) := mMonoL (g := g) (l := l_X5_endDeal) (fun _ h => absurd h List.not_mem_nil) rfl
def t_X5_endDeal : mG → mT := mIV pl_X5 f_X5_endDeal 1 13
theorem mo_X5_endDeal : mMn t_X5_endDeal := mIV_mono m_X5_endDeal
theorem rv_X5_endDeal : mHasR yX5_endDeal 0 t_X5_endDeal := mIV_recv is_X5
theorem ok_X5_endDeal : mOK yX5_endDeal cX5_endDeal 1 (none) 1 t_X5_endDeal := mOK.of f_X5_endDeal (by decide) (fun _ => rfl) (fun g => mCodeOK kk_X5_endDeal) (fun g => mFldL fk_RX5 rfl) (fun g idx v h => by cases h) (fun g idx v h => by cases h) (mCalL (l := l_X5_endDeal) (fun _ h => absurd h List.not_mem_nil) (fun _ => rfl)) (mIV_run m_X5_endDeal)

def k_X5_isTimeFor : List (Nat × mI) := [(0, .iload_n 1, 1, 1, 0, []),
  (1, .tableswitch 120 1 6 #[39, 39, 53, 77, 101, 115], 39, 121, 0, [(nI 1, 40), (nI 2, 40), (nI 3, 54), (nI 4, 78), (nI 5, 102), (nI 6, 116)]),
  (40, .aload_n 0, 1, 0, 0, []),
  (41, .getfield 35, 3, 0, 0, []),
  (44, .iconst 1, 1, 0, nI 1, []),
  (45, .if_icmp .ne 7, 3, 52, 0, []),
  (48, .iconst 1, 1, 0, nI 1, []),
  (49, .goto 4, 3, 53, 0, []),
  (52, .iconst 0, 1, 0, nI 0, []),
  (53, .ireturn, 1, 0, 0, []),
  (54, .aload_n 0, 1, 0, 0, []),
  (55, .getfield 35, 3, 0, 0, []),
  (58, .iconst 1, 1, 0, nI 1, []),
  (59, .if_icmp .ne 17, 3, 76, 0, []),
  (62, .aload_n 0, 1, 0, 0, []),
  (63, .getfield 12, 3, 0, 0, []),
  (66, .invokevirtual 62, 3, 0, 0, []),
  (69, .ifCond .eq 7, 3, 76, 0, []),
  (72, .iconst 1, 1, 0, nI 1, []),
  (73, .goto 4, 3, 77, 0, []),
  (76, .iconst 0, 1, 0, nI 0, []),
  (77, .ireturn, 1, 0, 0, []),
  (78, .aload_n 0, 1, 0, 0, []),
  (79, .getfield 35, 3, 0, 0, []),
  (82, .iconst 1, 1, 0, nI 1, []),
  (83, .if_icmp .ne 17, 3, 100, 0, []),
  (86, .aload_n 0, 1, 0, 0, []),
  (87, .getfield 12, 3, 0, 0, []),
  (90, .invokevirtual 66, 3, 0, 0, []),
  (93, .ifCond .eq 7, 3, 100, 0, []),
  (96, .iconst 1, 1, 0, nI 1, []),
  (97, .goto 4, 3, 101, 0, []),
  (100, .iconst 0, 1, 0, nI 0, []),
  (101, .ireturn, 1, 0, 0, []),
  (102, .aload_n 0, 1, 0, 0, []),
  (103, .getfield 35, 3, 0, 0, []),
  (106, .iconst 2, 1, 0, nI 2, []),
  (107, .if_icmp .ne 7, 3, 114, 0, []),
  (110, .iconst 1, 1, 0, nI 1, []),
  (111, .goto 4, 3, 115, 0, []),
  (114, .iconst 0, 1, 0, nI 0, []),
  (115, .ireturn, 1, 0, 0, []),
  (116, .aload_n 0, 1, 0, 0, []),
  (117, .invokevirtual 69, 3, 0, 0, []),
  (120, .ireturn, 1, 0, 0, []),
  (121, .aload_n 0, 1, 0, 0, []),
  (122, .getfield 35, 3, 0, 0, []),
  (125, .ifCond .ne 7, 3, 132, 0, []),
  (128, .iconst 1, 1, 0, nI 1, []),
  (129, .goto 4, 3, 133, 0, []),
  (132, .iconst 0, 1, 0, nI 0, []),
  (133, .ireturn, 1, 0, 0, [])]
theorem kk_X5_isTimeFor : (k_X5_isTimeFor.all fun e => mChk cX5_isTimeFor e.1 e.2) = true := by decide +kernel
def l_X5_isTimeFor : List (Nat × Nat × (mG → mT)) := [(3 * 62, 0 + 1, t_X1_mayDouble), (3 * 66, 0 + 1, t_X1_mayRedouble), (3 * 69, 0 + 1, t_X5_isNearEnd)]
def f_X5_isTimeFor (g : mG) : mF := (mLk k_X5_isTimeFor, mLk fl_RX5, mLk (l_X5_isTimeFor.map fun e => (e.1, e.2.1, e.2.2 g)), mLk ([] : List (Nat × mV)), mLk ([] : List (Nat × mV)), some .boolean)
theorem m_X5_isTimeFor (g : mG) : mMono (f_X5_isTimeFor g) := mMonoL (g := g) (l := l_X5_isTimeFor) (List.forall_mem_cons.mpr ⟨mo_X1_mayDouble, List.forall_mem_cons.mpr ⟨mo_X1_mayRedouble, List.forall_mem_cons.mpr ⟨mo_X5_isNearEnd, fun _ h => absurd h List.not_mem_nil⟩⟩⟩) rfl
def t_X5_isTimeFor : mG → mT := mIV pl_X5 f_X5_isTimeFor 2 53
theorem mo_X5_isTimeFor : mMn t_X5_isTimeFor := mIV_mono m_X5_isTimeFor
theorem rv_X5_isTimeFor : mHasR yX5_isTimeFor 1 t_X5_isTimeFor := mIV_recv is_X5
theorem ok_X5_isTimeFor : mOK yX5_isTimeFor cX5_isTimeFor 2 (some .boolean) 4 t_X5_isTimeFor := mOK.of f_X5_isTimeFor (by decide) (fun _ => rfl) (fun g => mCodeOK kk_X5_isTimeFor) (fun g => mFldL fk_RX5 rfl) (fun g idx v h => by cases h) (fun g idx v h => by cases h) (mCalL (l := l_X5_isTimeFor) (List.forall_mem_cons.mpr ⟨mSite.V (idx := 62) ok_X1_mayDouble (by decide) (by decide) rv_X1_mayDouble wc_X1_mayDouble wk_RX5_62 wi_X1_mayDouble wl_X1_mayDouble wn_RX1 wd_X1_mayDouble, List.forall_mem_cons.mpr ⟨mSite.V (idx := 66) ok_X1_mayRedouble (by decide) (by decide) rv_X1_mayRedouble wc_X1_mayRedouble wk_RX5_66 wi_X1_mayRedouble wl_X1_mayRedouble wn_RX1 wd_X1_mayRedouble, List.forall_mem_cons.mpr ⟨mSite.V (idx := 69) ok_X5_isNearEnd (by decide) (by decide) rv_X5_isNearEnd wc_X5_isNearEnd wk_RX5_69 wi_X5_isNearEnd wl_X5_isNearEnd wn_RX5 wd_X5_isNearEnd, fun _ h => absurd h List.not_mem_nil⟩⟩⟩) (fun _ => rfl)) (mIV_run m_X5_isTimeFor)
end
section
/-! ===== BITS: a set of cards is an int ===== -/
def ub (x : Int32) : Nat := x.toBitVec.toNat
def bt (x : Int32) (i : Nat) : Bool := (ub x).testBit i
theorem ub_lt (x : Int32) : ub x < 4294967296 := x.toBitVec.isLt
theorem ub_inj {x y : Int32} (h : ub x = ub y) : x = y := Int32.toBitVec_inj.mp (BitVec.toNat_inj.mp h)
theorem ub_nI {n : Nat} (h : n < 4294967296) : ub (nI n) = n := pk_tn h
theorem ub_and (x y : Int32) : ub (x &&& y) = ub x &&& ub y := by
  unfold ub
  rw [Int32.toBitVec_and, BitVec.toNat_and]
theorem ub_or (x y : Int32) : ub (x ||| y) = ub x ||| ub y := by
  unfold ub
  rw [Int32.toBitVec_or, BitVec.toNat_or]
theorem ub_add (x y : Int32) : ub (x + y) = (ub x + ub y) % 4294967296 := by
  unfold ub
  rw [Int32.toBitVec_add, BitVec.toNat_add]
theorem ub_sub (x y : Int32) : ub (x - y) = (4294967296 - ub y + ub x) % 4294967296 := by
  unfold ub
  rw [Int32.toBitVec_sub, BitVec.toNat_sub]
theorem ub_neg (x : Int32) : ub (-x) = (4294967296 - ub x) % 4294967296 := by
  unfold ub
  rw [Int32.toBitVec_neg, BitVec.toNat_neg]
theorem bt_ext {x y : Int32} (h : ∀ i, i < 32 → bt x i = bt y i) : x = y := by
  refine ub_inj (Nat.eq_of_testBit_eq fun i => ?_)
  by_cases hi : i < 32
  · exact h i hi
  · rw [Nat.testBit_lt_two_pow (Nat.lt_of_lt_of_le (ub_lt x) (by rw [show 4294967296 = 2 ^ 32 from rfl]; exact Nat.pow_le_pow_right (by decide) (by omega))), Nat.testBit_lt_two_pow (Nat.lt_of_lt_of_le (ub_lt y) (by rw [show 4294967296 = 2 ^ 32 from rfl]; exact Nat.pow_le_pow_right (by decide) (by omega)))]
theorem bt_and (x y : Int32) (i : Nat) : bt (x &&& y) i = (bt x i && bt y i) := by
  unfold bt
  rw [ub_and, Nat.testBit_and]
theorem bt_or (x y : Int32) (i : Nat) : bt (x ||| y) i = (bt x i || bt y i) := by
  unfold bt
  rw [ub_or, Nat.testBit_or]
theorem bt_big {x : Int32} {i : Nat} (h : 32 ≤ i) : bt x i = false :=
  Nat.testBit_lt_two_pow (Nat.lt_of_lt_of_le (ub_lt x) (by rw [show 4294967296 = 2 ^ 32 from rfl]; exact Nat.pow_le_pow_right (by decide) h))
theorem nb_split {i a b c d : Nat} (hb : b < 2 ^ i) (hd : d < 2 ^ i) : (2 ^ i * a + b) &&& (2 ^ i * c + d) = 2 ^ i * (a &&& c) + (b &&& d) := by
  refine Nat.eq_of_testBit_eq fun j => ?_
  have hbd : b &&& d < 2 ^ i := Nat.and_lt_two_pow b hd
  rw [Nat.testBit_and, Nat.testBit_two_pow_mul_add a hb, Nat.testBit_two_pow_mul_add c hd, Nat.testBit_two_pow_mul_add _ hbd]
  split
  · rw [Nat.testBit_and]
  · rw [Nat.testBit_and]
theorem nb_8 {a b c d : Nat} (hb : b < 256) (hd : d < 256) : (256 * a + b) &&& (256 * c + d) = 256 * (a &&& c) + (b &&& d) := nb_split (i := 8) hb hd
/-- how many bits below n -/
def ctb (X : Nat) : Nat → Nat
  | 0 => 0
  | n + 1 => ctb X n + (if X.testBit n then 1 else 0)
theorem ctb_low {a b i : Nat} (hb : b < 2 ^ i) : ∀ n, n ≤ i → ctb (2 ^ i * a + b) n = ctb b n
  | 0, _ => rfl
  | n + 1, h => by
    have e : (2 ^ i * a + b).testBit n = b.testBit n := by rw [Nat.testBit_two_pow_mul_add a hb, if_pos (show n < i by omega)]
    rw [ctb, ctb, ctb_low hb n (by omega), e]
theorem ctb_high {a b i : Nat} (hb : b < 2 ^ i) : ∀ n, ctb (2 ^ i * a + b) (i + n) = ctb b i + ctb a n
  | 0 => by rw [Nat.add_zero, ctb_low hb i (Nat.le_refl _)]; rfl
  | n + 1 => by
    have e : (2 ^ i * a + b).testBit (i + n) = a.testBit n := by rw [Nat.testBit_two_pow_mul_add a hb, if_neg (show ¬ i + n < i by omega), show i + n - i = n by omega]
    rw [show i + (n + 1) = (i + n) + 1 by omega, ctb, ctb, ctb_high hb n, e]
    omega
theorem ctb_8 {a b : Nat} (hb : b < 256) (n : Nat) : ctb (256 * a + b) (8 + n) = ctb b 8 + ctb a n := ctb_high (i := 8) hb n
def pcS (x : Int32) (k : Nat) : Int32 := (x.toUInt32 >>> ((nI k).toUInt32 &&& Int32.toUInt32 31)).toInt32
def pc1 (x : Int32) : Int32 := x - (pcS x 1 &&& nI 1431655765)
def pc2 (x : Int32) : Int32 := (x &&& nI 858993459) + (pcS x 2 &&& nI 858993459)
def pc3 (x : Int32) : Int32 := (x + pcS x 4) &&& nI 252645135
def pc4 (x : Int32) : Int32 := x + pcS x 8
def pc5 (x : Int32) : Int32 := x + pcS x 16
def popC (x : Int32) : Int32 := pc5 (pc4 (pc3 (pc2 (pc1 x)))) &&& nI 63
theorem ub_sh (x : Int32) (k : Nat) (hk : k < 32) : ub (pcS x k) = ub x / 2 ^ k :=
  pk_ushr x (nI k) k ((by decide +kernel : ∀ k, k < 32 → (((nI k).toUInt32 &&& Int32.toUInt32 31).toBitVec % 32).toNat = k) k hk)
theorem pop_b1 : ∀ b, b < 256 → ∀ t, t < 2 → ((b / 2 + 128 * t) &&& 85) = ((b / 2) &&& 85) ∧ ((b / 2) &&& 85) ≤ b := by decide +kernel
theorem pop_b2 : ∀ q, q < 256 → ∀ t, t < 4 → ((q / 4 + 64 * t) &&& 51) = ((q / 4) &&& 51) ∧ (q &&& 51) + ((q / 4) &&& 51) < 256 := by decide +kernel
def pq1 (b : Nat) : Nat := b - ((b / 2) &&& 85)
def pq2 (q : Nat) : Nat := (q &&& 51) + ((q / 4) &&& 51)
theorem pop_b3 : ∀ b, b < 256 → pq1 b < 256 ∧ pq2 (pq1 b) < 256 ∧ pq2 (pq1 b) % 16 ≤ 4 ∧ pq2 (pq1 b) / 16 ≤ 4 ∧ pq2 (pq1 b) % 16 + pq2 (pq1 b) / 16 = ctb b 8 ∧ ctb b 8 ≤ 8 := by decide +kernel
theorem pop_b4 : ∀ s, s < 16 → ∀ u, u < 16 → ((16 * u + s) &&& 15) = s := by decide +kernel
theorem pop_63 : ∀ n, n < 64 → (n &&& 63) = n := by decide +kernel
theorem pl_sub {X Y : Nat} (h : Y ≤ X) (hx : X < 4294967296) : (4294967296 - Y + X) % 4294967296 = X - Y := by omega
theorem pl_add {X Y : Nat} (h : X + Y < 4294967296) : (X + Y) % 4294967296 = X + Y := Nat.mod_eq_of_lt h
theorem pl_h1 {A b : Nat} (h : b < 256) : (256 * A + b) / 2 = 256 * (A / 2) + (b / 2 + 128 * (A % 2)) := by omega
theorem pl_m1 {A b : Nat} : (256 * A + b) % 2 = b % 2 := by omega
theorem pl_h2 {A b : Nat} (h : b < 256) : (256 * A + b) / 4 = 256 * (A / 4) + (b / 4 + 64 * (A % 4)) := by omega
theorem pl_m2 {A b : Nat} : (256 * A + b) % 4 = b % 4 := by omega
theorem pl_h4 {A b : Nat} (h : b < 256) : (256 * A + b) / 16 = 256 * (A / 16) + (b / 16 + 16 * (A % 16)) := by omega
theorem pl_m4 {A b : Nat} : (256 * A + b) % 16 = b % 16 := by omega
theorem pl_h8 {A b : Nat} (h : b < 256) : (256 * A + b) / 256 = A := by omega
def w4 (b3 b2 b1 b0 : Nat) : Nat := 256 * (256 * (256 * b3 + b2) + b1) + b0
theorem w4_and {a3 a2 a1 a0 b3 b2 b1 b0 : Nat} (h2 : a2 < 256) (h1 : a1 < 256) (h0 : a0 < 256) (k2 : b2 < 256) (k1 : b1 < 256) (k0 : b0 < 256) : w4 a3 a2 a1 a0 &&& w4 b3 b2 b1 b0 = w4 (a3 &&& b3) (a2 &&& b2) (a1 &&& b1) (a0 &&& b0) := by
  unfold w4
  rw [nb_8 h0 k0, nb_8 h1 k1, nb_8 h2 k2]
theorem w4_lt {a3 a2 a1 a0 : Nat} (h3 : a3 < 256) (h2 : a2 < 256) (h1 : a1 < 256) (h0 : a0 < 256) : w4 a3 a2 a1 a0 < 4294967296 := by
  unfold w4
  omega
theorem w4_sub {a3 a2 a1 a0 b3 b2 b1 b0 : Nat} (h3 : b3 ≤ a3) (h2 : b2 ≤ a2) (h1 : b1 ≤ a1) (h0 : b0 ≤ a0) : w4 b3 b2 b1 b0 ≤ w4 a3 a2 a1 a0 ∧ w4 a3 a2 a1 a0 - w4 b3 b2 b1 b0 = w4 (a3 - b3) (a2 - b2) (a1 - b1) (a0 - b0) := by
  unfold w4
  omega
theorem w4_add {a3 a2 a1 a0 b3 b2 b1 b0 : Nat} : w4 a3 a2 a1 a0 + w4 b3 b2 b1 b0 = w4 (a3 + b3) (a2 + b2) (a1 + b1) (a0 + b0) := by
  unfold w4
  omega
theorem w4_h1 {b3 b2 b1 b0 : Nat} (h2 : b2 < 256) (h1 : b1 < 256) (h0 : b0 < 256) : w4 b3 b2 b1 b0 / 2 = w4 (b3 / 2) (b2 / 2 + 128 * (b3 % 2)) (b1 / 2 + 128 * (b2 % 2)) (b0 / 2 + 128 * (b1 % 2)) := by
  unfold w4
  rw [pl_h1 h0, pl_h1 h1, pl_h1 h2, pl_m1, pl_m1]
theorem w4_h2 {b3 b2 b1 b0 : Nat} (h2 : b2 < 256) (h1 : b1 < 256) (h0 : b0 < 256) : w4 b3 b2 b1 b0 / 4 = w4 (b3 / 4) (b2 / 4 + 64 * (b3 % 4)) (b1 / 4 + 64 * (b2 % 4)) (b0 / 4 + 64 * (b1 % 4)) := by
  unfold w4
  rw [pl_h2 h0, pl_h2 h1, pl_h2 h2, pl_m2, pl_m2]
theorem w4_h4 {b3 b2 b1 b0 : Nat} (h2 : b2 < 256) (h1 : b1 < 256) (h0 : b0 < 256) : w4 b3 b2 b1 b0 / 16 = w4 (b3 / 16) (b2 / 16 + 16 * (b3 % 16)) (b1 / 16 + 16 * (b2 % 16)) (b0 / 16 + 16 * (b1 % 16)) := by
  unfold w4
  rw [pl_h4 h0, pl_h4 h1, pl_h4 h2, pl_m4, pl_m4]
theorem w4_h8 {b3 b2 b1 b0 : Nat} (h0 : b0 < 256) : w4 b3 b2 b1 b0 / 256 = w4 0 b3 b2 b1 := by
  unfold w4
  rw [pl_h8 h0]
  omega
theorem w4_h16 {b3 b2 b1 b0 : Nat} (h1 : b1 < 256) (h0 : b0 < 256) : w4 b3 b2 b1 b0 / 65536 = w4 0 0 b3 b2 := by
  rw [show (65536 : Nat) = 256 * 256 from rfl, ← Nat.div_div_eq_div_mul, w4_h8 h0, w4_h8 h1]
theorem pop_v1 {x : Int32} {b3 b2 b1 b0 : Nat} (h3 : b3 < 256) (h2 : b2 < 256) (h1 : b1 < 256) (h0 : b0 < 256) (hX : ub x = w4 b3 b2 b1 b0) : ub (pc1 x) = w4 (pq1 b3) (pq1 b2) (pq1 b1) (pq1 b0) := by
  obtain ⟨a0, c0⟩ := pop_b1 b0 h0 (b1 % 2) (by omega)
  obtain ⟨a1, c1⟩ := pop_b1 b1 h1 (b2 % 2) (by omega)
  obtain ⟨a2, c2⟩ := pop_b1 b2 h2 (b3 % 2) (by omega)
  obtain ⟨a3, c3⟩ := pop_b1 b3 h3 0 (by omega)
  rw [pc1, ub_sub, ub_and, ub_sh x 1 (by decide), ub_nI (by decide), hX, show (2 : Nat) ^ 1 = 2 from rfl, w4_h1 h2 h1 h0, show (1431655765 : Nat) = w4 85 85 85 85 from rfl, w4_and (by omega) (by omega) (by omega) (by decide) (by decide) (by decide), a0, a1, a2]
  obtain ⟨l1, l2⟩ := w4_sub (a3 := b3) (a2 := b2) (a1 := b1) (a0 := b0) c3 c2 c1 c0
  rw [pl_sub l1 (w4_lt h3 h2 h1 h0), l2]
  rfl
theorem pop_v2 {x : Int32} {b3 b2 b1 b0 : Nat} (h3 : b3 < 256) (h2 : b2 < 256) (h1 : b1 < 256) (h0 : b0 < 256) (hX : ub x = w4 b3 b2 b1 b0) : ub (pc2 x) = w4 (pq2 b3) (pq2 b2) (pq2 b1) (pq2 b0) := by
  obtain ⟨a0, c0⟩ := pop_b2 b0 h0 (b1 % 4) (by omega)
  obtain ⟨a1, c1⟩ := pop_b2 b1 h1 (b2 % 4) (by omega)
  obtain ⟨a2, c2⟩ := pop_b2 b2 h2 (b3 % 4) (by omega)
  obtain ⟨a3, c3⟩ := pop_b2 b3 h3 0 (by omega)
  rw [pc2, ub_add, ub_and, ub_and, ub_sh x 2 (by decide), ub_nI (by decide), hX, show (2 : Nat) ^ 2 = 4 from rfl, w4_h2 h2 h1 h0, show (858993459 : Nat) = w4 51 51 51 51 from rfl, w4_and h2 h1 h0 (by decide) (by decide) (by decide), w4_and (by omega) (by omega) (by omega) (by decide) (by decide) (by decide), a0, a1, a2, w4_add]
  exact Nat.mod_eq_of_lt (w4_lt c3 c2 c1 c0)
theorem pop_v3 {x : Int32} {b3 b2 b1 b0 c3 c2 c1 c0 : Nat} (h3 : b3 < 256) (h2 : b2 < 256) (h1 : b1 < 256) (h0 : b0 < 256) (l3 : b3 % 16 ≤ 4 ∧ b3 / 16 ≤ 4) (l2 : b2 % 16 ≤ 4 ∧ b2 / 16 ≤ 4) (l1 : b1 % 16 ≤ 4 ∧ b1 / 16 ≤ 4) (l0 : b0 % 16 ≤ 4 ∧ b0 / 16 ≤ 4)
    (e3 : b3 % 16 + b3 / 16 = c3) (e2 : b2 % 16 + b2 / 16 = c2) (e1 : b1 % 16 + b1 / 16 = c1) (e0 : b0 % 16 + b0 / 16 = c0) (hX : ub x = w4 b3 b2 b1 b0) : ub (pc3 x) = w4 c3 c2 c1 c0 := by
  have s3 : b3 + b3 / 16 = 16 * (b3 / 16) + c3 := by omega
  have s2 : b2 + (b2 / 16 + 16 * (b3 % 16)) = 16 * (b2 / 16 + b3 % 16) + c2 := by omega
  have s1 : b1 + (b1 / 16 + 16 * (b2 % 16)) = 16 * (b1 / 16 + b2 % 16) + c1 := by omega
  have s0 : b0 + (b0 / 16 + 16 * (b1 % 16)) = 16 * (b0 / 16 + b1 % 16) + c0 := by omega
  have t3 := pop_b4 c3 (by omega) (b3 / 16) (by omega)
  have t2 := pop_b4 c2 (by omega) (b2 / 16 + b3 % 16) (by omega)
  have t1 := pop_b4 c1 (by omega) (b1 / 16 + b2 % 16) (by omega)
  have t0 := pop_b4 c0 (by omega) (b0 / 16 + b1 % 16) (by omega)
  rw [pc3, ub_and, ub_add, ub_sh x 4 (by decide), ub_nI (by decide), hX, show (2 : Nat) ^ 4 = 16 from rfl, w4_h4 h2 h1 h0, w4_add, s3, s2, s1, s0, Nat.mod_eq_of_lt (w4_lt (by omega) (by omega) (by omega) (by omega)), show (252645135 : Nat) = w4 15 15 15 15 from rfl, w4_and (by omega) (by omega) (by omega) (by decide) (by decide) (by decide), t3, t2, t1, t0]
theorem popC_ub (x : Int32) : ub (popC x) = ctb (ub x) 32 := by
  generalize hX : ub x = X
  have hXl : X < 4294967296 := by rw [← hX]; exact ub_lt x
  obtain ⟨b0, b1, b2, b3, h0, h1, h2, h3, rfl⟩ : ∃ b0 b1 b2 b3 : Nat, b0 < 256 ∧ b1 < 256 ∧ b2 < 256 ∧ b3 < 256 ∧ X = w4 b3 b2 b1 b0 := ⟨X % 256, X / 256 % 256, X / 65536 % 256, X / 16777216, by omega, by omega, by omega, by omega, by unfold w4; omega⟩
  have hc : ctb (w4 b3 b2 b1 b0) 32 = ctb b0 8 + (ctb b1 8 + (ctb b2 8 + ctb b3 8)) := by
    unfold w4
    rw [show 32 = 8 + 24 from rfl, ctb_8 h0, show 24 = 8 + 16 from rfl, ctb_8 h1, show 16 = 8 + 8 from rfl, ctb_8 h2]
  obtain ⟨p0, p0', p0a, p0b, p0c, p0d⟩ := pop_b3 b0 h0
  obtain ⟨p1, p1', p1a, p1b, p1c, p1d⟩ := pop_b3 b1 h1
  obtain ⟨p2, p2', p2a, p2b, p2c, p2d⟩ := pop_b3 b2 h2
  obtain ⟨p3, p3', p3a, p3b, p3c, p3d⟩ := pop_b3 b3 h3
  have v1 := pop_v1 h3 h2 h1 h0 hX
  have v2 := pop_v2 p3 p2 p1 p0 v1
  have v3 := pop_v3 p3' p2' p1' p0' ⟨p3a, p3b⟩ ⟨p2a, p2b⟩ ⟨p1a, p1b⟩ ⟨p0a, p0b⟩ p3c p2c p1c p0c v2
  rw [hc]
  unfold popC
  generalize pc3 (pc2 (pc1 x)) = e3 at *
  generalize ctb b0 8 = c0 at *
  generalize ctb b1 8 = c1 at *
  generalize ctb b2 8 = c2 at *
  generalize ctb b3 8 = c3 at *
  have v4 : ub (pc4 e3) = w4 c3 (c2 + c3) (c1 + c2) (c0 + c1) := by
    rw [pc4, ub_add, ub_sh e3 8 (by decide), v3, show (2 : Nat) ^ 8 = 256 from rfl, w4_h8 (by omega), w4_add, Nat.mod_eq_of_lt (w4_lt (by omega) (by omega) (by omega) (by omega))]
    rfl
  have v5 : ub (pc5 (pc4 e3)) = w4 c3 (c2 + c3) (c1 + c2 + c3) (c0 + c1 + (c2 + c3)) := by
    rw [pc5, ub_add, ub_sh (pc4 e3) 16 (by decide), v4, show (2 : Nat) ^ 16 = 65536 from rfl, w4_h16 (by omega) (by omega), w4_add, Nat.mod_eq_of_lt (w4_lt (by omega) (by omega) (by omega) (by omega))]
    rfl
  rw [ub_and, ub_nI (by decide), v5, show (63 : Nat) = w4 0 0 0 63 from rfl, w4_and (by omega) (by omega) (by omega) (by decide) (by decide) (by decide), Nat.and_zero, Nat.and_zero, Nat.and_zero, pop_63 _ (by omega)]
  unfold w4
  omega
theorem ctb_le (X : Nat) : ∀ n, ctb X n ≤ n
  | 0 => Nat.le_refl _
  | n + 1 => by
    have := ctb_le X n
    rw [ctb]
    split <;> omega
theorem popC_eq (x : Int32) : popC x = nI (ctb (ub x) 32) := by
  have := ctb_le (ub x) 32
  exact ub_inj (by rw [popC_ub, ub_nI (by omega)])
end
section
/-! ===== THE CARDS OF A SET, the lowest first ===== -/
def bts (X : Nat) : Nat → List Nat
  | 0 => []
  | n + 1 => bts X n ++ (if X.testBit n then [n] else [])
theorem bts_len (X : Nat) : ∀ n, (bts X n).length = ctb X n
  | 0 => rfl
  | n + 1 => by
    rw [bts, ctb, List.length_append, bts_len X n]
    split <;> rfl
theorem bts_mem {X i : Nat} : ∀ {n : Nat}, i ∈ bts X n ↔ i < n ∧ X.testBit i = true
  | 0 => by simp [bts]
  | n + 1 => by
    rw [bts, List.mem_append, bts_mem]
    constructor
    · rintro (⟨h1, h2⟩ | h)
      · exact ⟨by omega, h2⟩
      · split at h
        · rename_i hb
          rw [List.mem_singleton] at h
          subst h
          exact ⟨by omega, hb⟩
        · cases h
    · rintro ⟨h1, h2⟩
      by_cases e : i = n
      · subst e
        rw [if_pos h2]
        exact Or.inr List.mem_cons_self
      · exact Or.inl ⟨by omega, h2⟩
theorem low_ex : ∀ (n X : Nat), X ≤ n → X ≠ 0 → ∃ k m, X = 2 ^ (k + 1) * m + 2 ^ k
  | 0, X, h, h0 => absurd (Nat.le_zero.mp h) h0
  | n + 1, X, h, h0 => by
    by_cases ho : X % 2 = 1
    · exact ⟨0, X / 2, by rw [show 2 ^ (0 + 1) = 2 from rfl, show 2 ^ 0 = 1 from rfl]; omega⟩
    · obtain ⟨k, m, e⟩ := low_ex n (X / 2) (by omega) (by omega)
      refine ⟨k + 1, m, ?_⟩
      have h2 : X = 2 * (X / 2) := by omega
      rw [h2, e, Nat.pow_succ 2 (k + 1), Nat.pow_succ 2 k]
      rw [Nat.mul_add, ← Nat.mul_assoc, Nat.mul_comm 2 (2 ^ k * 2), Nat.mul_comm 2 (2 ^ k)]
theorem low_bit {k m j : Nat} : (2 ^ (k + 1) * m + 2 ^ k).testBit j = if j < k then false else if j = k then true else (2 ^ (k + 1) * m).testBit j := by
  have hp : 2 ^ k < 2 ^ (k + 1) := Nat.pow_lt_pow_right (by decide) (by omega)
  rw [Nat.testBit_two_pow_mul_add m hp, Nat.testBit_two_pow]
  by_cases h1 : j < k
  · rw [if_pos (by omega), if_pos h1]
    simp
    omega
  · by_cases h2 : j = k
    · rw [if_pos (by omega), if_neg h1, if_pos h2]
      simp
      omega
    · rw [if_neg (by omega), if_neg h1, if_neg h2]
      have := Nat.testBit_two_pow_mul_add m (b := 0) (i := k + 1) (Nat.two_pow_pos _) j
      rw [Nat.add_zero, if_neg (by omega)] at this
      exact this.symm
theorem high_bit {k m j : Nat} (h : j ≤ k) : (2 ^ (k + 1) * m).testBit j = false := by
  have := Nat.testBit_two_pow_mul_add m (b := 0) (i := k + 1) (Nat.two_pow_pos _) j
  rw [Nat.add_zero, if_pos (by omega)] at this
  rw [this]
  exact Nat.zero_testBit j
theorem bts_none {X : Nat} : ∀ {n : Nat}, (∀ j, j < n → X.testBit j = false) → bts X n = []
  | 0, _ => rfl
  | n + 1, h => by
    rw [bts, bts_none (fun j hj => h j (by omega)), h n (by omega)]
    rfl
theorem bts_low {k m : Nat} : ∀ (n : Nat), bts (2 ^ (k + 1) * m + 2 ^ k) (k + 1 + n) = k :: bts (2 ^ (k + 1) * m) (k + 1 + n)
  | 0 => by
    have e : (2 ^ (k + 1) * m + 2 ^ k).testBit k = true := by rw [low_bit, if_neg (show ¬ k < k by omega), if_pos rfl]
    rw [Nat.add_zero, bts, bts_none (fun j hj => by rw [low_bit, if_pos hj]), e, bts_none (X := 2 ^ (k + 1) * m) (fun j hj => high_bit (by omega))]
    rfl
  | n + 1 => by
    have e : (2 ^ (k + 1) * m + 2 ^ k).testBit (k + 1 + n) = (2 ^ (k + 1) * m).testBit (k + 1 + n) := by rw [low_bit, if_neg (show ¬ k + 1 + n < k by omega), if_neg (show ¬ k + 1 + n = k by omega)]
    rw [show k + 1 + (n + 1) = (k + 1 + n) + 1 by omega, bts, bts, bts_low n, e]
    rfl
theorem low_dec {k m : Nat} : (2 ^ (k + 1) * m + 2 ^ k) &&& (2 ^ (k + 1) * m + 2 ^ k - 1) = 2 ^ (k + 1) * m := by
  have hp : 2 ^ k < 2 ^ (k + 1) := Nat.pow_lt_pow_right (by decide) (by omega)
  have h0 : 0 < 2 ^ k := Nat.two_pow_pos k
  rw [Nat.add_sub_assoc h0, nb_split hp (by omega), Nat.and_self]
  have : 2 ^ k &&& (2 ^ k - 1) = 0 := by
    refine Nat.eq_of_testBit_eq fun j => ?_
    rw [Nat.testBit_and, Nat.testBit_two_pow, Nat.testBit_two_pow_sub_one, Nat.zero_testBit]
    by_cases h : k = j
    · subst h
      simp
    · simp [h]
  rw [this, Nat.add_zero]
theorem and_compl {m j : Nat} (h : m < 2 ^ j) : m &&& (2 ^ j - 1 - m) = 0 := by
  refine Nat.eq_of_testBit_eq fun i => ?_
  rw [Nat.testBit_and, show 2 ^ j - 1 - m = 2 ^ j - (m + 1) by omega, Nat.testBit_two_pow_sub_succ h, Nat.zero_testBit]
  cases m.testBit i <;> simp
theorem low_neg {k m : Nat} (hk : k < 32) (hX : 2 ^ (k + 1) * m + 2 ^ k < 4294967296) : (2 ^ (k + 1) * m + 2 ^ k) &&& (4294967296 - (2 ^ (k + 1) * m + 2 ^ k)) = 2 ^ k := by
  have hp : 2 ^ k < 2 ^ (k + 1) := Nat.pow_lt_pow_right (by decide) (by omega)
  have e32 : (4294967296 : Nat) = 2 ^ (k + 1) * 2 ^ (31 - k) := by rw [← Nat.pow_add, show k + 1 + (31 - k) = 32 by omega]
  have hm : m < 2 ^ (31 - k) := by
    rw [e32] at hX
    exact Nat.lt_of_mul_lt_mul_left (Nat.lt_of_le_of_lt (Nat.le_add_right _ _) hX)
  have e2 : 2 ^ (k + 1) = 2 ^ k + 2 ^ k := by rw [Nat.pow_succ]; omega
  have e3 : 4294967296 - (2 ^ (k + 1) * m + 2 ^ k) = 2 ^ (k + 1) * (2 ^ (31 - k) - 1 - m) + 2 ^ k := by
    have h3 : 2 ^ (31 - k) = (2 ^ (31 - k) - 1 - m) + m + 1 := by omega
    generalize 2 ^ (31 - k) - 1 - m = q at *
    rw [e32, h3, Nat.mul_add, Nat.mul_add, Nat.mul_one]
    generalize 2 ^ (k + 1) * m = a at *
    generalize 2 ^ (k + 1) * q = b at *
    omega
  rw [e3, nb_split hp hp, and_compl hm, Nat.and_self, Nat.mul_zero, Nat.zero_add]
theorem pop_pred : ∀ k, k < 32 → ctb (2 ^ k - 1) 32 = k := by decide +kernel
def fLow (c : Int32) : Int32 := if c = nI 0 then -1 else popC ((c &&& (-c)) - nI 1)
/-- a set that isn't empty: its lowest card, and the others -/
theorem low_of {x : Int32} (h : x ≠ 0) : ∃ k : Nat, k < 32 ∧ fLow x = nI k ∧ bts (ub x) 32 = k :: bts (ub (x &&& (x - nI 1))) 32 ∧ bt x k = true := by
  have hu : ub x ≠ 0 := fun e => h (ub_inj (by rw [e]; rfl))
  obtain ⟨k, m, e⟩ := low_ex _ (ub x) (Nat.le_refl _) hu
  have hl := ub_lt x
  have hk : k < 32 := by
    apply Classical.byContradiction
    intro hn
    have : 2 ^ 32 ≤ 2 ^ k := Nat.pow_le_pow_right (by decide) (by omega)
    rw [e] at hl
    have : (4294967296 : Nat) = 2 ^ 32 := rfl
    omega
  refine ⟨k, hk, ?_, ?_, ?_⟩
  · unfold fLow
    rw [if_neg (show ¬ x = nI 0 from h), popC_eq]
    have e1 : ub ((x &&& (-x)) - nI 1) = 2 ^ k - 1 := by
      have hp : 0 < 2 ^ k := Nat.two_pow_pos k
      have hp2 : 2 ^ k < 4294967296 := by rw [show (4294967296 : Nat) = 2 ^ 32 from rfl]; exact Nat.pow_lt_pow_right (by decide) hk
      rw [ub_sub, ub_and, ub_neg, Nat.mod_eq_of_lt (show 4294967296 - ub x < 4294967296 by omega)]
      rw [e, low_neg hk (by rw [← e]; exact hl), ub_nI (by decide)]
      omega
    rw [e1, pop_pred k hk]
  · have e2 : ub (x &&& (x - nI 1)) = 2 ^ (k + 1) * m := by
      have e3 : ub (x - nI 1) = ub x - 1 := by
        rw [ub_sub, ub_nI (by decide)]
        omega
      rw [ub_and, e3, e, low_dec]
    rw [e2, e]
    have := bts_low (k := k) (m := m) (31 - k)
    rw [show k + 1 + (31 - k) = 32 by omega] at this
    exact this
  · unfold bt
    rw [e, low_bit, if_neg (by omega), if_pos rfl]
theorem bts_zero : bts (ub 0) 32 = [] := by decide +kernel
theorem bts_nil {x : Int32} (h : bts (ub x) 32 = []) : x = 0 := by
  apply Classical.byContradiction
  intro hn
  obtain ⟨k, -, -, e, -⟩ := low_of hn
  rw [h] at e
  cases e
theorem pop_len (x : Int32) : popC x = nI (bts (ub x) 32).length := by rw [popC_eq, bts_len]
theorem bts_lt {x : Int32} {c : Nat} (h : c ∈ bts (ub x) 32) : c < 32 ∧ bt x c = true := bts_mem.mp h
theorem bts_32 (x : Int32) : (bts (ub x) 32).length ≤ 32 := by
  rw [bts_len]
  exact ctb_le _ _
end
section
/-! ===== LOOPS OVER ROWS AND SETS, SCORES, WORDS ===== -/
abbrev t_J6_bitCount_0f7a4 : mG → mT := mP1 popC
theorem mo_J6_bitCount_0f7a4 : mMn t_J6_bitCount_0f7a4 := mP1_mono
def k_J6_bitCount_0f7a4 : List (Nat × mI) := [(0, .iload_n 0, 1, 0, 0, []),
  (1, .iload_n 0, 1, 0, 0, []),
  (2, .iconst 1, 1, 0, nI 1, []),
  (3, .iushr, 1, 0, 0, []),
  (4, .ldc_w 265, 3, 0, 0, []),
  (7, .iand, 1, 0, 0, []),
  (8, .isub, 1, 0, 0, []),
  (9, .istore_n 0, 1, 0, 0, []),
  (10, .iload_n 0, 1, 0, 0, []),
  (11, .ldc_w 266, 3, 0, 0, []),
  (14, .iand, 1, 0, 0, []),
  (15, .iload_n 0, 1, 0, 0, []),
  (16, .iconst 2, 1, 0, nI 2, []),
  (17, .iushr, 1, 0, 0, []),
  (18, .ldc_w 266, 3, 0, 0, []),
  (21, .iand, 1, 0, 0, []),
  (22, .iadd, 1, 0, 0, []),
  (23, .istore_n 0, 1, 0, 0, []),
  (24, .iload_n 0, 1, 0, 0, []),
  (25, .iload_n 0, 1, 0, 0, []),
  (26, .iconst 4, 1, 0, nI 4, []),
  (27, .iushr, 1, 0, 0, []),
  (28, .iadd, 1, 0, 0, []),
  (29, .ldc_w 267, 3, 0, 0, []),
  (32, .iand, 1, 0, 0, []),
  (33, .istore_n 0, 1, 0, 0, []),
  (34, .iload_n 0, 1, 0, 0, []),
  (35, .iload_n 0, 1, 0, 0, []),
  (36, .bipush 8, 2, 0, nI 8, []),
  (38, .iushr, 1, 0, 0, []),
  (39, .iadd, 1, 0, 0, []),
  (40, .istore_n 0, 1, 0, 0, []),
  (41, .iload_n 0, 1, 0, 0, []),
  (42, .iload_n 0, 1, 0, 0, []),
  (43, .bipush 16, 2, 0, nI 16, []),
  (45, .iushr, 1, 0, 0, []),
  (46, .iadd, 1, 0, 0, []),
  (47, .istore_n 0, 1, 0, 0, []),
  (48, .iload_n 0, 1, 0, 0, []),
  (49, .bipush 63, 2, 0, nI 63, []),
  (51, .iand, 1, 0, 0, []),
  (52, .ireturn, 1, 0, 0, [])]
theorem kk_J6_bitCount_0f7a4 : (k_J6_bitCount_0f7a4.all fun e => mChk cJ6_bitCount_0f7a4 e.1 e.2) = true := by decide +kernel
def l_J6_bitCount_0f7a4 : List (Nat × Nat × (mG → mT)) := []
def f_J6_bitCount_0f7a4 (g : mG) : mF := (mLk k_J6_bitCount_0f7a4, mLk ([] : List (Nat × Nat × Nat × Nat)), mLk (l_J6_bitCount_0f7a4.map fun e => (e.1, e.2.1, e.2.2 g)), mLk cs_RJ6, mLk ([] : List (Nat × mV)), some .int)
theorem m_J6_bitCount_0f7a4 (g : mG) : mMono (f_J6_bitCount_0f7a4 g) := mMonoL (g := g) (l := l_J6_bitCount_0f7a4) (fun _ h => absurd h List.not_mem_nil) rfl

theorem v_J6_bitCount_0f7a4 (g : mG) (M : mM) (P : mP) (x : Int32)
    (h : let v1 : Int32 := x - (((x.toUInt32 >>> ((nI 1).toUInt32 &&& Int32.toUInt32 31)).toInt32) &&& (nI 1431655765)); let v2 : Int32 := (v1 &&& (nI 858993459)) + (((v1.toUInt32 >>> ((nI 2).toUInt32 &&& Int32.toUInt32 31)).toInt32) &&& (nI 858993459)); let v3 : Int32 := (v2 + ((v2.toUInt32 >>> ((nI 4).toUInt32 &&& Int32.toUInt32 31)).toInt32)) &&& (nI 252645135); let v4 : Int32 := v3 + ((v3.toUInt32 >>> ((nI 8).toUInt32 &&& Int32.toUInt32 31)).toInt32); let v5 : Int32 := v4 + ((v4.toUInt32 >>> ((nI 16).toUInt32 &&& Int32.toUInt32 31)).toInt32); P (some (.inl (v5 &&& (nI 63)))) M) :
    mRun (mSx g) (f_J6_bitCount_0f7a4 g) P (0, [some (.inl x)], [], M) := mRun.vc (m_J6_bitCount_0f7a4 g) [] 42 h

theorem run_J6_bitCount_0f7a4 : mRunOf 1 t_J6_bitCount_0f7a4 f_J6_bitCount_0f7a4 := runP1 (by decide) (fun g M P x h => v_J6_bitCount_0f7a4 g M P x h)
theorem ok_J6_bitCount_0f7a4 : mOK yJ6_bitCount_0f7a4 cJ6_bitCount_0f7a4 1 (some .int) 1 t_J6_bitCount_0f7a4 := mOK.of f_J6_bitCount_0f7a4 (by decide) (fun _ => rfl) (fun g => mCodeOK kk_J6_bitCount_0f7a4) (fun g => mFldL (l := []) (fun _ h => absurd h List.not_mem_nil) rfl) (mCstL ck_RJ6 (fun _ => rfl)) (fun g idx v h => by cases h) (mCalL (l := l_J6_bitCount_0f7a4) (fun _ h => absurd h List.not_mem_nil) (fun _ => rfl)) run_J6_bitCount_0f7a4

abbrev t_X7_lowestCard : mG → mT := mP1 fLow
theorem mo_X7_lowestCard : mMn t_X7_lowestCard := mP1_mono
def k_X7_lowestCard : List (Nat × mI) := [(0, .iload_n 0, 1, 0, 0, []),
  (1, .ifCond .ne 7, 3, 8, 0, []),
  (4, .iconst (-1), 1, 0, -1, []),
  (5, .goto 12, 3, 17, 0, []),
  (8, .iload_n 0, 1, 0, 0, []),
  (9, .iload_n 0, 1, 0, 0, []),
  (10, .ineg, 1, 0, 0, []),
  (11, .iand, 1, 0, 0, []),
  (12, .iconst 1, 1, 0, nI 1, []),
  (13, .isub, 1, 0, 0, []),
  (14, .invokestatic 231, 3, 0, 0, []),
  (17, .ireturn, 1, 0, 0, [])]
theorem kk_X7_lowestCard : (k_X7_lowestCard.all fun e => mChk cX7_lowestCard e.1 e.2) = true := by decide +kernel
def l_X7_lowestCard : List (Nat × Nat × (mG → mT)) := [(3 * 231 + 1, 1, t_J6_bitCount_0f7a4)]
def f_X7_lowestCard (g : mG) : mF := (mLk k_X7_lowestCard, mLk fl_RX7, mLk (l_X7_lowestCard.map fun e => (e.1, e.2.1, e.2.2 g)), mLk ([] : List (Nat × mV)), mLk ([] : List (Nat × mV)), some .int)
theorem m_X7_lowestCard (g : mG) : mMono (f_X7_lowestCard g) := mMonoL (g := g) (l := l_X7_lowestCard) (List.forall_mem_cons.mpr ⟨mo_J6_bitCount_0f7a4, fun _ h => absurd h List.not_mem_nil⟩) rfl

theorem v_X7_lowestCard (g : mG) (M : mM) (P : mP) (x : Int32)
    (h : (¬ x = 0 → P (some (.inl (popC ((x &&& (-x)) - (nI 1))))) M) ∧ (¬ (¬ x = 0) → P (some (.inl (-1))) M)) :
    mRun (mSx g) (f_X7_lowestCard g) P (0, [some (.inl x)], [], M) := mRun.vc (m_X7_lowestCard g) [] 10 h

theorem run_X7_lowestCard : mRunOf 1 t_X7_lowestCard f_X7_lowestCard := runP1 (by decide) (fun g M P x h => v_X7_lowestCard g M P x ⟨fun h1 => by
    refine mP_eq h ?_
    unfold fLow
    rw [if_neg (show ¬ x = nI 0 from h1)], fun h1 => by
    refine mP_eq h ?_
    unfold fLow
    rw [if_pos (show x = nI 0 from Classical.not_not.mp h1)]⟩)
theorem ok_X7_lowestCard : mOK yX7_lowestCard cX7_lowestCard 1 (some .int) 2 t_X7_lowestCard := mOK.of f_X7_lowestCard (by decide) (fun _ => rfl) (fun g => mCodeOK kk_X7_lowestCard) (fun g => mFldL fk_RX7 rfl) (fun g idx v h => by cases h) (fun g idx v h => by cases h) (mCalL (l := l_X7_lowestCard) (List.forall_mem_cons.mpr ⟨mSite.S (idx := 231) ok_J6_bitCount_0f7a4 (by decide) (by decide) wc_J6_bitCount_0f7a4 wk_RX7_231 wt_J6_bitCount_0f7a4 wn_RJ6 wd_J6_bitCount_0f7a4, fun _ h => absurd h List.not_mem_nil⟩) (fun _ => rfl)) run_X7_lowestCard

def k_X7_fill : List (Nat × mI) := [(0, .iconst 0, 1, 0, nI 0, []),
  (1, .istore_n 2, 1, 2, 0, []),
  (2, .iload_n 2, 1, 2, 0, []),
  (3, .aload_n 0, 1, 0, 0, []),
  (4, .arraylength, 1, 1, 0, []),
  (5, .if_icmp .ge 13, 3, 18, 0, []),
  (8, .aload_n 0, 1, 0, 0, []),
  (9, .iload_n 2, 1, 2, 0, []),
  (10, .iload_n 1, 1, 1, 0, []),
  (11, .iastore, 1, 1, 0, []),
  (12, .iinc 2 1, 3, 2, nI 1, []),
  (15, .goto (-13), 3, 2, 0, []),
  (18, .return_, 1, 0, 0, [])]
theorem kk_X7_fill : (k_X7_fill.all fun e => mChk cX7_fill e.1 e.2) = true := by decide +kernel
def l_X7_fill : List (Nat × Nat × (mG → mT)) := []
def f_X7_fill (g : mG) : mF := (mLk k_X7_fill, mLk fl_RX7, mLk (l_X7_fill.map fun e => (e.1, e.2.1, e.2.2 g)), mLk ([] : List (Nat × mV)), mLk ([] : List (Nat × mV)), none)
theorem m_X7_fill (g : mG) : mMono (f_X7_fill g) := mMonoL (g := g) (l := l_X7_fill) (fun _ h => absurd h List.not_mem_nil) rfl

theorem v_X7_fill_0 (g : mG) (M : mM) (P : mP) (a : Nat) (v : Int32)
    (h : mRun (mSx g) (f_X7_fill g) P (2, [some (.inr (some a)), some (.inl v), some (.inl (nI 0))], [], M)) :
    mRun (mSx g) (f_X7_fill g) P (0, [some (.inr (some a)), some (.inl v), none], [], M) := mRun.vc (m_X7_fill g) [2] 3 h

theorem v_X7_fill_2 (g : mG) (M : mM) (P : mP) (a : Nat) (v i : Int32)
    (h : ∃ (n1 : Nat) (rs2 : List (Option Nat)), mRoA a = none ∧ (mSx g)[a]? = some (0, n1, rs2) ∧ (((nI n1) ≤ i → P none M) ∧ (¬ (nI n1) ≤ i → ∃ (n3 : Nat) (rs4 : List (Option Nat)), (mSx g)[a]? = some (0, n3, rs4) ∧ vp_in i n3 ∧ (let M5 : mM := mW1 M a i.toNatClampNeg v; mRun (mSx g) (f_X7_fill g) P (2, [some (.inr (some a)), some (.inl v), some (.inl (i + (nI 1)))], [], M5))))) :
    mRun (mSx g) (f_X7_fill g) P (2, [some (.inr (some a)), some (.inl v), some (.inl i)], [], M) := mRun.vc (m_X7_fill g) [2] 11 h

theorem aFill_0 {f : Nat → Int32} {v : Int32} : aFill f 0 v = f := funext fun j => by simp [aFill]
theorem aFill_s {f : Nat → Int32} {i : Nat} {v : Int32} : upd (aFill f i v) i v = aFill f (i + 1) v := funext fun j => by
  unfold upd aFill
  by_cases h : j = i
  · rw [if_pos h, if_pos (by omega)]
  · rw [if_neg h]
    by_cases h2 : j < i
    · rw [if_pos h2, if_pos (by omega)]
    · rw [if_neg h2, if_neg (by omega)]
theorem mUp_up {M : mM} {a : Nat} {f k : Nat → Int32} : mUp (mUp M a f) a k = mUp M a k := funext fun c => by
  unfold mUp
  split <;> rfl
theorem mUp_at {M : mM} {a : Nat} {f : Nat → Int32} : mUp M a f a = f := if_pos rfl
theorem mUp_ne {M : mM} {a c : Nat} {f : Nat → Int32} (h : c ≠ a) : mUp M a f c = M c := if_neg h
theorem run_X7_fill_2 (g : mG) (P : mP) (a n : Nat) (rs : List (Option Nat)) (M : mM) (v : Int32) (ha : mSH[a]? = some (0, n, rs)) (hP : P none (mUp M a (aFill (M a) n v))) :
    ∀ k i, i + k = n → mRun (mSx g) (f_X7_fill g) P (2, [some (.inr (some a)), some (.inl v), some (.inl (nI i))], [], mUp M a (aFill (M a) i v))
  | 0, i, h => by
    have hn := mSH_small ha
    obtain rfl : i = n := by omega
    exact v_X7_fill_2 g _ P a v (nI i) ⟨i, rs, (mSH_no ha).1, mSx_at ha, fun _ => hP, fun z => absurd (nI_le (Nat.le_refl i) hn) z⟩
  | k + 1, i, h => by
    have hn := mSH_small ha
    refine v_X7_fill_2 g _ P a v (nI i) ⟨n, rs, (mSH_no ha).1, mSx_at ha, fun z => absurd z (nI_ge (by omega) hn), fun _ => ⟨n, rs, mSx_at ha, vp_in_nI (by omega) hn, ?_⟩⟩
    have := run_X7_fill_2 g P a n rs M v ha hP k (i + 1) (by omega)
    intro M1
    have e : M1 = mUp M a (aFill (M a) (i + 1) v) := by
      show mUp (mUp M a _) a (upd (mUp M a _ a) _ v) = _
      rw [mUp_up, mUp_at, nI_clamp (by omega), aFill_s]
    rw [e, nI_add]
    exact this
theorem run_X7_fill : mRunOf 3 t_X7_fill f_X7_fill := fun g as M P hT => by
  unfold t_X7_fill at hT
  split at hT
  · rename_i a v
    split at hT
    · rename_i n rs ha
      refine ⟨Nat.le_succ _, v_X7_fill_0 g M P a v ?_⟩
      have := run_X7_fill_2 g P a n rs M v ha hT n 0 (Nat.zero_add n)
      rw [aFill_0, mUp_same] at this
      exact this
    · exact hT.elim
  · exact hT.elim
theorem ok_X7_fill : mOK yX7_fill cX7_fill 3 (none) 1 t_X7_fill := mOK.of f_X7_fill (by decide) (fun _ => rfl) (fun g => mCodeOK kk_X7_fill) (fun g => mFldL fk_RX7 rfl) (fun g idx v h => by cases h) (fun g idx v h => by cases h) (mCalL (l := l_X7_fill) (fun _ h => absurd h List.not_mem_nil) (fun _ => rfl)) run_X7_fill

theorem wnat_copy : Cond.native arraycopyName ∈ mGW := mIn 551 (by decide +kernel) rfl
theorem wst_copy : Cond.static arraycopyName ∈ mGW := mIn 550 (by decide +kernel) rfl
def k_X7_take : List (Nat × mI) := [(0, .aload_n 0, 1, 0, 0, []),
  (1, .iconst 0, 1, 0, nI 0, []),
  (2, .aload_n 1, 1, 1, 0, []),
  (3, .iconst 0, 1, 0, nI 0, []),
  (4, .aload_n 0, 1, 0, 0, []),
  (5, .arraylength, 1, 1, 0, []),
  (6, .aload_n 1, 1, 1, 0, []),
  (7, .arraylength, 1, 1, 0, []),
  (8, .invokestatic 369, 3, 0, 0, []),
  (11, .invokestatic 288, 3, 0, 0, []),
  (14, .return_, 1, 0, 0, [])]
theorem kk_X7_take : (k_X7_take.all fun e => mChk cX7_take e.1 e.2) = true := by decide +kernel
def l_X7_take : List (Nat × Nat × (mG → mT)) := [(3 * 369 + 1, 2, tMin), (3 * 288 + 1, 5, tCopy)]
def f_X7_take (g : mG) : mF := (mLk k_X7_take, mLk fl_RX7, mLk (l_X7_take.map fun e => (e.1, e.2.1, e.2.2 g)), mLk ([] : List (Nat × mV)), mLk ([] : List (Nat × mV)), none)
theorem m_X7_take (g : mG) : mMono (f_X7_take g) := mMonoL (g := g) (l := l_X7_take) (List.forall_mem_cons.mpr ⟨tMin_mono, List.forall_mem_cons.mpr ⟨tCopy_mono, fun _ h => absurd h List.not_mem_nil⟩⟩) rfl

theorem v_X7_take (g : mG) (M : mM) (P : mP) (a b : Nat)
    (h : ∃ (n1 : Nat) (rs2 : List (Option Nat)), mRoA a = none ∧ (mSx g)[a]? = some (0, n1, rs2) ∧ (∃ (n3 : Nat) (rs4 : List (Option Nat)), mRoA b = none ∧ (mSx g)[b]? = some (0, n3, rs4) ∧ (∃ n5 n6 : Nat, (∃ ra, (mSx g)[a]? = some (0, n5, ra)) ∧ (∃ rb, (mSx g)[b]? = some (0, n6, rb)) ∧ ¬ (nI 0) < 0 ∧ ¬ (nI 0) < 0 ∧ ¬ (if (nI n3) < (nI n1) then nI n3 else nI n1) < 0 ∧ (nI 0).toNatClampNeg + (if (nI n3) < (nI n1) then nI n3 else nI n1).toNatClampNeg ≤ n5 ∧ (nI 0).toNatClampNeg + (if (nI n3) < (nI n1) then nI n3 else nI n1).toNatClampNeg ≤ n6 ∧ (let M9 : mM := mUp M b (va_cpy (M a) (M b) (nI 0).toNatClampNeg (nI 0).toNatClampNeg (if (nI n3) < (nI n1) then nI n3 else nI n1).toNatClampNeg); P none M9)))) :
    mRun (mSx g) (f_X7_take g) P (0, [some (.inr (some a)), some (.inr (some b))], [], M) := mRun.vc (m_X7_take g) [] 11 h

theorem run_X7_take : mRunOf 2 t_X7_take f_X7_take := fun g as M P hT => by
  unfold t_X7_take at hT
  split at hT
  · rename_i a b
    split at hT
    · rename_i n ra k rb ha hb
      split at hT
      · rename_i hnk
        rw [Nat.beq_eq] at hnk
        subst hnk
        have hn := mSH_small ha
        have e : (if nI n < nI n then nI n else nI n) = nI n := by split <;> rfl
        refine ⟨Nat.le_refl _, v_X7_take g M P a b ⟨n, ra, (mSH_no ha).1, mSx_at ha, n, rb, (mSH_no hb).1, mSx_at hb, n, n, ⟨ra, mSx_at ha⟩, ⟨rb, mSx_at hb⟩, by decide, by decide, ?_, ?_, ?_, ?_⟩⟩
        · rw [e]
          exact nI_pos hn
        · rw [e, nI_clamp hn]
          show 0 + n ≤ n
          omega
        · rw [e, nI_clamp hn]
          show 0 + n ≤ n
          omega
        · rw [e, nI_clamp hn]
          exact hT
      · exact hT.elim
    · exact hT.elim
  · exact hT.elim
theorem ok_X7_take : mOK yX7_take cX7_take 2 (none) 1 t_X7_take := mOK.of f_X7_take (by decide) (fun _ => rfl) (fun g => mCodeOK kk_X7_take) (fun g => mFldL fk_RX7 rfl) (fun g idx v h => by cases h) (fun g idx v h => by cases h) (mCalL (l := l_X7_take) (List.forall_mem_cons.mpr ⟨mSite.min (idx := 369) (by decide) wc_J9_min_7cf53 wk_RX7_369 wt_J9_min_7cf53 wn_RJ9, List.forall_mem_cons.mpr ⟨mSite.copy (idx := 288) (by decide) (mIn 549 (by decide +kernel) rfl) wnat_copy wst_copy wn_RJ10, fun _ h => absurd h List.not_mem_nil⟩⟩) (fun _ => rfl)) run_X7_take

/-- n times the lowest card away -/
def rmv (x : Int32) : Nat → Int32
  | 0 => x
  | n + 1 => rmv x n &&& (rmv x n - nI 1)
theorem rmv_bts (x : Int32) : ∀ n, bts (ub (rmv x n)) 32 = (bts (ub x) 32).drop n
  | 0 => rfl
  | n + 1 => by
    by_cases h : rmv x n = 0
    · have e := rmv_bts x n
      rw [h, bts_zero] at e
      have e2 : rmv x (n + 1) = 0 := by rw [rmv, h]; decide
      rw [e2, bts_zero]
      have h3 := List.drop_eq_nil_iff.mp e.symm
      exact (List.drop_eq_nil_iff.mpr (by omega)).symm
    · obtain ⟨k, -, -, e, -⟩ := low_of h
      rw [rmv_bts x n] at e
      rw [rmv, ← List.drop_drop (i := 1), e]
      rfl
theorem rmv_low {x : Int32} {n : Nat} (h : n < (bts (ub x) 32).length) : fLow (rmv x n) = nI ((bts (ub x) 32).getD n 0) := by
  have e := rmv_bts x n
  have hne : rmv x n ≠ 0 := fun z => by
    rw [z, bts_zero] at e
    have := List.drop_eq_nil_iff.mp e.symm
    omega
  obtain ⟨k, -, e1, e2, -⟩ := low_of hne
  rw [e] at e2
  rw [e1]
  generalize bts (ub x) 32 = l at *
  generalize bts (ub (rmv x n &&& (rmv x n - nI 1))) 32 = l2 at *
  rw [List.drop_eq_getElem_cons h] at e2
  rw [List.getD_eq_getElem?_getD, List.getElem?_eq_getElem h]
  exact congrArg nI (List.cons.inj e2).1.symm
def pre_X7_cardByNumber (q : Nat × Int32) (as : List mV) (_ : mM) : Prop := as = [.inl q.2, .inl (nI q.1)] ∧ q.1 < 1000
def post_X7_cardByNumber (q : Nat × Int32) (_ : List mV) (M : mM) (v : Int32) (M' : mM) : Prop := v = fLow (rmv q.2 q.1) ∧ M' = M
abbrev t_X7_cardByNumber : mG → mT := mRi pre_X7_cardByNumber post_X7_cardByNumber
theorem mo_X7_cardByNumber : mMn t_X7_cardByNumber := mRi_mono
def k_X7_cardByNumber : List (Nat × mI) := [(0, .iload_n 0, 1, 0, 0, []),
  (1, .istore_n 2, 1, 2, 0, []),
  (2, .iconst 0, 1, 0, nI 0, []),
  (3, .istore_n 3, 1, 3, 0, []),
  (4, .iload_n 3, 1, 3, 0, []),
  (5, .iload_n 1, 1, 1, 0, []),
  (6, .if_icmp .ge 15, 3, 21, 0, []),
  (9, .iload_n 2, 1, 2, 0, []),
  (10, .iload_n 2, 1, 2, 0, []),
  (11, .iconst 1, 1, 0, nI 1, []),
  (12, .isub, 1, 0, 0, []),
  (13, .iand, 1, 0, 0, []),
  (14, .istore_n 2, 1, 2, 0, []),
  (15, .iinc 3 1, 3, 3, nI 1, []),
  (18, .goto (-14), 3, 4, 0, []),
  (21, .iload_n 2, 1, 2, 0, []),
  (22, .invokestatic 236, 3, 0, 0, []),
  (25, .ireturn, 1, 0, 0, [])]
theorem kk_X7_cardByNumber : (k_X7_cardByNumber.all fun e => mChk cX7_cardByNumber e.1 e.2) = true := by decide +kernel
def l_X7_cardByNumber : List (Nat × Nat × (mG → mT)) := [(3 * 236 + 1, 1, t_X7_lowestCard)]
def f_X7_cardByNumber (g : mG) : mF := (mLk k_X7_cardByNumber, mLk fl_RX7, mLk (l_X7_cardByNumber.map fun e => (e.1, e.2.1, e.2.2 g)), mLk ([] : List (Nat × mV)), mLk ([] : List (Nat × mV)), some .int)
theorem m_X7_cardByNumber (g : mG) : mMono (f_X7_cardByNumber g) := mMonoL (g := g) (l := l_X7_cardByNumber) (List.forall_mem_cons.mpr ⟨mo_X7_lowestCard, fun _ h => absurd h List.not_mem_nil⟩) rfl

theorem v_X7_cardByNumber_0 (g : mG) (M : mM) (P : mP) (c n : Int32)
    (h : mRun (mSx g) (f_X7_cardByNumber g) P (4, [some (.inl c), some (.inl n), some (.inl c), some (.inl (nI 0))], [], M)) :
    mRun (mSx g) (f_X7_cardByNumber g) P (0, [some (.inl c), some (.inl n), none, none], [], M) := mRun.vc (m_X7_cardByNumber g) [4] 5 h

theorem v_X7_cardByNumber_1 (g : mG) (M : mM) (P : mP) (c n r k : Int32)
    (h : (n ≤ k → P (some (.inl (fLow r))) M) ∧ (¬ n ≤ k → mRun (mSx g) (f_X7_cardByNumber g) P (4, [some (.inl c), some (.inl n), some (.inl (r &&& (r - (nI 1)))), some (.inl (k + (nI 1)))], [], M))) :
    mRun (mSx g) (f_X7_cardByNumber g) P (4, [some (.inl c), some (.inl n), some (.inl r), some (.inl k)], [], M) := mRun.vc (m_X7_cardByNumber g) [4] 12 h

theorem run_X7_cardByNumber_1 (g : mG) (P : mP) (M : mM) (c : Int32) (n : Nat) (hn : n < 1000) (hP : P (some (.inl (fLow (rmv c n)))) M) :
    ∀ j k, k + j = n → mRun (mSx g) (f_X7_cardByNumber g) P (4, [some (.inl c), some (.inl (nI n)), some (.inl (rmv c k)), some (.inl (nI k))], [], M)
  | 0, k, h => by
    obtain rfl : k = n := by omega
    exact v_X7_cardByNumber_1 g M P c _ _ _ ⟨fun _ => hP, fun z => absurd (nI_le (Nat.le_refl k) (by omega)) z⟩
  | j + 1, k, h => by
    refine v_X7_cardByNumber_1 g M P c _ _ _ ⟨fun z => absurd z (nI_ge (by omega) (by omega)), fun _ => ?_⟩
    have := run_X7_cardByNumber_1 g P M c n hn hP j (k + 1) (by omega)
    rw [nI_add]
    exact this
theorem run_X7_cardByNumber : mRunOf 4 t_X7_cardByNumber f_X7_cardByNumber := fun g as M P hT => by
  obtain ⟨⟨n, c⟩, ⟨rfl, hn⟩, hP⟩ := hT
  exact ⟨Nat.le_of_ble_eq_true rfl, v_X7_cardByNumber_0 g M P c (nI n) (run_X7_cardByNumber_1 g P M c n hn (hP _ _ ⟨rfl, rfl⟩) n 0 (by omega))⟩
theorem ok_X7_cardByNumber : mOK yX7_cardByNumber cX7_cardByNumber 4 (some .int) 3 t_X7_cardByNumber := mOK.of f_X7_cardByNumber (by decide) (fun _ => rfl) (fun g => mCodeOK kk_X7_cardByNumber) (fun g => mFldL fk_RX7 rfl) (fun g idx v h => by cases h) (fun g idx v h => by cases h) (mCalL (l := l_X7_cardByNumber) (List.forall_mem_cons.mpr ⟨mSite.S (idx := 236) ok_X7_lowestCard (by decide) (by decide) wc_X7_lowestCard wk_RX7_236 wt_X7_lowestCard wn_RX7 wd_X7_lowestCard, fun _ h => absurd h List.not_mem_nil⟩) (fun _ => rfl)) run_X7_cardByNumber
end
section
/-! ===== SCORES, LOWEST TERMS, WORDS ===== -/
abbrev t_X7_scoreBy : mG → mT := mP5 fScore
theorem mo_X7_scoreBy : mMn t_X7_scoreBy := mP5_mono
def k_X7_scoreBy : List (Nat × mI) := [(0, .iload_n 1, 1, 1, 0, []),
  (1, .iload_n 2, 1, 2, 0, []),
  (2, .if_icmp .lt 16, 3, 18, 0, []),
  (5, .bipush 10, 2, 0, nI 10, []),
  (7, .iload_n 2, 1, 2, 0, []),
  (8, .imul, 1, 0, 0, []),
  (9, .iconst 2, 1, 0, nI 2, []),
  (10, .iload_n 1, 1, 1, 0, []),
  (11, .iload_n 2, 1, 2, 0, []),
  (12, .isub, 1, 0, 0, []),
  (13, .imul, 1, 0, 0, []),
  (14, .iadd, 1, 0, 0, []),
  (15, .goto 9, 3, 24, 0, []),
  (18, .bipush 10, 2, 0, nI 10, []),
  (20, .iload_n 1, 1, 1, 0, []),
  (21, .iload_n 2, 1, 2, 0, []),
  (22, .isub, 1, 0, 0, []),
  (23, .imul, 1, 0, 0, []),
  (24, .istore 5, 2, 5, 0, []),
  (26, .iload 5, 2, 5, 0, []),
  (28, .iload_n 2, 1, 2, 0, []),
  (29, .bipush 7, 2, 0, nI 7, []),
  (31, .if_icmp .lt 13, 3, 44, 0, []),
  (34, .iload_n 1, 1, 1, 0, []),
  (35, .iload_n 2, 1, 2, 0, []),
  (36, .if_icmp .lt 8, 3, 44, 0, []),
  (39, .bipush 20, 2, 0, nI 20, []),
  (41, .goto 4, 3, 45, 0, []),
  (44, .iconst 0, 1, 0, nI 0, []),
  (45, .iadd, 1, 0, 0, []),
  (46, .istore 6, 2, 6, 0, []),
  (48, .iload 5, 2, 5, 0, []),
  (50, .ifCond .ge 10, 3, 60, 0, []),
  (53, .iconst 2, 1, 0, nI 2, []),
  (54, .iload 5, 2, 5, 0, []),
  (56, .imul, 1, 0, 0, []),
  (57, .goto 5, 3, 62, 0, []),
  (60, .iload 5, 2, 5, 0, []),
  (62, .istore 7, 2, 7, 0, []),
  (64, .iload 4, 2, 4, 0, []),
  (66, .iconst 2, 1, 0, nI 2, []),
  (67, .if_icmp .ne 7, 3, 74, 0, []),
  (70, .iconst 4, 1, 0, nI 4, []),
  (71, .goto 14, 3, 85, 0, []),
  (74, .iload 4, 2, 4, 0, []),
  (76, .iconst 1, 1, 0, nI 1, []),
  (77, .if_icmp .ne 7, 3, 84, 0, []),
  (80, .iconst 2, 1, 0, nI 2, []),
  (81, .goto 4, 3, 85, 0, []),
  (84, .iconst 1, 1, 0, nI 1, []),
  (85, .istore 8, 2, 8, 0, []),
  (87, .iload_n 0, 1, 0, 0, []),
  (88, .tableswitch 94 0 4 #[36, 42, 48, 54, 73], 36, 182, 0, [(nI 0, 124), (nI 1, 130), (nI 2, 136), (nI 3, 142), (nI 4, 161)]),
  (124, .iload 8, 2, 8, 0, []),
  (126, .iload 5, 2, 5, 0, []),
  (128, .imul, 1, 0, 0, []),
  (129, .ireturn, 1, 0, 0, []),
  (130, .iload 8, 2, 8, 0, []),
  (132, .iload 6, 2, 6, 0, []),
  (134, .imul, 1, 0, 0, []),
  (135, .ireturn, 1, 0, 0, []),
  (136, .iload 8, 2, 8, 0, []),
  (138, .iload 7, 2, 7, 0, []),
  (140, .imul, 1, 0, 0, []),
  (141, .ireturn, 1, 0, 0, []),
  (142, .iload 8, 2, 8, 0, []),
  (144, .iload 6, 2, 6, 0, []),
  (146, .iload_n 1, 1, 1, 0, []),
  (147, .bipush 8, 2, 0, nI 8, []),
  (149, .if_icmp .ne 8, 3, 157, 0, []),
  (152, .bipush 50, 2, 0, nI 50, []),
  (154, .goto 4, 3, 158, 0, []),
  (157, .iconst 0, 1, 0, nI 0, []),
  (158, .iadd, 1, 0, 0, []),
  (159, .imul, 1, 0, 0, []),
  (160, .ireturn, 1, 0, 0, []),
  (161, .iload 8, 2, 8, 0, []),
  (163, .iload 7, 2, 7, 0, []),
  (165, .iload_n 1, 1, 1, 0, []),
  (166, .iload_n 2, 1, 2, 0, []),
  (167, .if_icmp .le 11, 3, 178, 0, []),
  (170, .iconst 2, 1, 0, nI 2, []),
  (171, .iload_n 1, 1, 1, 0, []),
  (172, .iload_n 2, 1, 2, 0, []),
  (173, .isub, 1, 0, 0, []),
  (174, .imul, 1, 0, 0, []),
  (175, .goto 4, 3, 179, 0, []),
  (178, .iconst 0, 1, 0, nI 0, []),
  (179, .isub, 1, 0, 0, []),
  (180, .imul, 1, 0, 0, []),
  (181, .ireturn, 1, 0, 0, []),
  (182, .iload 8, 2, 8, 0, []),
  (184, .iload 5, 2, 5, 0, []),
  (186, .iload_n 3, 1, 3, 0, []),
  (187, .iconst 4, 1, 0, nI 4, []),
  (188, .if_icmp .ne 7, 3, 195, 0, []),
  (191, .iconst 5, 1, 0, nI 5, []),
  (192, .goto 4, 3, 196, 0, []),
  (195, .iconst 0, 1, 0, nI 0, []),
  (196, .iadd, 1, 0, 0, []),
  (197, .imul, 1, 0, 0, []),
  (198, .ireturn, 1, 0, 0, [])]
theorem kk_X7_scoreBy : (k_X7_scoreBy.all fun e => mChk cX7_scoreBy e.1 e.2) = true := by decide +kernel
def l_X7_scoreBy : List (Nat × Nat × (mG → mT)) := []
def f_X7_scoreBy (g : mG) : mF := (mLk k_X7_scoreBy, mLk fl_RX7, mLk (l_X7_scoreBy.map fun e => (e.1, e.2.1, e.2.2 g)), mLk ([] : List (Nat × mV)), mLk ([] : List (Nat × mV)), some .int)
theorem m_X7_scoreBy (g : mG) : mMono (f_X7_scoreBy g) := mMonoL (g := g) (l := l_X7_scoreBy) (fun _ h => absurd h List.not_mem_nil) rfl

theorem v_scoreBy_0 (g : mG) (M : mM) (P : mP) (x y z u w : Int32)
    (h : (y < z → mRun (mSx g) (f_X7_scoreBy g) P (24, [some (.inl x), some (.inl y), some (.inl z), some (.inl u), some (.inl w), none, none, none, none], [.inl ((nI 10) * (y - z))], M)) ∧ (¬ y < z → mRun (mSx g) (f_X7_scoreBy g) P (24, [some (.inl x), some (.inl y), some (.inl z), some (.inl u), some (.inl w), none, none, none, none], [.inl (((nI 10) * z) + ((nI 2) * (y - z)))], M))) :
    mRun (mSx g) (f_X7_scoreBy g) P (0, [some (.inl x), some (.inl y), some (.inl z), some (.inl u), some (.inl w), none, none, none, none], [], M) := mRun.vc (m_X7_scoreBy g) [24] 14 h

theorem v_scoreBy_24 (g : mG) (M : mM) (P : mP) (x y z u w q : Int32)
    (h : (z < (nI 7) → mRun (mSx g) (f_X7_scoreBy g) P (46, [some (.inl x), some (.inl y), some (.inl z), some (.inl u), some (.inl w), some (.inl q), none, none, none], [.inl (q + (nI 0))], M)) ∧ (¬ z < (nI 7) → (y < z → mRun (mSx g) (f_X7_scoreBy g) P (46, [some (.inl x), some (.inl y), some (.inl z), some (.inl u), some (.inl w), some (.inl q), none, none, none], [.inl (q + (nI 0))], M)) ∧ (¬ y < z → mRun (mSx g) (f_X7_scoreBy g) P (46, [some (.inl x), some (.inl y), some (.inl z), some (.inl u), some (.inl w), some (.inl q), none, none, none], [.inl (q + (nI 20))], M)))) :
    mRun (mSx g) (f_X7_scoreBy g) P (24, [some (.inl x), some (.inl y), some (.inl z), some (.inl u), some (.inl w), none, none, none, none], [.inl q], M) := mRun.vc (m_X7_scoreBy g) [46] 12 h

theorem v_scoreBy_46 (g : mG) (M : mM) (P : mP) (x y z u w q q2 : Int32)
    (h : (0 ≤ q → mRun (mSx g) (f_X7_scoreBy g) P (62, [some (.inl x), some (.inl y), some (.inl z), some (.inl u), some (.inl w), some (.inl q), some (.inl q2), none, none], [.inl q], M)) ∧ (¬ 0 ≤ q → mRun (mSx g) (f_X7_scoreBy g) P (62, [some (.inl x), some (.inl y), some (.inl z), some (.inl u), some (.inl w), some (.inl q), some (.inl q2), none, none], [.inl ((nI 2) * q)], M))) :
    mRun (mSx g) (f_X7_scoreBy g) P (46, [some (.inl x), some (.inl y), some (.inl z), some (.inl u), some (.inl w), some (.inl q), none, none, none], [.inl q2], M) := mRun.vc (m_X7_scoreBy g) [62] 8 h

theorem v_scoreBy_62 (g : mG) (M : mM) (P : mP) (x y z u w q q2 q3 : Int32)
    (h : (¬ w = (nI 2) → (¬ w = (nI 1) → mRun (mSx g) (f_X7_scoreBy g) P (85, [some (.inl x), some (.inl y), some (.inl z), some (.inl u), some (.inl w), some (.inl q), some (.inl q2), some (.inl q3), none], [.inl (nI 1)], M)) ∧ (¬ (¬ w = (nI 1)) → mRun (mSx g) (f_X7_scoreBy g) P (85, [some (.inl x), some (.inl y), some (.inl z), some (.inl u), some (.inl w), some (.inl q), some (.inl q2), some (.inl q3), none], [.inl (nI 2)], M))) ∧ (¬ (¬ w = (nI 2)) → mRun (mSx g) (f_X7_scoreBy g) P (85, [some (.inl x), some (.inl y), some (.inl z), some (.inl u), some (.inl w), some (.inl q), some (.inl q2), some (.inl q3), none], [.inl (nI 4)], M))) :
    mRun (mSx g) (f_X7_scoreBy g) P (62, [some (.inl x), some (.inl y), some (.inl z), some (.inl u), some (.inl w), some (.inl q), some (.inl q2), none, none], [.inl q3], M) := mRun.vc (m_X7_scoreBy g) [85] 10 h

theorem v_scoreBy_85 (g : mG) (M : mM) (P : mP) (x y z u w q q2 q3 q4 : Int32)
    (h : (x = (nI 0) → P (some (.inl (q4 * q))) M) ∧ (¬ x = (nI 0) → (x = (nI 1) → P (some (.inl (q4 * q2))) M) ∧ (¬ x = (nI 1) → (x = (nI 2) → P (some (.inl (q4 * q3))) M) ∧ (¬ x = (nI 2) → (x = (nI 3) → (¬ y = (nI 8) → P (some (.inl (q4 * (q2 + (nI 0))))) M) ∧ (¬ (¬ y = (nI 8)) → P (some (.inl (q4 * (q2 + (nI 50))))) M)) ∧ (¬ x = (nI 3) → (x = (nI 4) → (y ≤ z → P (some (.inl (q4 * (q3 - (nI 0))))) M) ∧ (¬ y ≤ z → P (some (.inl (q4 * (q3 - ((nI 2) * (y - z)))))) M)) ∧ (¬ x = (nI 4) → (¬ u = (nI 4) → P (some (.inl (q4 * (q + (nI 0))))) M) ∧ (¬ (¬ u = (nI 4)) → P (some (.inl (q4 * (q + (nI 5))))) M))))))) :
    mRun (mSx g) (f_X7_scoreBy g) P (85, [some (.inl x), some (.inl y), some (.inl z), some (.inl u), some (.inl w), some (.inl q), some (.inl q2), some (.inl q3), none], [.inl q4], M) := mRun.vc (m_X7_scoreBy g) [] 17 h

set_option maxHeartbeats 4000000 in
theorem run_X7_scoreBy : mRunOf 9 t_X7_scoreBy f_X7_scoreBy := runP5 (by decide) (fun g M P x y z u w h => by
  have h85 : ∀ q4, q4 = fTimes w → mRun (mSx g) (f_X7_scoreBy g) P (85, [some (.inl x), some (.inl y), some (.inl z), some (.inl u), some (.inl w), some (.inl (fPlain y z)), some (.inl (fBold y z)), some (.inl (fSharp y z)), none], [.inl q4], M) := fun q4 e => by
    refine v_scoreBy_85 g M P x y z u w _ _ _ q4 ?_
    subst e
    unfold fScore fBase at h
    (repeat' (first | (refine ⟨?_, ?_⟩) | (intro _)))
    all_goals first | (refine mP_eq h ?_; simp_all; done) | (refine mP_eq h ?_; (repeat' split) <;> first | rfl | (simp_all; done) | (exfalso; simp (disch := decide) only [fa_lt, fa_le, fa_eq, nI_toInt, Int32.toInt_zero] at * <;> omega))
  have h62 : ∀ q3, q3 = fSharp y z → mRun (mSx g) (f_X7_scoreBy g) P (62, [some (.inl x), some (.inl y), some (.inl z), some (.inl u), some (.inl w), some (.inl (fPlain y z)), some (.inl (fBold y z)), none, none], [.inl q3], M) := fun q3 e => by
    refine v_scoreBy_62 g M P x y z u w _ _ q3 ?_
    subst e
    refine ⟨fun h1 => ⟨fun h2 => h85 _ ?_, fun h2 => h85 _ ?_⟩, fun h1 => h85 _ ?_⟩
    · unfold fTimes
      rw [if_neg h1, if_neg h2]
    · unfold fTimes
      rw [if_neg h1, if_pos (Classical.not_not.mp h2)]
    · unfold fTimes
      rw [if_pos (Classical.not_not.mp h1)]
  have h46 : ∀ q2, q2 = fBold y z → mRun (mSx g) (f_X7_scoreBy g) P (46, [some (.inl x), some (.inl y), some (.inl z), some (.inl u), some (.inl w), some (.inl (fPlain y z)), none, none, none], [.inl q2], M) := fun q2 e => by
    refine v_scoreBy_46 g M P x y z u w _ q2 ?_
    subst e
    refine ⟨fun h1 => h62 _ ?_, fun h1 => h62 _ ?_⟩
    · unfold fSharp
      rw [if_pos h1]
    · unfold fSharp
      rw [if_neg h1]
  have h24 : ∀ q, q = fPlain y z → mRun (mSx g) (f_X7_scoreBy g) P (24, [some (.inl x), some (.inl y), some (.inl z), some (.inl u), some (.inl w), none, none, none, none], [.inl q], M) := fun q e => by
    refine v_scoreBy_24 g M P x y z u w q ?_
    subst e
    refine ⟨fun h1 => h46 _ ?_, fun h1 => ⟨fun h2 => h46 _ ?_, fun h2 => h46 _ ?_⟩⟩
    · unfold fBold
      rw [if_pos h1]
    · unfold fBold
      rw [if_neg h1, if_pos h2]
    · unfold fBold
      rw [if_neg h1, if_neg h2]
  refine v_scoreBy_0 g M P x y z u w ⟨fun h1 => h24 _ ?_, fun h1 => h24 _ ?_⟩
  · unfold fPlain
    rw [if_pos h1]
  · unfold fPlain
    rw [if_neg h1])
theorem ok_X7_scoreBy : mOK yX7_scoreBy cX7_scoreBy 9 (some .int) 1 t_X7_scoreBy := mOK.of f_X7_scoreBy (by decide) (fun _ => rfl) (fun g => mCodeOK kk_X7_scoreBy) (fun g => mFldL fk_RX7 rfl) (fun g idx v h => by cases h) (fun g idx v h => by cases h) (mCalL (l := l_X7_scoreBy) (fun _ h => absurd h List.not_mem_nil) (fun _ => rfl)) run_X7_scoreBy

abbrev t_X8_plain : mG → mT := mP4 fBase
theorem mo_X8_plain : mMn t_X8_plain := mP4_mono
def k_X8_plain : List (Nat × mI) := [(0, .iload_n 1, 1, 1, 0, []),
  (1, .iload_n 2, 1, 2, 0, []),
  (2, .if_icmp .lt 16, 3, 18, 0, []),
  (5, .bipush 10, 2, 0, nI 10, []),
  (7, .iload_n 2, 1, 2, 0, []),
  (8, .imul, 1, 0, 0, []),
  (9, .iconst 2, 1, 0, nI 2, []),
  (10, .iload_n 1, 1, 1, 0, []),
  (11, .iload_n 2, 1, 2, 0, []),
  (12, .isub, 1, 0, 0, []),
  (13, .imul, 1, 0, 0, []),
  (14, .iadd, 1, 0, 0, []),
  (15, .goto 9, 3, 24, 0, []),
  (18, .bipush 10, 2, 0, nI 10, []),
  (20, .iload_n 1, 1, 1, 0, []),
  (21, .iload_n 2, 1, 2, 0, []),
  (22, .isub, 1, 0, 0, []),
  (23, .imul, 1, 0, 0, []),
  (24, .istore 4, 2, 4, 0, []),
  (26, .iload 4, 2, 4, 0, []),
  (28, .iload_n 2, 1, 2, 0, []),
  (29, .bipush 7, 2, 0, nI 7, []),
  (31, .if_icmp .lt 13, 3, 44, 0, []),
  (34, .iload_n 1, 1, 1, 0, []),
  (35, .iload_n 2, 1, 2, 0, []),
  (36, .if_icmp .lt 8, 3, 44, 0, []),
  (39, .bipush 20, 2, 0, nI 20, []),
  (41, .goto 4, 3, 45, 0, []),
  (44, .iconst 0, 1, 0, nI 0, []),
  (45, .iadd, 1, 0, 0, []),
  (46, .istore 5, 2, 5, 0, []),
  (48, .iload 4, 2, 4, 0, []),
  (50, .ifCond .ge 10, 3, 60, 0, []),
  (53, .iconst 2, 1, 0, nI 2, []),
  (54, .iload 4, 2, 4, 0, []),
  (56, .imul, 1, 0, 0, []),
  (57, .goto 5, 3, 62, 0, []),
  (60, .iload 4, 2, 4, 0, []),
  (62, .istore 6, 2, 6, 0, []),
  (64, .iload_n 0, 1, 0, 0, []),
  (65, .ifCond .ne 6, 3, 71, 0, []),
  (68, .iload 4, 2, 4, 0, []),
  (70, .ireturn, 1, 0, 0, []),
  (71, .iload_n 0, 1, 0, 0, []),
  (72, .iconst 1, 1, 0, nI 1, []),
  (73, .if_icmp .ne 6, 3, 79, 0, []),
  (76, .iload 5, 2, 5, 0, []),
  (78, .ireturn, 1, 0, 0, []),
  (79, .iload_n 0, 1, 0, 0, []),
  (80, .iconst 2, 1, 0, nI 2, []),
  (81, .if_icmp .ne 6, 3, 87, 0, []),
  (84, .iload 6, 2, 6, 0, []),
  (86, .ireturn, 1, 0, 0, []),
  (87, .iload_n 0, 1, 0, 0, []),
  (88, .iconst 3, 1, 0, nI 3, []),
  (89, .if_icmp .ne 19, 3, 108, 0, []),
  (92, .iload 5, 2, 5, 0, []),
  (94, .iload_n 1, 1, 1, 0, []),
  (95, .bipush 8, 2, 0, nI 8, []),
  (97, .if_icmp .ne 8, 3, 105, 0, []),
  (100, .bipush 50, 2, 0, nI 50, []),
  (102, .goto 4, 3, 106, 0, []),
  (105, .iconst 0, 1, 0, nI 0, []),
  (106, .iadd, 1, 0, 0, []),
  (107, .ireturn, 1, 0, 0, []),
  (108, .iload_n 0, 1, 0, 0, []),
  (109, .iconst 4, 1, 0, nI 4, []),
  (110, .if_icmp .ne 21, 3, 131, 0, []),
  (113, .iload 6, 2, 6, 0, []),
  (115, .iload_n 1, 1, 1, 0, []),
  (116, .iload_n 2, 1, 2, 0, []),
  (117, .if_icmp .le 11, 3, 128, 0, []),
  (120, .iconst 2, 1, 0, nI 2, []),
  (121, .iload_n 1, 1, 1, 0, []),
  (122, .iload_n 2, 1, 2, 0, []),
  (123, .isub, 1, 0, 0, []),
  (124, .imul, 1, 0, 0, []),
  (125, .goto 4, 3, 129, 0, []),
  (128, .iconst 0, 1, 0, nI 0, []),
  (129, .isub, 1, 0, 0, []),
  (130, .ireturn, 1, 0, 0, []),
  (131, .iload 4, 2, 4, 0, []),
  (133, .iload_n 3, 1, 3, 0, []),
  (134, .iconst 4, 1, 0, nI 4, []),
  (135, .if_icmp .ne 7, 3, 142, 0, []),
  (138, .iconst 5, 1, 0, nI 5, []),
  (139, .goto 4, 3, 143, 0, []),
  (142, .iconst 0, 1, 0, nI 0, []),
  (143, .iadd, 1, 0, 0, []),
  (144, .ireturn, 1, 0, 0, [])]
theorem kk_X8_plain : (k_X8_plain.all fun e => mChk cX8_plain e.1 e.2) = true := by decide +kernel
def l_X8_plain : List (Nat × Nat × (mG → mT)) := []
def f_X8_plain (g : mG) : mF := (mLk k_X8_plain, mLk fl_RX8, mLk (l_X8_plain.map fun e => (e.1, e.2.1, e.2.2 g)), mLk ([] : List (Nat × mV)), mLk ([] : List (Nat × mV)), some .int)
theorem m_X8_plain (g : mG) : mMono (f_X8_plain g) := mMonoL (g := g) (l := l_X8_plain) (fun _ h => absurd h List.not_mem_nil) rfl

theorem v_plain_0 (g : mG) (M : mM) (P : mP) (x y z u : Int32)
    (h : (y < z → mRun (mSx g) (f_X8_plain g) P (24, [some (.inl x), some (.inl y), some (.inl z), some (.inl u), none, none, none], [.inl ((nI 10) * (y - z))], M)) ∧ (¬ y < z → mRun (mSx g) (f_X8_plain g) P (24, [some (.inl x), some (.inl y), some (.inl z), some (.inl u), none, none, none], [.inl (((nI 10) * z) + ((nI 2) * (y - z)))], M))) :
    mRun (mSx g) (f_X8_plain g) P (0, [some (.inl x), some (.inl y), some (.inl z), some (.inl u), none, none, none], [], M) := mRun.vc (m_X8_plain g) [24] 14 h

theorem v_plain_24 (g : mG) (M : mM) (P : mP) (x y z u q : Int32)
    (h : (z < (nI 7) → mRun (mSx g) (f_X8_plain g) P (46, [some (.inl x), some (.inl y), some (.inl z), some (.inl u), some (.inl q), none, none], [.inl (q + (nI 0))], M)) ∧ (¬ z < (nI 7) → (y < z → mRun (mSx g) (f_X8_plain g) P (46, [some (.inl x), some (.inl y), some (.inl z), some (.inl u), some (.inl q), none, none], [.inl (q + (nI 0))], M)) ∧ (¬ y < z → mRun (mSx g) (f_X8_plain g) P (46, [some (.inl x), some (.inl y), some (.inl z), some (.inl u), some (.inl q), none, none], [.inl (q + (nI 20))], M)))) :
    mRun (mSx g) (f_X8_plain g) P (24, [some (.inl x), some (.inl y), some (.inl z), some (.inl u), none, none, none], [.inl q], M) := mRun.vc (m_X8_plain g) [46] 12 h

theorem v_plain_46 (g : mG) (M : mM) (P : mP) (x y z u q q2 : Int32)
    (h : (0 ≤ q → mRun (mSx g) (f_X8_plain g) P (62, [some (.inl x), some (.inl y), some (.inl z), some (.inl u), some (.inl q), some (.inl q2), none], [.inl q], M)) ∧ (¬ 0 ≤ q → mRun (mSx g) (f_X8_plain g) P (62, [some (.inl x), some (.inl y), some (.inl z), some (.inl u), some (.inl q), some (.inl q2), none], [.inl ((nI 2) * q)], M))) :
    mRun (mSx g) (f_X8_plain g) P (46, [some (.inl x), some (.inl y), some (.inl z), some (.inl u), some (.inl q), none, none], [.inl q2], M) := mRun.vc (m_X8_plain g) [62] 8 h

theorem v_plain_62 (g : mG) (M : mM) (P : mP) (x y z u q q2 q3 : Int32)
    (h : (¬ x = 0 → (¬ x = (nI 1) → (¬ x = (nI 2) → (¬ x = (nI 3) → (¬ x = (nI 4) → (¬ u = (nI 4) → P (some (.inl (q + (nI 0)))) M) ∧ (¬ (¬ u = (nI 4)) → P (some (.inl (q + (nI 5)))) M)) ∧ (¬ (¬ x = (nI 4)) → (y ≤ z → P (some (.inl (q3 - (nI 0)))) M) ∧ (¬ y ≤ z → P (some (.inl (q3 - ((nI 2) * (y - z))))) M))) ∧ (¬ (¬ x = (nI 3)) → (¬ y = (nI 8) → P (some (.inl (q2 + (nI 0)))) M) ∧ (¬ (¬ y = (nI 8)) → P (some (.inl (q2 + (nI 50)))) M))) ∧ (¬ (¬ x = (nI 2)) → P (some (.inl q3)) M)) ∧ (¬ (¬ x = (nI 1)) → P (some (.inl q2)) M)) ∧ (¬ (¬ x = 0) → P (some (.inl q)) M)) :
    mRun (mSx g) (f_X8_plain g) P (62, [some (.inl x), some (.inl y), some (.inl z), some (.inl u), some (.inl q), some (.inl q2), none], [.inl q3], M) := mRun.vc (m_X8_plain g) [] 27 h

set_option maxHeartbeats 4000000 in
theorem run_X8_plain : mRunOf 7 t_X8_plain f_X8_plain := runP4 (by decide) (fun g M P x y z u h => by
  have h62 : ∀ q3, q3 = fSharp y z → mRun (mSx g) (f_X8_plain g) P (62, [some (.inl x), some (.inl y), some (.inl z), some (.inl u), some (.inl (fPlain y z)), some (.inl (fBold y z)), none], [.inl q3], M) := fun q3 e => by
    refine v_plain_62 g M P x y z u _ _ q3 ?_
    subst e
    unfold fBase at h
    (repeat' (first | (refine ⟨?_, ?_⟩) | (intro _)))
    all_goals first | (refine mP_eq h ?_; simp_all; done) | (refine mP_eq h ?_; (repeat' split) <;> first | rfl | (simp_all; done) | (exfalso; simp (disch := decide) only [fa_lt, fa_le, fa_eq, nI_toInt, Int32.toInt_zero] at * <;> omega))
  have h46 : ∀ q2, q2 = fBold y z → mRun (mSx g) (f_X8_plain g) P (46, [some (.inl x), some (.inl y), some (.inl z), some (.inl u), some (.inl (fPlain y z)), none, none], [.inl q2], M) := fun q2 e => by
    refine v_plain_46 g M P x y z u _ q2 ?_
    subst e
    refine ⟨fun h1 => h62 _ ?_, fun h1 => h62 _ ?_⟩
    · unfold fSharp
      rw [if_pos h1]
    · unfold fSharp
      rw [if_neg h1]
  have h24 : ∀ q, q = fPlain y z → mRun (mSx g) (f_X8_plain g) P (24, [some (.inl x), some (.inl y), some (.inl z), some (.inl u), none, none, none], [.inl q], M) := fun q e => by
    refine v_plain_24 g M P x y z u q ?_
    subst e
    refine ⟨fun h1 => h46 _ ?_, fun h1 => ⟨fun h2 => h46 _ ?_, fun h2 => h46 _ ?_⟩⟩
    · unfold fBold
      rw [if_pos h1]
    · unfold fBold
      rw [if_neg h1, if_pos h2]
    · unfold fBold
      rw [if_neg h1, if_neg h2]
  refine v_plain_0 g M P x y z u ⟨fun h1 => h24 _ ?_, fun h1 => h24 _ ?_⟩
  · unfold fPlain
    rw [if_pos h1]
  · unfold fPlain
    rw [if_neg h1])
theorem ok_X8_plain : mOK yX8_plain cX8_plain 7 (some .int) 1 t_X8_plain := mOK.of f_X8_plain (by decide) (fun _ => rfl) (fun g => mCodeOK kk_X8_plain) (fun g => mFldL fk_RX8 rfl) (fun g idx v h => by cases h) (fun g idx v h => by cases h) (mCalL (l := l_X8_plain) (fun _ h => absurd h List.not_mem_nil) (fun _ => rfl)) run_X8_plain

abbrev t_X8_scored : mG → mT := mP5 fScoreB
theorem mo_X8_scored : mMn t_X8_scored := mP5_mono
def k_X8_scored : List (Nat × mI) := [(0, .iload_n 0, 1, 0, 0, []),
  (1, .iload_n 1, 1, 1, 0, []),
  (2, .iload_n 2, 1, 2, 0, []),
  (3, .iload_n 3, 1, 3, 0, []),
  (4, .invokestatic 147, 3, 0, 0, []),
  (7, .iload 4, 2, 4, 0, []),
  (9, .ifCond .ne 7, 3, 16, 0, []),
  (12, .iconst 1, 1, 0, nI 1, []),
  (13, .goto 7, 3, 20, 0, []),
  (16, .iconst 2, 1, 0, nI 2, []),
  (17, .iload 4, 2, 4, 0, []),
  (19, .imul, 1, 0, 0, []),
  (20, .imul, 1, 0, 0, []),
  (21, .ireturn, 1, 0, 0, [])]
theorem kk_X8_scored : (k_X8_scored.all fun e => mChk cX8_scored e.1 e.2) = true := by decide +kernel
def l_X8_scored : List (Nat × Nat × (mG → mT)) := [(3 * 147 + 1, 4, t_X8_plain)]
def f_X8_scored (g : mG) : mF := (mLk k_X8_scored, mLk fl_RX8, mLk (l_X8_scored.map fun e => (e.1, e.2.1, e.2.2 g)), mLk ([] : List (Nat × mV)), mLk ([] : List (Nat × mV)), some .int)
theorem m_X8_scored (g : mG) : mMono (f_X8_scored g) := mMonoL (g := g) (l := l_X8_scored) (List.forall_mem_cons.mpr ⟨mo_X8_plain, fun _ h => absurd h List.not_mem_nil⟩) rfl

theorem v_X8_scored (g : mG) (M : mM) (P : mP) (x y z u w : Int32)
    (h : (¬ w = 0 → P (some (.inl ((fBase x y z u) * ((nI 2) * w)))) M) ∧ (¬ (¬ w = 0) → P (some (.inl ((fBase x y z u) * (nI 1)))) M)) :
    mRun (mSx g) (f_X8_scored g) P (0, [some (.inl x), some (.inl y), some (.inl z), some (.inl u), some (.inl w)], [], M) := mRun.vc (m_X8_scored g) [] 12 h

set_option maxHeartbeats 4000000 in
theorem run_X8_scored : mRunOf 5 t_X8_scored f_X8_scored := runP5 (by decide) (fun g M P x y z u w h => v_X8_scored g M P x y z u w (by
    (repeat' (first | (refine ⟨?_, ?_⟩) | (intro _)))
    all_goals first | decide | (refine mP_eq h ?_; unfold fScoreB; (try unfold mb); (repeat' split) <;> first | rfl | (simp_all; done) | (exfalso; simp (disch := decide) only [fa_lt, fa_le, fa_eq, nI_toInt, Int32.toInt_zero] at * <;> omega)) | (exfalso; simp (disch := decide) only [fa_lt, fa_le, fa_eq, nI_toInt, Int32.toInt_zero] at * <;> omega) | skip))
theorem ok_X8_scored : mOK yX8_scored cX8_scored 5 (some .int) 2 t_X8_scored := mOK.of f_X8_scored (by decide) (fun _ => rfl) (fun g => mCodeOK kk_X8_scored) (fun g => mFldL fk_RX8 rfl) (fun g idx v h => by cases h) (fun g idx v h => by cases h) (mCalL (l := l_X8_scored) (List.forall_mem_cons.mpr ⟨mSite.S (idx := 147) ok_X8_plain (by decide) (by decide) wc_X8_plain wk_RX8_147 wt_X8_plain wn_RX8 wd_X8_plain, fun _ h => absurd h List.not_mem_nil⟩) (fun _ => rfl)) run_X8_scored

def k_X7_wordText : List (Nat × mI) := [(0, .iload_n 0, 1, 0, 0, []),
  (1, .tableswitch 87 0 8 #[51, 55, 59, 63, 67, 71, 75, 79, 83], 51, 88, 0, [(nI 0, 52), (nI 1, 56), (nI 2, 60), (nI 3, 64), (nI 4, 68), (nI 5, 72), (nI 6, 76), (nI 7, 80), (nI 8, 84)]),
  (52, .ldc_w 326, 3, 0, 0, []),
  (55, .areturn, 1, 0, 0, []),
  (56, .ldc_w 328, 3, 0, 0, []),
  (59, .areturn, 1, 0, 0, []),
  (60, .ldc_w 330, 3, 0, 0, []),
  (63, .areturn, 1, 0, 0, []),
  (64, .ldc_w 332, 3, 0, 0, []),
  (67, .areturn, 1, 0, 0, []),
  (68, .ldc_w 334, 3, 0, 0, []),
  (71, .areturn, 1, 0, 0, []),
  (72, .ldc_w 336, 3, 0, 0, []),
  (75, .areturn, 1, 0, 0, []),
  (76, .ldc_w 337, 3, 0, 0, []),
  (79, .areturn, 1, 0, 0, []),
  (80, .ldc_w 339, 3, 0, 0, []),
  (83, .areturn, 1, 0, 0, []),
  (84, .ldc_w 341, 3, 0, 0, []),
  (87, .areturn, 1, 0, 0, []),
  (88, .ldc_w 343, 3, 0, 0, []),
  (91, .areturn, 1, 0, 0, [])]
theorem kk_X7_wordText : (k_X7_wordText.all fun e => mChk cX7_wordText e.1 e.2) = true := by decide +kernel
def l_X7_wordText : List (Nat × Nat × (mG → mT)) := []
def f_X7_wordText (g : mG) : mF := (mLk k_X7_wordText, mLk fl_RX7, mLk (l_X7_wordText.map fun e => (e.1, e.2.1, e.2.2 g)), mLk cs_RX7, mLk ([] : List (Nat × mV)), some (.object "java/lang/String"))
theorem m_X7_wordText (g : mG) : mMono (f_X7_wordText g) := mMonoL (g := g) (l := l_X7_wordText) (fun _ h => absurd h List.not_mem_nil) rfl
def t_X7_wordText : mG → mT := mSV f_X7_wordText 1 23
theorem mo_X7_wordText : mMn t_X7_wordText := mSV_mono m_X7_wordText
theorem ok_X7_wordText : mOK yX7_wordText cX7_wordText 1 (some (.object "java/lang/String")) 1 t_X7_wordText := mOK.of f_X7_wordText (by decide) (fun _ => rfl) (fun g => mCodeOK kk_X7_wordText) (fun g => mFldL fk_RX7 rfl) (mCstL ck_RX7 (fun _ => rfl)) (fun g idx v h => by cases h) (mCalL (l := l_X7_wordText) (fun _ h => absurd h List.not_mem_nil) (fun _ => rfl)) (mSV_run m_X7_wordText)

def k_X8_wordOf : List (Nat × mI) := [(0, .iload_n 0, 1, 0, 0, []),
  (1, .tableswitch 72 0 7 #[47, 50, 53, 56, 59, 62, 65, 68], 47, 73, 0, [(nI 0, 48), (nI 1, 51), (nI 2, 54), (nI 3, 57), (nI 4, 60), (nI 5, 63), (nI 6, 66), (nI 7, 69)]),
  (48, .ldc 243, 2, 0, 0, []),
  (50, .areturn, 1, 0, 0, []),
  (51, .ldc 245, 2, 0, 0, []),
  (53, .areturn, 1, 0, 0, []),
  (54, .ldc 246, 2, 0, 0, []),
  (56, .areturn, 1, 0, 0, []),
  (57, .ldc 248, 2, 0, 0, []),
  (59, .areturn, 1, 0, 0, []),
  (60, .ldc 250, 2, 0, 0, []),
  (62, .areturn, 1, 0, 0, []),
  (63, .ldc 252, 2, 0, 0, []),
  (65, .areturn, 1, 0, 0, []),
  (66, .ldc 254, 2, 0, 0, []),
  (68, .areturn, 1, 0, 0, []),
  (69, .ldc_w 256, 3, 0, 0, []),
  (72, .areturn, 1, 0, 0, []),
  (73, .ldc_w 258, 3, 0, 0, []),
  (76, .areturn, 1, 0, 0, [])]
theorem kk_X8_wordOf : (k_X8_wordOf.all fun e => mChk cX8_wordOf e.1 e.2) = true := by decide +kernel
def l_X8_wordOf : List (Nat × Nat × (mG → mT)) := []
def f_X8_wordOf (g : mG) : mF := (mLk k_X8_wordOf, mLk fl_RX8, mLk (l_X8_wordOf.map fun e => (e.1, e.2.1, e.2.2 g)), mLk cs_RX8, mLk ([] : List (Nat × mV)), some (.object "java/lang/String"))
theorem m_X8_wordOf (g : mG) : mMono (f_X8_wordOf g) := mMonoL (g := g) (l := l_X8_wordOf) (fun _ h => absurd h List.not_mem_nil) rfl
def t_X8_wordOf : mG → mT := mSV f_X8_wordOf 1 21
theorem mo_X8_wordOf : mMn t_X8_wordOf := mSV_mono m_X8_wordOf
theorem ok_X8_wordOf : mOK yX8_wordOf cX8_wordOf 1 (some (.object "java/lang/String")) 1 t_X8_wordOf := mOK.of f_X8_wordOf (by decide) (fun _ => rfl) (fun g => mCodeOK kk_X8_wordOf) (fun g => mFldL fk_RX8 rfl) (mCstL ck_RX8 (fun _ => rfl)) (fun g idx v h => by cases h) (mCalL (l := l_X8_wordOf) (fun _ h => absurd h List.not_mem_nil) (fun _ => rfl)) (mSV_run m_X8_wordOf)

def fLetter (s : Int32) : Int32 := if s = nI 0 then nI 99 else if s = nI 1 then nI 100 else if s = nI 2 then nI 104 else if s = nI 3 then nI 115 else nI 110
abbrev t_X7_suitLetter : mG → mT := mP1 fLetter
theorem mo_X7_suitLetter : mMn t_X7_suitLetter := mP1_mono
def k_X7_suitLetter : List (Nat × mI) := [(0, .iload_n 0, 1, 0, 0, []),
  (1, .tableswitch 43 0 3 #[31, 34, 37, 40], 31, 44, 0, [(nI 0, 32), (nI 1, 35), (nI 2, 38), (nI 3, 41)]),
  (32, .bipush 99, 2, 0, nI 99, []),
  (34, .ireturn, 1, 0, 0, []),
  (35, .bipush 100, 2, 0, nI 100, []),
  (37, .ireturn, 1, 0, 0, []),
  (38, .bipush 104, 2, 0, nI 104, []),
  (40, .ireturn, 1, 0, 0, []),
  (41, .bipush 115, 2, 0, nI 115, []),
  (43, .ireturn, 1, 0, 0, []),
  (44, .bipush 110, 2, 0, nI 110, []),
  (46, .ireturn, 1, 0, 0, [])]
theorem kk_X7_suitLetter : (k_X7_suitLetter.all fun e => mChk cX7_suitLetter e.1 e.2) = true := by decide +kernel
def l_X7_suitLetter : List (Nat × Nat × (mG → mT)) := []
def f_X7_suitLetter (g : mG) : mF := (mLk k_X7_suitLetter, mLk fl_RX7, mLk (l_X7_suitLetter.map fun e => (e.1, e.2.1, e.2.2 g)), mLk ([] : List (Nat × mV)), mLk ([] : List (Nat × mV)), some .char)
theorem m_X7_suitLetter (g : mG) : mMono (f_X7_suitLetter g) := mMonoL (g := g) (l := l_X7_suitLetter) (fun _ h => absurd h List.not_mem_nil) rfl

theorem v_X7_suitLetter (g : mG) (M : mM) (P : mP) (x : Int32)
    (h : (x = (nI 0) → ((nI 99).toUInt32 % 65536).toInt32 = (nI 99) ∧ P (some (.inl (nI 99))) M) ∧ (¬ x = (nI 0) → (x = (nI 1) → ((nI 100).toUInt32 % 65536).toInt32 = (nI 100) ∧ P (some (.inl (nI 100))) M) ∧ (¬ x = (nI 1) → (x = (nI 2) → ((nI 104).toUInt32 % 65536).toInt32 = (nI 104) ∧ P (some (.inl (nI 104))) M) ∧ (¬ x = (nI 2) → (x = (nI 3) → ((nI 115).toUInt32 % 65536).toInt32 = (nI 115) ∧ P (some (.inl (nI 115))) M) ∧ (¬ x = (nI 3) → ((nI 110).toUInt32 % 65536).toInt32 = (nI 110) ∧ P (some (.inl (nI 110))) M))))) :
    mRun (mSx g) (f_X7_suitLetter g) P (0, [some (.inl x)], [], M) := mRun.vc (m_X7_suitLetter g) [] 4 h

theorem run_X7_suitLetter : mRunOf 1 t_X7_suitLetter f_X7_suitLetter := runP1 (by decide) (fun g M P x h => v_X7_suitLetter g M P x (by
  unfold fLetter at h
  refine ⟨fun h1 => ⟨by decide, ?_⟩, fun h1 => ⟨fun h2 => ⟨by decide, ?_⟩, fun h2 => ⟨fun h3 => ⟨by decide, ?_⟩, fun h3 => ⟨fun h4 => ⟨by decide, ?_⟩, fun h4 => ⟨by decide, ?_⟩⟩⟩⟩⟩
  · rw [if_pos h1] at h
    exact h
  · rw [if_neg h1, if_pos h2] at h
    exact h
  · rw [if_neg h1, if_neg h2, if_pos h3] at h
    exact h
  · rw [if_neg h1, if_neg h2, if_neg h3, if_pos h4] at h
    exact h
  · rw [if_neg h1, if_neg h2, if_neg h3, if_neg h4] at h
    exact h))
theorem ok_X7_suitLetter : mOK yX7_suitLetter cX7_suitLetter 1 (some .char) 1 t_X7_suitLetter := mOK.of f_X7_suitLetter (by decide) (fun _ => rfl) (fun g => mCodeOK kk_X7_suitLetter) (fun g => mFldL fk_RX7 rfl) (fun g idx v h => by cases h) (fun g idx v h => by cases h) (mCalL (l := l_X7_suitLetter) (fun _ h => absurd h List.not_mem_nil) (fun _ => rfl)) run_X7_suitLetter

def k_X7_inLowestTerms : List (Nat × mI) := [(0, .iload_n 2, 1, 2, 0, []),
  (1, .istore_n 3, 1, 3, 0, []),
  (2, .iload_n 3, 1, 3, 0, []),
  (3, .iconst 1, 1, 0, nI 1, []),
  (4, .if_icmp .le 25, 3, 29, 0, []),
  (7, .iload_n 1, 1, 1, 0, []),
  (8, .iload_n 3, 1, 3, 0, []),
  (9, .irem, 1, 0, 0, []),
  (10, .ifCond .ne 13, 3, 23, 0, []),
  (13, .iload_n 2, 1, 2, 0, []),
  (14, .iload_n 3, 1, 3, 0, []),
  (15, .irem, 1, 0, 0, []),
  (16, .ifCond .ne 7, 3, 23, 0, []),
  (19, .iload_n 0, 1, 0, 0, []),
  (20, .iload_n 3, 1, 3, 0, []),
  (21, .idiv, 1, 0, 0, []),
  (22, .ireturn, 1, 0, 0, []),
  (23, .iinc 3 (-1), 3, 3, -1, []),
  (26, .goto (-24), 3, 2, 0, []),
  (29, .iload_n 0, 1, 0, 0, []),
  (30, .ireturn, 1, 0, 0, [])]
theorem kk_X7_inLowestTerms : (k_X7_inLowestTerms.all fun e => mChk cX7_inLowestTerms e.1 e.2) = true := by decide +kernel
def l_X7_inLowestTerms : List (Nat × Nat × (mG → mT)) := []
def f_X7_inLowestTerms (g : mG) : mF := (mLk k_X7_inLowestTerms, mLk fl_RX7, mLk (l_X7_inLowestTerms.map fun e => (e.1, e.2.1, e.2.2 g)), mLk ([] : List (Nat × mV)), mLk ([] : List (Nat × mV)), some .int)
theorem m_X7_inLowestTerms (g : mG) : mMono (f_X7_inLowestTerms g) := mMonoL (g := g) (l := l_X7_inLowestTerms) (fun _ h => absurd h List.not_mem_nil) rfl
end
section
/-! ===== THE PLAY, AS IT IS: trump, ranking, rule, first leader; the cards that were dealt; the cards that were played ===== -/
abbrev aX : Type := Int32 × Nat × Int32 × Nat
/-- strength: b tells whether its suit is trump -/
def sN (b : Bool) (h c : Nat) : Nat :=
  if h = 1 then 7 - c % 8
  else if h = 2 ∧ 3 ≤ c % 8 ∧ c % 8 < 7 then (if c % 8 = 3 then 6 else c % 8 - 1)
  else if h = 3 ∧ b = true then (if c % 8 = 4 then 7 else if c % 8 = 2 then 6 else c % 8 - (if 2 < c % 8 then 1 else 0) - (if 4 < c % 8 then 1 else 0))
  else c % 8
theorem sN_le (b : Bool) (h c : Nat) : sN b h c ≤ 7 := by
  unfold sN
  have : c % 8 < 8 := Nat.mod_lt _ (by decide)
  repeat' split
  all_goals omega
theorem fStr_t : ∀ h, h < 4 → ∀ c, c < 32 → fStr (nI c) (nI (c / 8)) (nI h) = nI (sN true h c) ∧ fStr (nI c) (-1) (nI h) = nI (sN false h c) := by decide +kernel
theorem fStr_no {c h : Nat} {t : Int32} (hc : c < 32) (ht : nI (c / 8) ≠ t) : fStr (nI c) t (nI h) = fStr (nI c) (-1) (nI h) := by
  have e : nI c / nI 8 = nI (c / 8) := pk_div (by omega) (by decide) (by decide)
  unfold fStr
  rw [e]
  have h1 : ¬ (nI h = nI 3 ∧ nI (c / 8) = t) := fun z => ht z.2
  have h2 : ¬ (nI h = nI 3 ∧ nI (c / 8) = -1) := fun z => by
    have := z.2
    rw [fa_eq, nI_toInt (by omega)] at this
    have e3 : ((-1 : Int32)).toInt = -1 := by decide
    omega
  rw [if_neg h1, if_neg h2]
theorem fStr_N {c h : Nat} (t : Int32) (hc : c < 32) (hh : h < 4) : fStr (nI c) t (nI h) = nI (sN (decide (nI (c / 8) = t)) h c) := by
  by_cases ht : nI (c / 8) = t
  · subst ht
    rw [(fStr_t h hh c hc).1]
    simp
  · rw [fStr_no hc ht, (fStr_t h hh c hc).2]
    simp [ht]
def aC (cs : List Nat) (j : Nat) : Nat := cs.getD j 0
theorem aC_old {cs : List Nat} {c j : Nat} (h : j < cs.length) : aC (cs ++ [c]) j = aC cs j := by
  unfold aC
  rw [List.getD_eq_getElem?_getD, List.getD_eq_getElem?_getD, List.getElem?_append_left h]
theorem aC_new {cs : List Nat} {c : Nat} : aC (cs ++ [c]) cs.length = c := by
  unfold aC
  rw [List.getD_eq_getElem?_getD, List.getElem?_append_right (Nat.le_refl _), Nat.sub_self]
  rfl
/-- how a card fares in a trick: the higher wins -/
def aPw (t : Int32) (h led c : Nat) : Int := if nI (c / 8) = t then 8 + (sN true h c : Int) else if c / 8 = led then (sN false h c : Int) else -1
def aB4 (f : Nat → Int) : Nat := if f (if f (if f 0 < f 1 then 1 else 0) < f 2 then 2 else if f 0 < f 1 then 1 else 0) < f 3 then 3 else if f (if f 0 < f 1 then 1 else 0) < f 2 then 2 else if f 0 < f 1 then 1 else 0
theorem aB4_lt (f : Nat → Int) : aB4 f < 4 := by
  unfold aB4
  repeat' split
  all_goals omega
def aBi (t : Int32) (h : Nat) (cs : List Nat) (i : Nat) : Nat := aB4 (fun k => aPw t h (aC cs (4 * i) / 8) (aC cs (4 * i + k)))
def aLd (x : aX) (cs : List Nat) : Nat → Nat
  | 0 => x.2.2.2
  | i + 1 => (aLd x cs i + aBi x.1 x.2.1 cs i) % 4
def aTn (x : aX) (cs : List Nat) (j : Nat) : Nat := (aLd x cs (j / 4) + j % 4) % 4
def aWn (x : aX) (cs : List Nat) (s : Nat) : Nat → Nat
  | 0 => 0
  | i + 1 => aWn x cs s i + (if aLd x cs (i + 1) % 2 = s then 1 else 0)
theorem aB4_congr {f g : Nat → Int} (h : ∀ k, k < 4 → f k = g k) : aB4 f = aB4 g := by
  unfold aB4
  rw [h 0 (by omega), h 1 (by omega), h 2 (by omega), h 3 (by omega)]
  have e1 : f (if g 0 < g 1 then 1 else 0) = g (if g 0 < g 1 then 1 else 0) := h _ (by split <;> omega)
  rw [e1]
  have e2 : f (if g (if g 0 < g 1 then 1 else 0) < g 2 then 2 else if g 0 < g 1 then 1 else 0) = g (if g (if g 0 < g 1 then 1 else 0) < g 2 then 2 else if g 0 < g 1 then 1 else 0) := h _ (by (repeat' split) <;> omega)
  rw [e2]
theorem aBi_old {t : Int32} {h i c : Nat} {cs : List Nat} (hi : 4 * i + 4 ≤ cs.length) : aBi t h (cs ++ [c]) i = aBi t h cs i := by
  unfold aBi
  refine aB4_congr (fun k hk => ?_)
  rw [aC_old (by omega), aC_old (by omega)]
theorem aLd_old {x : aX} {c : Nat} {cs : List Nat} : ∀ {i : Nat}, 4 * i ≤ cs.length → aLd x (cs ++ [c]) i = aLd x cs i
  | 0, _ => rfl
  | i + 1, hi => by rw [aLd, aLd, aLd_old (i := i) (by omega), aBi_old (by omega)]
theorem aTn_old {x : aX} {c j : Nat} {cs : List Nat} (hj : j ≤ cs.length) : aTn x (cs ++ [c]) j = aTn x cs j := by
  unfold aTn
  rw [aLd_old (by omega)]
theorem aWn_old {x : aX} {c s : Nat} {cs : List Nat} : ∀ {i : Nat}, 4 * i ≤ cs.length → aWn x (cs ++ [c]) s i = aWn x cs s i
  | 0, _ => rfl
  | i + 1, hi => by rw [aWn, aWn, aWn_old (i := i) (by omega), aLd_old (by omega)]
theorem aLd_lt {x : aX} {cs : List Nat} (h : x.2.2.2 < 4) : ∀ i, aLd x cs i < 4
  | 0 => h
  | i + 1 => Nat.mod_lt _ (by decide)
theorem aTn_lt {x : aX} {cs : List Nat} {j : Nat} : aTn x cs j < 4 := Nat.mod_lt _ (by decide)
theorem aWn_le {x : aX} {cs : List Nat} {s : Nat} : ∀ i, aWn x cs s i ≤ i
  | 0 => Nat.le_refl _
  | i + 1 => by
    have := aWn_le (x := x) (cs := cs) (s := s) i
    rw [aWn]
    split <;> omega
theorem aWn_sum {x : aX} {cs : List Nat} : ∀ i, aWn x cs 0 i + aWn x cs 1 i = i
  | 0 => rfl
  | i + 1 => by
    have := aWn_sum (x := x) (cs := cs) i
    rw [aWn, aWn]
    split <;> split <;> omega
/-! hands -/
theorem ub_xor (x y : Int32) : ub (x ^^^ y) = ub x ^^^ ub y := by
  unfold ub
  rw [Int32.toBitVec_xor, BitVec.toNat_xor]
theorem bt_xor (x y : Int32) (i : Nat) : bt (x ^^^ y) i = (bt x i ^^ bt y i) := by
  unfold bt
  rw [ub_xor, Nat.testBit_xor]
theorem bt_m1 : ∀ i, i < 32 → bt (-1) i = true := by decide +kernel
theorem bt_0 (i : Nat) : bt 0 i = false := Nat.zero_testBit i
theorem bt_not {x : Int32} {i : Nat} (h : i < 32) : bt (x ^^^ (-1)) i = !bt x i := by
  rw [bt_xor, bt_m1 i h]
  cases bt x i <;> rfl
theorem bt_fBit : ∀ c, c < 32 → ∀ i, i < 32 → bt (fBit (nI c)) i = decide (i = c) := by decide +kernel
theorem bt_fSuit : ∀ u, u < 4 → ∀ i, i < 32 → bt (fSuit (nI u)) i = decide (i / 8 = u) := by decide +kernel
def aMk : List Nat → Int32
  | [] => 0
  | c :: t => fBit (nI c) ||| aMk t
theorem bt_aMk : ∀ {cs : List Nat}, (∀ c ∈ cs, c < 32) → ∀ i, i < 32 → bt (aMk cs) i = decide (i ∈ cs)
  | [], _, i, _ => by
    rw [aMk, bt_0]
    simp
  | c :: t, h, i, hi => by
    rw [aMk, bt_or, bt_fBit c (h c List.mem_cons_self) i hi, bt_aMk (fun d hd => h d (List.mem_cons_of_mem _ hd)) i hi]
    simp [List.mem_cons, Bool.decide_or]
def aHd (dl : Nat → Int32) (cs : List Nat) (q : Nat) : Int32 := dl q &&& (aMk cs ^^^ (-1))
theorem bt_aHd {dl : Nat → Int32} {cs : List Nat} (h : ∀ c ∈ cs, c < 32) {q i : Nat} (hi : i < 32) : bt (aHd dl cs q) i = (bt (dl q) i && !decide (i ∈ cs)) := by
  rw [aHd, bt_and, bt_not hi, bt_aMk h i hi]
/-- a deal: no card twice, eight to each -/
def aDl (dl : Nat → Int32) : Prop := (∀ q r j, q < 4 → r < 4 → j < 32 → bt (dl q) j = true → bt (dl r) j = true → q = r) ∧ ∀ q, q < 4 → ctb (ub (dl q)) 32 = 8
def aOk (x : aX) (dl : Nat → Int32) (cs : List Nat) : Prop := x.2.1 < 4 ∧ x.2.2.2 < 4 ∧ cs.length ≤ 32 ∧ aDl dl ∧ ∀ j, j < cs.length → aC cs j < 32 ∧ bt (dl (aTn x cs j)) (aC cs j) = true ∧ ∀ i, i < j → aC cs i ≠ aC cs j
theorem aC_mem {cs : List Nat} {c : Nat} (h : c ∈ cs) : ∃ j, j < cs.length ∧ aC cs j = c := by
  obtain ⟨j, hj⟩ := List.getElem?_of_mem h
  refine ⟨j, (List.getElem?_eq_some_iff.mp hj).1, ?_⟩
  unfold aC
  rw [List.getD_eq_getElem?_getD, hj]
  rfl
theorem aC_in {cs : List Nat} {j : Nat} (h : j < cs.length) : aC cs j ∈ cs := by
  unfold aC
  rw [List.getD_eq_getElem?_getD, List.getElem?_eq_getElem h]
  exact List.getElem_mem h
theorem aOk.lt {x : aX} {dl : Nat → Int32} {cs : List Nat} (h : aOk x dl cs) : ∀ c ∈ cs, c < 32 := fun c hc => by
  obtain ⟨j, hj, e⟩ := aC_mem hc
  rw [← e]
  exact (h.2.2.2.2 j hj).1
theorem aOk.add {x : aX} {dl : Nat → Int32} {cs : List Nat} {c : Nat} (h : aOk x dl cs) (hl : cs.length < 32) (hc : c < 32) (hb : bt (aHd dl cs (aTn x cs cs.length)) c = true) : aOk x dl (cs ++ [c]) := by
  obtain ⟨h1, h2, h3, h4, h5⟩ := h
  have hlt : ∀ c ∈ cs, c < 32 := aOk.lt ⟨h1, h2, h3, h4, h5⟩
  rw [bt_aHd hlt hc] at hb
  simp only [Bool.and_eq_true, Bool.not_eq_true', decide_eq_false_iff_not] at hb
  refine ⟨h1, h2, by simp; omega, h4, fun j hj => ?_⟩
  rw [List.length_append, List.length_singleton] at hj
  by_cases e : j < cs.length
  · rw [aC_old e, aTn_old (by omega)]
    obtain ⟨k1, k2, k3⟩ := h5 j e
    exact ⟨k1, k2, fun i hi => by rw [aC_old (by omega)]; exact k3 i hi⟩
  · obtain rfl : j = cs.length := by omega
    rw [aC_new, aTn_old (Nat.le_refl _)]
    refine ⟨hc, hb.1, fun i hi => ?_⟩
    rw [aC_old hi]
    exact fun z => hb.2 (by rw [← z]; exact aC_in hi)
theorem aOk.old {x : aX} {dl : Nat → Int32} {cs : List Nat} {c : Nat} (h : aOk x dl (cs ++ [c])) : aOk x dl cs ∧ c < 32 ∧ bt (dl (aTn x cs cs.length)) c = true ∧ c ∉ cs := by
  obtain ⟨h1, h2, h3, h4, h5⟩ := h
  have hlen : (cs ++ [c]).length = cs.length + 1 := by simp
  refine ⟨⟨h1, h2, by omega, h4, fun j hj => ?_⟩, ?_⟩
  · obtain ⟨k1, k2, k3⟩ := h5 j (by omega)
    rw [aC_old hj] at k1 k2 k3
    rw [aTn_old (by omega)] at k2
    exact ⟨k1, k2, fun i hi => by have := k3 i hi; rw [aC_old (by omega)] at this; exact this⟩
  · obtain ⟨k1, k2, k3⟩ := h5 cs.length (by omega)
    rw [aC_new] at k1 k2 k3
    rw [aTn_old (Nat.le_refl _)] at k2
    refine ⟨k1, k2, fun hm => ?_⟩
    obtain ⟨j, hj, e⟩ := aC_mem hm
    have := k3 j hj
    rw [aC_old hj] at this
    exact this e
theorem aMk_add {cs : List Nat} {c : Nat} (h : ∀ d ∈ cs ++ [c], d < 32) : aMk (cs ++ [c]) = aMk cs ||| fBit (nI c) := by
  refine bt_ext (fun i hi => ?_)
  rw [bt_aMk h i hi, bt_or, bt_aMk (fun d hd => h d (List.mem_append_left _ hd)) i hi, bt_fBit c (h c (by simp)) i hi]
  simp [List.mem_append]
end
section
/-! ===== CLASS Play: who wins a trick ===== -/
def RpP (p : Nat) (M : mM) (x : aX) (dl : Nat → Int32) (a0 a1 : Int32) (cs : List Nat) : Prop :=
  (M p 7 = nI cs.length ∧ M p 8 = nI (aTn x cs cs.length) ∧ M p 9 = x.1 ∧ M p 10 = nI x.2.1 ∧ M p 11 = x.2.2.1) ∧ (∀ j, j < cs.length → M (p + 4) j = nI (aC cs j)) ∧ (∀ q, q < 4 → M (p + 2) q = dl q) ∧ (∀ q, q < 4 → M (p + 3) q = aHd dl cs q) ∧
  (∀ i, 4 * i < cs.length → M (p + 5) i = nI (aLd x cs i)) ∧ (∀ i, 4 * i + 4 ≤ cs.length → M (p + 6) i = nI (aLd x cs (i + 1))) ∧ M (p + 7) 0 = nI (aWn x cs 0 (cs.length / 4)) + a0 ∧ M (p + 7) 1 = nI (aWn x cs 1 (cs.length / 4)) + a1
theorem aAt_in {f : Nat → Int32} {n j : Nat} (hj : j < n) (hn : n < 2 ^ 31) : aAt f n (nI j) = f j := by
  unfold aAt
  rw [if_pos ⟨nI_pos' (by omega), nI_lt hj hn⟩, nI_clamp (by omega)]
theorem aSet_in {f : Nat → Int32} {n j : Nat} {v : Int32} (hj : j < n) (hn : n < 2 ^ 31) : aSet f n (nI j) v = upd f j v := by
  unfold aSet
  rw [if_pos ⟨nI_pos' (by omega), nI_lt hj hn⟩, nI_clamp (by omega)]
theorem nI_mul4 (a b : Nat) : nI 4 * nI a + nI b = nI (4 * a + b) := by rw [pk_mul, nI_add]
theorem nI_and3 : ∀ n, n < 16 → nI n &&& nI 3 = nI (n % 4) := by decide +kernel
theorem nI_and1 : ∀ n, n < 16 → nI n &&& nI 1 = nI (n % 2) := by decide +kernel
theorem nI_div8 {n : Nat} (h : n < 2 ^ 31) : nI n / nI 8 = nI (n / 8) := pk_div h (by decide) (by decide)
theorem nI_div4 {n : Nat} (h : n < 2 ^ 31) : nI n / nI 4 = nI (n / 4) := pk_div h (by decide) (by decide)
theorem nI_mod4 {n : Nat} (h : n < 2 ^ 31) : nI n - nI n / nI 4 * nI 4 = nI (n % 4) := pk_rem h (by decide) (by decide)
theorem n8 : ¬ nI 8 = 0 := by decide
theorem n4 : ¬ nI 4 = 0 := by decide
theorem n2 : ¬ nI 2 = 0 := by decide
/-- one of four: the fold of a comparison -/
theorem aB4_of {f : Nat → Int} {b1 b2 b3 : Nat} (h1 : b1 = if f 0 < f 1 then 1 else 0) (h2 : b2 = if f b1 < f 2 then 2 else b1) (h3 : b3 = if f b2 < f 3 then 3 else b2) : aB4 f = b3 := by
  unfold aB4
  rw [← h1, ← h2, ← h3]

/-- of a trick that is full: cell, number, trump, ranking, the cards, its leader -/
def pre_X2_winnerOf (q : Nat × Nat × Int32 × Nat × List Nat × Nat) (as : List mV) (M : mM) : Prop := pl_X2 q.1 = true ∧ as = [.inr (some q.1), .inl (nI q.2.1), .inl q.2.2.1, .inl (nI q.2.2.2.1)] ∧ q.2.1 < 8 ∧ q.2.2.2.1 < 4 ∧ 4 * q.2.1 + 4 ≤ q.2.2.2.2.1.length ∧ q.2.2.2.2.2 < 4 ∧
  (∀ j, j < 4 → M (q.1 + 4) (4 * q.2.1 + j) = nI (aC q.2.2.2.2.1 (4 * q.2.1 + j)) ∧ aC q.2.2.2.2.1 (4 * q.2.1 + j) < 32) ∧ M (q.1 + 5) q.2.1 = nI q.2.2.2.2.2
def post_X2_winnerOf (q : Nat × Nat × Int32 × Nat × List Nat × Nat) (_ : List mV) (M : mM) (v : Int32) (M' : mM) : Prop := v = nI ((q.2.2.2.2.2 + aBi q.2.2.1 q.2.2.2.1 q.2.2.2.2.1 q.2.1) % 4) ∧ M' = M
abbrev t_X2_winnerOf : mG → mT := mRi pre_X2_winnerOf post_X2_winnerOf
theorem mo_X2_winnerOf : mMn t_X2_winnerOf := mRi_mono
theorem rv_X2_winnerOf : mHasR yX2_winnerOf 3 t_X2_winnerOf := by
  intro g as M P hT hl
  obtain ⟨q, ⟨h1, h2, -⟩, -⟩ := hT
  exact ⟨_, _, h2, is_X2 g _ h1⟩
def k_X2_winnerOf : List (Nat × mI) := [(0, .aload_n 0, 1, 0, 0, []),
  (1, .getfield 21, 3, 0, 0, []),
  (4, .iconst 4, 1, 0, nI 4, []),
  (5, .iload_n 1, 1, 1, 0, []),
  (6, .imul, 1, 0, 0, []),
  (7, .invokestatic 56, 3, 0, 0, []),
  (10, .bipush 8, 2, 0, nI 8, []),
  (12, .idiv, 1, 0, 0, []),
  (13, .istore 4, 2, 4, 0, []),
  (15, .iconst (-1), 1, 0, -1, []),
  (16, .istore 5, 2, 5, 0, []),
  (18, .iconst (-1), 1, 0, -1, []),
  (19, .istore 6, 2, 6, 0, []),
  (21, .iconst 0, 1, 0, nI 0, []),
  (22, .istore 7, 2, 7, 0, []),
  (24, .iload 7, 2, 7, 0, []),
  (26, .iconst 4, 1, 0, nI 4, []),
  (27, .if_icmp .ge 95, 3, 122, 0, []),
  (30, .aload_n 0, 1, 0, 0, []),
  (31, .getfield 21, 3, 0, 0, []),
  (34, .iconst 4, 1, 0, nI 4, []),
  (35, .iload_n 1, 1, 1, 0, []),
  (36, .imul, 1, 0, 0, []),
  (37, .iload 7, 2, 7, 0, []),
  (39, .iadd, 1, 0, 0, []),
  (40, .invokestatic 56, 3, 0, 0, []),
  (43, .istore 8, 2, 8, 0, []),
  (45, .iload 8, 2, 8, 0, []),
  (47, .bipush 8, 2, 0, nI 8, []),
  (49, .idiv, 1, 0, 0, []),
  (50, .istore 9, 2, 9, 0, []),
  (52, .iload 9, 2, 9, 0, []),
  (54, .iload 4, 2, 4, 0, []),
  (56, .if_icmp .eq 12, 3, 68, 0, []),
  (59, .iload 9, 2, 9, 0, []),
  (61, .iload_n 2, 1, 2, 0, []),
  (62, .if_icmp .eq 6, 3, 68, 0, []),
  (65, .goto 51, 3, 116, 0, []),
  (68, .iload 8, 2, 8, 0, []),
  (70, .iload_n 2, 1, 2, 0, []),
  (71, .iload_n 3, 1, 3, 0, []),
  (72, .invokestatic 89, 3, 0, 0, []),
  (75, .iload 9, 2, 9, 0, []),
  (77, .iload_n 2, 1, 2, 0, []),
  (78, .if_icmp .ne 8, 3, 86, 0, []),
  (81, .bipush 8, 2, 0, nI 8, []),
  (83, .goto 4, 3, 87, 0, []),
  (86, .iconst 0, 1, 0, nI 0, []),
  (87, .iadd, 1, 0, 0, []),
  (88, .istore 10, 2, 10, 0, []),
  (90, .iload 10, 2, 10, 0, []),
  (92, .iload 5, 2, 5, 0, []),
  (94, .if_icmp .le 22, 3, 116, 0, []),
  (97, .iload 10, 2, 10, 0, []),
  (99, .istore 5, 2, 5, 0, []),
  (101, .aload_n 0, 1, 0, 0, []),
  (102, .getfield 24, 3, 0, 0, []),
  (105, .iload_n 1, 1, 1, 0, []),
  (106, .invokestatic 56, 3, 0, 0, []),
  (109, .iload 7, 2, 7, 0, []),
  (111, .iadd, 1, 0, 0, []),
  (112, .iconst 3, 1, 0, nI 3, []),
  (113, .iand, 1, 0, 0, []),
  (114, .istore 6, 2, 6, 0, []),
  (116, .iinc 7 1, 3, 7, nI 1, []),
  (119, .goto (-95), 3, 24, 0, []),
  (122, .iload 6, 2, 6, 0, []),
  (124, .ireturn, 1, 0, 0, [])]
theorem kk_X2_winnerOf : (k_X2_winnerOf.all fun e => mChk cX2_winnerOf e.1 e.2) = true := by decide +kernel
def l_X2_winnerOf : List (Nat × Nat × (mG → mT)) := [(3 * 56 + 1, 2, t_X7_at), (3 * 89 + 1, 3, t_X7_strengthOf)]
def f_X2_winnerOf (g : mG) : mF := (mLk k_X2_winnerOf, mLk fl_RX2, mLk (l_X2_winnerOf.map fun e => (e.1, e.2.1, e.2.2 g)), mLk ([] : List (Nat × mV)), mLk ([] : List (Nat × mV)), some .int)
theorem m_X2_winnerOf (g : mG) : mMono (f_X2_winnerOf g) := mMonoL (g := g) (l := l_X2_winnerOf) (List.forall_mem_cons.mpr ⟨mo_X7_at, List.forall_mem_cons.mpr ⟨mo_X7_strengthOf, fun _ h => absurd h List.not_mem_nil⟩⟩) rfl

theorem v_wo_0_16 (g : mG) (M : mM) (P : mP) (i t h : Int32)
    (hVC : ¬ (nI 8) = 0 ∧ (mRun (mSx g) (f_X2_winnerOf g) P (24, [some (.inr (some 16)), some (.inl i), some (.inl t), some (.inl h), some (.inl ((aAt (M 20) 32 ((nI 4) * i)) / (nI 8))), some (.inl (-1)), some (.inl (-1)), some (.inl (nI 0)), none, none, none], [], M))) :
    mRun (mSx g) (f_X2_winnerOf g) P (0, [some (.inr (some 16)), some (.inl i), some (.inl t), some (.inl h), none, none, none, none, none, none, none], [], M) := mRun.vc (m_X2_winnerOf g) [24] 16 hVC

set_option maxRecDepth 100000 in
theorem v_wo_24_16 (g : mG) (M : mM) (P : mP) (i t h led s w k : Int32) (l8 l9 l10 : Option mV)
    (hVC : ((nI 4) ≤ k → P (some (.inl w)) M) ∧ (¬ (nI 4) ≤ k → ¬ (nI 8) = 0 ∧ (let v1 : Int32 := (aAt (M 20) 32 (((nI 4) * i) + k)) / (nI 8); (v1 = led → (¬ v1 = t → let v2 : Int32 := (fStr (aAt (M 20) 32 (((nI 4) * i) + k)) t h) + (nI 0); (v2 ≤ s → mRun (mSx g) (f_X2_winnerOf g) P (24, [some (.inr (some 16)), some (.inl i), some (.inl t), some (.inl h), some (.inl led), some (.inl s), some (.inl w), some (.inl (k + (nI 1))), some (.inl (aAt (M 20) 32 (((nI 4) * i) + k))), some (.inl v1), some (.inl v2)], [], M)) ∧ (¬ v2 ≤ s → mRun (mSx g) (f_X2_winnerOf g) P (24, [some (.inr (some 16)), some (.inl i), some (.inl t), some (.inl h), some (.inl led), some (.inl v2), some (.inl (((aAt (M 21) 8 i) + k) &&& (nI 3))), some (.inl (k + (nI 1))), some (.inl (aAt (M 20) 32 (((nI 4) * i) + k))), some (.inl v1), some (.inl v2)], [], M))) ∧ (¬ (¬ v1 = t) → let v3 : Int32 := (fStr (aAt (M 20) 32 (((nI 4) * i) + k)) t h) + (nI 8); (v3 ≤ s → mRun (mSx g) (f_X2_winnerOf g) P (24, [some (.inr (some 16)), some (.inl i), some (.inl t), some (.inl h), some (.inl led), some (.inl s), some (.inl w), some (.inl (k + (nI 1))), some (.inl (aAt (M 20) 32 (((nI 4) * i) + k))), some (.inl v1), some (.inl v3)], [], M)) ∧ (¬ v3 ≤ s → mRun (mSx g) (f_X2_winnerOf g) P (24, [some (.inr (some 16)), some (.inl i), some (.inl t), some (.inl h), some (.inl led), some (.inl v3), some (.inl (((aAt (M 21) 8 i) + k) &&& (nI 3))), some (.inl (k + (nI 1))), some (.inl (aAt (M 20) 32 (((nI 4) * i) + k))), some (.inl v1), some (.inl v3)], [], M)))) ∧ (¬ v1 = led → (v1 = t → (¬ v1 = t → let v4 : Int32 := (fStr (aAt (M 20) 32 (((nI 4) * i) + k)) t h) + (nI 0); (v4 ≤ s → mRun (mSx g) (f_X2_winnerOf g) P (24, [some (.inr (some 16)), some (.inl i), some (.inl t), some (.inl h), some (.inl led), some (.inl s), some (.inl w), some (.inl (k + (nI 1))), some (.inl (aAt (M 20) 32 (((nI 4) * i) + k))), some (.inl v1), some (.inl v4)], [], M)) ∧ (¬ v4 ≤ s → mRun (mSx g) (f_X2_winnerOf g) P (24, [some (.inr (some 16)), some (.inl i), some (.inl t), some (.inl h), some (.inl led), some (.inl v4), some (.inl (((aAt (M 21) 8 i) + k) &&& (nI 3))), some (.inl (k + (nI 1))), some (.inl (aAt (M 20) 32 (((nI 4) * i) + k))), some (.inl v1), some (.inl v4)], [], M))) ∧ (¬ (¬ v1 = t) → let v5 : Int32 := (fStr (aAt (M 20) 32 (((nI 4) * i) + k)) t h) + (nI 8); (v5 ≤ s → mRun (mSx g) (f_X2_winnerOf g) P (24, [some (.inr (some 16)), some (.inl i), some (.inl t), some (.inl h), some (.inl led), some (.inl s), some (.inl w), some (.inl (k + (nI 1))), some (.inl (aAt (M 20) 32 (((nI 4) * i) + k))), some (.inl v1), some (.inl v5)], [], M)) ∧ (¬ v5 ≤ s → mRun (mSx g) (f_X2_winnerOf g) P (24, [some (.inr (some 16)), some (.inl i), some (.inl t), some (.inl h), some (.inl led), some (.inl v5), some (.inl (((aAt (M 21) 8 i) + k) &&& (nI 3))), some (.inl (k + (nI 1))), some (.inl (aAt (M 20) 32 (((nI 4) * i) + k))), some (.inl v1), some (.inl v5)], [], M)))) ∧ (¬ v1 = t → mRun (mSx g) (f_X2_winnerOf g) P (24, [some (.inr (some 16)), some (.inl i), some (.inl t), some (.inl h), some (.inl led), some (.inl s), some (.inl w), some (.inl (k + (nI 1))), some (.inl (aAt (M 20) 32 (((nI 4) * i) + k))), some (.inl v1), l10], [], M)))))) :
    mRun (mSx g) (f_X2_winnerOf g) P (24, [some (.inr (some 16)), some (.inl i), some (.inl t), some (.inl h), some (.inl led), some (.inl s), some (.inl w), some (.inl k), l8, l9, l10], [], M) := mRun.vc (m_X2_winnerOf g) [24] 50 hVC

theorem wo_step_16 (g : mG) (M : mM) (P : mP) {i h led k d lr : Nat} {t s w : Int32} {l8 l9 l10 : Option mV} (hi : i < 8) (hh : h < 4) (hk : k < 4) (hd : d < 32) (hled : led < 4) (hlr : lr < 4) (e1 : aAt (M 20) 32 (nI (4 * i + k)) = nI d) (e2 : aAt (M 21) 8 (nI i) = nI lr) (hs : -1 ≤ s.toInt)
    (hA : s.toInt < aPw t h led d → ∀ (s' : Int32) (m8 m9 m10 : Option mV), s'.toInt = aPw t h led d → mRun (mSx g) (f_X2_winnerOf g) P (24, [some (.inr (some 16)), some (.inl (nI i)), some (.inl t), some (.inl (nI h)), some (.inl (nI led)), some (.inl s'), some (.inl (nI ((lr + k) % 4))), some (.inl (nI (k + 1))), m8, m9, m10], [], M))
    (hB : ¬ s.toInt < aPw t h led d → ∀ (m8 m9 m10 : Option mV), mRun (mSx g) (f_X2_winnerOf g) P (24, [some (.inr (some 16)), some (.inl (nI i)), some (.inl t), some (.inl (nI h)), some (.inl (nI led)), some (.inl s), some (.inl w), some (.inl (nI (k + 1))), m8, m9, m10], [], M)) :
    mRun (mSx g) (f_X2_winnerOf g) P (24, [some (.inr (some 16)), some (.inl (nI i)), some (.inl t), some (.inl (nI h)), some (.inl (nI led)), some (.inl s), some (.inl w), some (.inl (nI k)), l8, l9, l10], [], M) := by
  have q1 : ¬ nI 4 ≤ nI k := nI_ge hk (by decide)
  have e3 : nI 4 * nI i + nI k = nI (4 * i + k) := nI_mul4 i k
  have e4 : (nI lr + nI k) &&& nI 3 = nI ((lr + k) % 4) := by rw [nI_add]; exact nI_and3 _ (by omega)
  have e5 : fStr (nI d) t (nI h) = nI (sN (decide (nI (d / 8) = t)) h d) := fStr_N t hd hh
  have e6 : nI d / nI 8 = nI (d / 8) := nI_div8 (by omega)
  have hle := sN_le (decide (nI (d / 8) = t)) h d
  refine v_wo_24_16 g M P (nI i) t (nI h) (nI led) s w (nI k) l8 l9 l10 ⟨fun z => absurd z q1, fun _ => ⟨n8, ?_⟩⟩
  rw [e3, e1, e2, e4, e5, e6, nI_add, nI_add, nI_add, Nat.add_zero]
  have key : ∀ (n : Nat), n < 100 → (nI n ≤ s ↔ ¬ s.toInt < (n : Int)) := fun n hn => by
    rw [fa_le, nI_toInt (by omega)]
    omega
  by_cases ht : nI (d / 8) = t
  · have hp : aPw t h led d = ((sN (decide (nI (d / 8) = t)) h d + 8 : Nat) : Int) := by
      unfold aPw
      rw [if_pos ht]
      simp [ht]
      omega
    rw [hp] at hA hB
    have b1 := key (sN (decide (nI (d / 8) = t)) h d + 8) (by omega)
    have R : ∀ (m8 m9 m10 : Option mV), (nI (sN (decide (nI (d / 8) = t)) h d + 8) ≤ s → mRun (mSx g) (f_X2_winnerOf g) P (24, [some (.inr (some 16)), some (.inl (nI i)), some (.inl t), some (.inl (nI h)), some (.inl (nI led)), some (.inl s), some (.inl w), some (.inl (nI (k + 1))), m8, m9, m10], [], M)) ∧ (¬ nI (sN (decide (nI (d / 8) = t)) h d + 8) ≤ s → mRun (mSx g) (f_X2_winnerOf g) P (24, [some (.inr (some 16)), some (.inl (nI i)), some (.inl t), some (.inl (nI h)), some (.inl (nI led)), some (.inl (nI (sN (decide (nI (d / 8) = t)) h d + 8))), some (.inl (nI ((lr + k) % 4))), some (.inl (nI (k + 1))), m8, m9, m10], [], M)) :=
      fun m8 m9 m10 => ⟨fun z => hB (b1.mp z) m8 m9 m10, fun z => hA (Classical.not_not.mp (fun y => z (b1.mpr y))) _ m8 m9 m10 (nI_toInt (by omega))⟩
    exact ⟨fun _ => ⟨fun z => absurd ht z, fun _ => R _ _ _⟩, fun _ => ⟨fun _ => ⟨fun z => absurd ht z, fun _ => R _ _ _⟩, fun z => absurd ht z⟩⟩
  · have hdec : decide (nI (d / 8) = t) = false := decide_eq_false ht
    rw [hdec] at hle ⊢
    by_cases hl : d / 8 = led
    · have hp : aPw t h led d = ((sN false h d : Nat) : Int) := by
        unfold aPw
        rw [if_neg ht, if_pos hl]
      rw [hp] at hA hB
      have b1 := key (sN false h d) (by omega)
      exact ⟨fun _ => ⟨fun _ => ⟨fun z => hB (b1.mp z) _ _ _, fun z => hA (Classical.not_not.mp (fun y => z (b1.mpr y))) _ _ _ _ (nI_toInt (by omega))⟩, fun z => absurd ht z⟩, fun z => absurd (congrArg nI hl) z⟩
    · have hp : aPw t h led d = -1 := by
        unfold aPw
        rw [if_neg ht, if_neg hl]
      rw [hp] at hA hB
      refine ⟨fun z => absurd ((nI_eq (by omega) (by omega)).mp z) hl, fun _ => ⟨fun z => absurd z ht, fun _ => hB (by omega) _ _ _⟩⟩

theorem aPw_ge {t : Int32} {h led c : Nat} : -1 ≤ aPw t h led c := by
  unfold aPw
  split
  · omega
  · split <;> omega
theorem aPw_0 {t : Int32} {h c : Nat} : -1 < aPw t h (c / 8) c := by
  unfold aPw
  rw [if_pos rfl]
  split <;> omega
theorem wo_run_16 (g : mG) (M : mM) (P : mP) {i h lr : Nat} {t : Int32} {cs : List Nat} (hi : i < 8) (hh : h < 4) (hlr : lr < 4) (hl : 4 * i + 4 ≤ cs.length) (e1 : ∀ j, j < 4 → M 20 (4 * i + j) = nI (aC cs (4 * i + j)) ∧ aC cs (4 * i + j) < 32) (e2 : M 21 i = nI lr)
    (hP : P (some (.inl (nI ((lr + aBi t h cs i) % 4)))) M) : mRun (mSx g) (f_X2_winnerOf g) P (0, [some (.inr (some 16)), some (.inl (nI i)), some (.inl t), some (.inl (nI h)), none, none, none, none, none, none, none], [], M) := by
  have a1 : ∀ j, j < 4 → aAt (M 20) 32 (nI (4 * i + j)) = nI (aC cs (4 * i + j)) := fun j hj => by rw [aAt_in (by omega) (by decide)]; exact (e1 j hj).1
  have a2 : aAt (M 21) 8 (nI i) = nI lr := by rw [aAt_in hi (by decide)]; exact e2
  refine v_wo_0_16 g M P (nI i) t (nI h) ⟨n8, ?_⟩
  have a0 : aAt (M 20) 32 (nI 4 * nI i) / nI 8 = nI (aC cs (4 * i) / 8) := by
    rw [pk_mul]
    have := a1 0 (by omega)
    rw [Nat.add_zero] at this
    rw [this, nI_div8 (by have := (e1 0 (by omega)).2; rw [Nat.add_zero] at this; omega)]
  rw [a0]
  have c0 := (e1 0 (by omega)).2
  rw [Nat.add_zero] at c0
  have hled : aC cs (4 * i) / 8 < 4 := by omega
  have fin : ∀ (b : Nat) (s w : Int32) (m8 m9 m10 : Option mV), aBi t h cs i = b → w = nI ((lr + b) % 4) → mRun (mSx g) (f_X2_winnerOf g) P (24, [some (.inr (some 16)), some (.inl (nI i)), some (.inl t), some (.inl (nI h)), some (.inl (nI (aC cs (4 * i) / 8))), some (.inl s), some (.inl w), some (.inl (nI 4)), m8, m9, m10], [], M) := fun b s w m8 m9 m10 hb hw => by
    refine v_wo_24_16 g M P (nI i) t (nI h) _ s w (nI 4) m8 m9 m10 ⟨fun _ => ?_, fun z => absurd (nI_le (Nat.le_refl 4) (by decide)) z⟩
    rw [hw, ← hb]
    exact hP
  have B : ∀ b1 b2 b3 : Nat, b1 = (if aPw t h (aC cs (4 * i) / 8) (aC cs (4 * i + 0)) < aPw t h (aC cs (4 * i) / 8) (aC cs (4 * i + 1)) then 1 else 0) → b2 = (if aPw t h (aC cs (4 * i) / 8) (aC cs (4 * i + b1)) < aPw t h (aC cs (4 * i) / 8) (aC cs (4 * i + 2)) then 2 else b1) → b3 = (if aPw t h (aC cs (4 * i) / 8) (aC cs (4 * i + b2)) < aPw t h (aC cs (4 * i) / 8) (aC cs (4 * i + 3)) then 3 else b2) → aBi t h cs i = b3 := fun b1 b2 b3 h1 h2 h3 => aB4_of h1 h2 h3
  have m1 : ((-1 : Int32)).toInt = -1 := by decide
  have ge := fun (j : Nat) => @aPw_ge t h (aC cs (4 * i) / 8) (aC cs (4 * i + j))
  -- the last card, the third, the second: from any best one so far
  have s3 : ∀ (b : Nat) (s w : Int32) (m8 m9 m10 : Option mV), (∀ b3, b3 = (if aPw t h (aC cs (4 * i) / 8) (aC cs (4 * i + b)) < aPw t h (aC cs (4 * i) / 8) (aC cs (4 * i + 3)) then 3 else b) → aBi t h cs i = b3) → w = nI ((lr + b) % 4) → s.toInt = aPw t h (aC cs (4 * i) / 8) (aC cs (4 * i + b)) → mRun (mSx g) (f_X2_winnerOf g) P (24, [some (.inr (some 16)), some (.inl (nI i)), some (.inl t), some (.inl (nI h)), some (.inl (nI (aC cs (4 * i) / 8))), some (.inl s), some (.inl w), some (.inl (nI 3)), m8, m9, m10], [], M) := fun b s w m8 m9 m10 hb hw hs => by
    refine wo_step_16 g M P hi hh (by decide) (e1 3 (by omega)).2 hled hlr (a1 3 (by omega)) a2 (by rw [hs]; exact ge b) (fun z s' n8 n9 n10 hs' => ?_) (fun z n8 n9 n10 => ?_)
    · exact fin 3 _ _ _ _ _ (hb 3 (by rw [if_pos (by rw [← hs]; exact z)])) rfl
    · exact fin b _ _ _ _ _ (hb b (by rw [if_neg (by rw [← hs]; exact z)])) hw
  have s2 : ∀ (b : Nat) (s w : Int32) (m8 m9 m10 : Option mV), b = (if aPw t h (aC cs (4 * i) / 8) (aC cs (4 * i + 0)) < aPw t h (aC cs (4 * i) / 8) (aC cs (4 * i + 1)) then 1 else 0) → w = nI ((lr + b) % 4) → s.toInt = aPw t h (aC cs (4 * i) / 8) (aC cs (4 * i + b)) → mRun (mSx g) (f_X2_winnerOf g) P (24, [some (.inr (some 16)), some (.inl (nI i)), some (.inl t), some (.inl (nI h)), some (.inl (nI (aC cs (4 * i) / 8))), some (.inl s), some (.inl w), some (.inl (nI 2)), m8, m9, m10], [], M) := fun b s w m8 m9 m10 hb hw hs => by
    refine wo_step_16 g M P hi hh (by decide) (e1 2 (by omega)).2 hled hlr (a1 2 (by omega)) a2 (by rw [hs]; exact ge b) (fun z s' n8 n9 n10 hs' => ?_) (fun z n8 n9 n10 => ?_)
    · exact s3 2 _ _ _ _ _ (fun b3 h3 => B b 2 b3 hb (by rw [if_pos (by rw [← hs]; exact z)]) h3) rfl hs'
    · exact s3 b _ _ _ _ _ (fun b3 h3 => B b b b3 hb (by rw [if_neg (by rw [← hs]; exact z)]) h3) hw hs
  have s1 : ∀ (s w : Int32) (m8 m9 m10 : Option mV), w = nI ((lr + 0) % 4) → s.toInt = aPw t h (aC cs (4 * i) / 8) (aC cs (4 * i + 0)) → mRun (mSx g) (f_X2_winnerOf g) P (24, [some (.inr (some 16)), some (.inl (nI i)), some (.inl t), some (.inl (nI h)), some (.inl (nI (aC cs (4 * i) / 8))), some (.inl s), some (.inl w), some (.inl (nI 1)), m8, m9, m10], [], M) := fun s w m8 m9 m10 hw hs => by
    refine wo_step_16 g M P hi hh (by decide) (e1 1 (by omega)).2 hled hlr (a1 1 (by omega)) a2 (by rw [hs]; exact ge 0) (fun z s' n8 n9 n10 hs' => ?_) (fun z n8 n9 n10 => ?_)
    · exact s2 1 _ _ _ _ _ (by rw [if_pos (by rw [← hs]; exact z)]) rfl hs'
    · exact s2 0 _ _ _ _ _ (by rw [if_neg (by rw [← hs]; exact z)]) hw hs
  refine wo_step_16 g M P hi hh (by decide) (e1 0 (by omega)).2 hled hlr (a1 0 (by omega)) a2 (by rw [m1]; omega) (fun z s' n8 n9 n10 hs' => s1 _ _ _ _ _ rfl hs') (fun z => absurd (by rw [m1]; exact aPw_0) z)
theorem v_wo_0_29 (g : mG) (M : mM) (P : mP) (i t h : Int32)
    (hVC : ¬ (nI 8) = 0 ∧ (mRun (mSx g) (f_X2_winnerOf g) P (24, [some (.inr (some 29)), some (.inl i), some (.inl t), some (.inl h), some (.inl ((aAt (M 33) 32 ((nI 4) * i)) / (nI 8))), some (.inl (-1)), some (.inl (-1)), some (.inl (nI 0)), none, none, none], [], M))) :
    mRun (mSx g) (f_X2_winnerOf g) P (0, [some (.inr (some 29)), some (.inl i), some (.inl t), some (.inl h), none, none, none, none, none, none, none], [], M) := mRun.vc (m_X2_winnerOf g) [24] 16 hVC

set_option maxRecDepth 100000 in
theorem v_wo_24_29 (g : mG) (M : mM) (P : mP) (i t h led s w k : Int32) (l8 l9 l10 : Option mV)
    (hVC : ((nI 4) ≤ k → P (some (.inl w)) M) ∧ (¬ (nI 4) ≤ k → ¬ (nI 8) = 0 ∧ (let v1 : Int32 := (aAt (M 33) 32 (((nI 4) * i) + k)) / (nI 8); (v1 = led → (¬ v1 = t → let v2 : Int32 := (fStr (aAt (M 33) 32 (((nI 4) * i) + k)) t h) + (nI 0); (v2 ≤ s → mRun (mSx g) (f_X2_winnerOf g) P (24, [some (.inr (some 29)), some (.inl i), some (.inl t), some (.inl h), some (.inl led), some (.inl s), some (.inl w), some (.inl (k + (nI 1))), some (.inl (aAt (M 33) 32 (((nI 4) * i) + k))), some (.inl v1), some (.inl v2)], [], M)) ∧ (¬ v2 ≤ s → mRun (mSx g) (f_X2_winnerOf g) P (24, [some (.inr (some 29)), some (.inl i), some (.inl t), some (.inl h), some (.inl led), some (.inl v2), some (.inl (((aAt (M 34) 8 i) + k) &&& (nI 3))), some (.inl (k + (nI 1))), some (.inl (aAt (M 33) 32 (((nI 4) * i) + k))), some (.inl v1), some (.inl v2)], [], M))) ∧ (¬ (¬ v1 = t) → let v3 : Int32 := (fStr (aAt (M 33) 32 (((nI 4) * i) + k)) t h) + (nI 8); (v3 ≤ s → mRun (mSx g) (f_X2_winnerOf g) P (24, [some (.inr (some 29)), some (.inl i), some (.inl t), some (.inl h), some (.inl led), some (.inl s), some (.inl w), some (.inl (k + (nI 1))), some (.inl (aAt (M 33) 32 (((nI 4) * i) + k))), some (.inl v1), some (.inl v3)], [], M)) ∧ (¬ v3 ≤ s → mRun (mSx g) (f_X2_winnerOf g) P (24, [some (.inr (some 29)), some (.inl i), some (.inl t), some (.inl h), some (.inl led), some (.inl v3), some (.inl (((aAt (M 34) 8 i) + k) &&& (nI 3))), some (.inl (k + (nI 1))), some (.inl (aAt (M 33) 32 (((nI 4) * i) + k))), some (.inl v1), some (.inl v3)], [], M)))) ∧ (¬ v1 = led → (v1 = t → (¬ v1 = t → let v4 : Int32 := (fStr (aAt (M 33) 32 (((nI 4) * i) + k)) t h) + (nI 0); (v4 ≤ s → mRun (mSx g) (f_X2_winnerOf g) P (24, [some (.inr (some 29)), some (.inl i), some (.inl t), some (.inl h), some (.inl led), some (.inl s), some (.inl w), some (.inl (k + (nI 1))), some (.inl (aAt (M 33) 32 (((nI 4) * i) + k))), some (.inl v1), some (.inl v4)], [], M)) ∧ (¬ v4 ≤ s → mRun (mSx g) (f_X2_winnerOf g) P (24, [some (.inr (some 29)), some (.inl i), some (.inl t), some (.inl h), some (.inl led), some (.inl v4), some (.inl (((aAt (M 34) 8 i) + k) &&& (nI 3))), some (.inl (k + (nI 1))), some (.inl (aAt (M 33) 32 (((nI 4) * i) + k))), some (.inl v1), some (.inl v4)], [], M))) ∧ (¬ (¬ v1 = t) → let v5 : Int32 := (fStr (aAt (M 33) 32 (((nI 4) * i) + k)) t h) + (nI 8); (v5 ≤ s → mRun (mSx g) (f_X2_winnerOf g) P (24, [some (.inr (some 29)), some (.inl i), some (.inl t), some (.inl h), some (.inl led), some (.inl s), some (.inl w), some (.inl (k + (nI 1))), some (.inl (aAt (M 33) 32 (((nI 4) * i) + k))), some (.inl v1), some (.inl v5)], [], M)) ∧ (¬ v5 ≤ s → mRun (mSx g) (f_X2_winnerOf g) P (24, [some (.inr (some 29)), some (.inl i), some (.inl t), some (.inl h), some (.inl led), some (.inl v5), some (.inl (((aAt (M 34) 8 i) + k) &&& (nI 3))), some (.inl (k + (nI 1))), some (.inl (aAt (M 33) 32 (((nI 4) * i) + k))), some (.inl v1), some (.inl v5)], [], M)))) ∧ (¬ v1 = t → mRun (mSx g) (f_X2_winnerOf g) P (24, [some (.inr (some 29)), some (.inl i), some (.inl t), some (.inl h), some (.inl led), some (.inl s), some (.inl w), some (.inl (k + (nI 1))), some (.inl (aAt (M 33) 32 (((nI 4) * i) + k))), some (.inl v1), l10], [], M)))))) :
    mRun (mSx g) (f_X2_winnerOf g) P (24, [some (.inr (some 29)), some (.inl i), some (.inl t), some (.inl h), some (.inl led), some (.inl s), some (.inl w), some (.inl k), l8, l9, l10], [], M) := mRun.vc (m_X2_winnerOf g) [24] 50 hVC

theorem wo_step_29 (g : mG) (M : mM) (P : mP) {i h led k d lr : Nat} {t s w : Int32} {l8 l9 l10 : Option mV} (hi : i < 8) (hh : h < 4) (hk : k < 4) (hd : d < 32) (hled : led < 4) (hlr : lr < 4) (e1 : aAt (M 33) 32 (nI (4 * i + k)) = nI d) (e2 : aAt (M 34) 8 (nI i) = nI lr) (hs : -1 ≤ s.toInt)
    (hA : s.toInt < aPw t h led d → ∀ (s' : Int32) (m8 m9 m10 : Option mV), s'.toInt = aPw t h led d → mRun (mSx g) (f_X2_winnerOf g) P (24, [some (.inr (some 29)), some (.inl (nI i)), some (.inl t), some (.inl (nI h)), some (.inl (nI led)), some (.inl s'), some (.inl (nI ((lr + k) % 4))), some (.inl (nI (k + 1))), m8, m9, m10], [], M))
    (hB : ¬ s.toInt < aPw t h led d → ∀ (m8 m9 m10 : Option mV), mRun (mSx g) (f_X2_winnerOf g) P (24, [some (.inr (some 29)), some (.inl (nI i)), some (.inl t), some (.inl (nI h)), some (.inl (nI led)), some (.inl s), some (.inl w), some (.inl (nI (k + 1))), m8, m9, m10], [], M)) :
    mRun (mSx g) (f_X2_winnerOf g) P (24, [some (.inr (some 29)), some (.inl (nI i)), some (.inl t), some (.inl (nI h)), some (.inl (nI led)), some (.inl s), some (.inl w), some (.inl (nI k)), l8, l9, l10], [], M) := by
  have q1 : ¬ nI 4 ≤ nI k := nI_ge hk (by decide)
  have e3 : nI 4 * nI i + nI k = nI (4 * i + k) := nI_mul4 i k
  have e4 : (nI lr + nI k) &&& nI 3 = nI ((lr + k) % 4) := by rw [nI_add]; exact nI_and3 _ (by omega)
  have e5 : fStr (nI d) t (nI h) = nI (sN (decide (nI (d / 8) = t)) h d) := fStr_N t hd hh
  have e6 : nI d / nI 8 = nI (d / 8) := nI_div8 (by omega)
  have hle := sN_le (decide (nI (d / 8) = t)) h d
  refine v_wo_24_29 g M P (nI i) t (nI h) (nI led) s w (nI k) l8 l9 l10 ⟨fun z => absurd z q1, fun _ => ⟨n8, ?_⟩⟩
  rw [e3, e1, e2, e4, e5, e6, nI_add, nI_add, nI_add, Nat.add_zero]
  have key : ∀ (n : Nat), n < 100 → (nI n ≤ s ↔ ¬ s.toInt < (n : Int)) := fun n hn => by
    rw [fa_le, nI_toInt (by omega)]
    omega
  by_cases ht : nI (d / 8) = t
  · have hp : aPw t h led d = ((sN (decide (nI (d / 8) = t)) h d + 8 : Nat) : Int) := by
      unfold aPw
      rw [if_pos ht]
      simp [ht]
      omega
    rw [hp] at hA hB
    have b1 := key (sN (decide (nI (d / 8) = t)) h d + 8) (by omega)
    have R : ∀ (m8 m9 m10 : Option mV), (nI (sN (decide (nI (d / 8) = t)) h d + 8) ≤ s → mRun (mSx g) (f_X2_winnerOf g) P (24, [some (.inr (some 29)), some (.inl (nI i)), some (.inl t), some (.inl (nI h)), some (.inl (nI led)), some (.inl s), some (.inl w), some (.inl (nI (k + 1))), m8, m9, m10], [], M)) ∧ (¬ nI (sN (decide (nI (d / 8) = t)) h d + 8) ≤ s → mRun (mSx g) (f_X2_winnerOf g) P (24, [some (.inr (some 29)), some (.inl (nI i)), some (.inl t), some (.inl (nI h)), some (.inl (nI led)), some (.inl (nI (sN (decide (nI (d / 8) = t)) h d + 8))), some (.inl (nI ((lr + k) % 4))), some (.inl (nI (k + 1))), m8, m9, m10], [], M)) :=
      fun m8 m9 m10 => ⟨fun z => hB (b1.mp z) m8 m9 m10, fun z => hA (Classical.not_not.mp (fun y => z (b1.mpr y))) _ m8 m9 m10 (nI_toInt (by omega))⟩
    exact ⟨fun _ => ⟨fun z => absurd ht z, fun _ => R _ _ _⟩, fun _ => ⟨fun _ => ⟨fun z => absurd ht z, fun _ => R _ _ _⟩, fun z => absurd ht z⟩⟩
  · have hdec : decide (nI (d / 8) = t) = false := decide_eq_false ht
    rw [hdec] at hle ⊢
    by_cases hl : d / 8 = led
    · have hp : aPw t h led d = ((sN false h d : Nat) : Int) := by
        unfold aPw
        rw [if_neg ht, if_pos hl]
      rw [hp] at hA hB
      have b1 := key (sN false h d) (by omega)
      exact ⟨fun _ => ⟨fun _ => ⟨fun z => hB (b1.mp z) _ _ _, fun z => hA (Classical.not_not.mp (fun y => z (b1.mpr y))) _ _ _ _ (nI_toInt (by omega))⟩, fun z => absurd ht z⟩, fun z => absurd (congrArg nI hl) z⟩
    · have hp : aPw t h led d = -1 := by
        unfold aPw
        rw [if_neg ht, if_neg hl]
      rw [hp] at hA hB
      refine ⟨fun z => absurd ((nI_eq (by omega) (by omega)).mp z) hl, fun _ => ⟨fun z => absurd z ht, fun _ => hB (by omega) _ _ _⟩⟩


theorem wo_run_29 (g : mG) (M : mM) (P : mP) {i h lr : Nat} {t : Int32} {cs : List Nat} (hi : i < 8) (hh : h < 4) (hlr : lr < 4) (hl : 4 * i + 4 ≤ cs.length) (e1 : ∀ j, j < 4 → M 33 (4 * i + j) = nI (aC cs (4 * i + j)) ∧ aC cs (4 * i + j) < 32) (e2 : M 34 i = nI lr)
    (hP : P (some (.inl (nI ((lr + aBi t h cs i) % 4)))) M) : mRun (mSx g) (f_X2_winnerOf g) P (0, [some (.inr (some 29)), some (.inl (nI i)), some (.inl t), some (.inl (nI h)), none, none, none, none, none, none, none], [], M) := by
  have a1 : ∀ j, j < 4 → aAt (M 33) 32 (nI (4 * i + j)) = nI (aC cs (4 * i + j)) := fun j hj => by rw [aAt_in (by omega) (by decide)]; exact (e1 j hj).1
  have a2 : aAt (M 34) 8 (nI i) = nI lr := by rw [aAt_in hi (by decide)]; exact e2
  refine v_wo_0_29 g M P (nI i) t (nI h) ⟨n8, ?_⟩
  have a0 : aAt (M 33) 32 (nI 4 * nI i) / nI 8 = nI (aC cs (4 * i) / 8) := by
    rw [pk_mul]
    have := a1 0 (by omega)
    rw [Nat.add_zero] at this
    rw [this, nI_div8 (by have := (e1 0 (by omega)).2; rw [Nat.add_zero] at this; omega)]
  rw [a0]
  have c0 := (e1 0 (by omega)).2
  rw [Nat.add_zero] at c0
  have hled : aC cs (4 * i) / 8 < 4 := by omega
  have fin : ∀ (b : Nat) (s w : Int32) (m8 m9 m10 : Option mV), aBi t h cs i = b → w = nI ((lr + b) % 4) → mRun (mSx g) (f_X2_winnerOf g) P (24, [some (.inr (some 29)), some (.inl (nI i)), some (.inl t), some (.inl (nI h)), some (.inl (nI (aC cs (4 * i) / 8))), some (.inl s), some (.inl w), some (.inl (nI 4)), m8, m9, m10], [], M) := fun b s w m8 m9 m10 hb hw => by
    refine v_wo_24_29 g M P (nI i) t (nI h) _ s w (nI 4) m8 m9 m10 ⟨fun _ => ?_, fun z => absurd (nI_le (Nat.le_refl 4) (by decide)) z⟩
    rw [hw, ← hb]
    exact hP
  have B : ∀ b1 b2 b3 : Nat, b1 = (if aPw t h (aC cs (4 * i) / 8) (aC cs (4 * i + 0)) < aPw t h (aC cs (4 * i) / 8) (aC cs (4 * i + 1)) then 1 else 0) → b2 = (if aPw t h (aC cs (4 * i) / 8) (aC cs (4 * i + b1)) < aPw t h (aC cs (4 * i) / 8) (aC cs (4 * i + 2)) then 2 else b1) → b3 = (if aPw t h (aC cs (4 * i) / 8) (aC cs (4 * i + b2)) < aPw t h (aC cs (4 * i) / 8) (aC cs (4 * i + 3)) then 3 else b2) → aBi t h cs i = b3 := fun b1 b2 b3 h1 h2 h3 => aB4_of h1 h2 h3
  have m1 : ((-1 : Int32)).toInt = -1 := by decide
  have ge := fun (j : Nat) => @aPw_ge t h (aC cs (4 * i) / 8) (aC cs (4 * i + j))
  -- the last card, the third, the second: from any best one so far
  have s3 : ∀ (b : Nat) (s w : Int32) (m8 m9 m10 : Option mV), (∀ b3, b3 = (if aPw t h (aC cs (4 * i) / 8) (aC cs (4 * i + b)) < aPw t h (aC cs (4 * i) / 8) (aC cs (4 * i + 3)) then 3 else b) → aBi t h cs i = b3) → w = nI ((lr + b) % 4) → s.toInt = aPw t h (aC cs (4 * i) / 8) (aC cs (4 * i + b)) → mRun (mSx g) (f_X2_winnerOf g) P (24, [some (.inr (some 29)), some (.inl (nI i)), some (.inl t), some (.inl (nI h)), some (.inl (nI (aC cs (4 * i) / 8))), some (.inl s), some (.inl w), some (.inl (nI 3)), m8, m9, m10], [], M) := fun b s w m8 m9 m10 hb hw hs => by
    refine wo_step_29 g M P hi hh (by decide) (e1 3 (by omega)).2 hled hlr (a1 3 (by omega)) a2 (by rw [hs]; exact ge b) (fun z s' n8 n9 n10 hs' => ?_) (fun z n8 n9 n10 => ?_)
    · exact fin 3 _ _ _ _ _ (hb 3 (by rw [if_pos (by rw [← hs]; exact z)])) rfl
    · exact fin b _ _ _ _ _ (hb b (by rw [if_neg (by rw [← hs]; exact z)])) hw
  have s2 : ∀ (b : Nat) (s w : Int32) (m8 m9 m10 : Option mV), b = (if aPw t h (aC cs (4 * i) / 8) (aC cs (4 * i + 0)) < aPw t h (aC cs (4 * i) / 8) (aC cs (4 * i + 1)) then 1 else 0) → w = nI ((lr + b) % 4) → s.toInt = aPw t h (aC cs (4 * i) / 8) (aC cs (4 * i + b)) → mRun (mSx g) (f_X2_winnerOf g) P (24, [some (.inr (some 29)), some (.inl (nI i)), some (.inl t), some (.inl (nI h)), some (.inl (nI (aC cs (4 * i) / 8))), some (.inl s), some (.inl w), some (.inl (nI 2)), m8, m9, m10], [], M) := fun b s w m8 m9 m10 hb hw hs => by
    refine wo_step_29 g M P hi hh (by decide) (e1 2 (by omega)).2 hled hlr (a1 2 (by omega)) a2 (by rw [hs]; exact ge b) (fun z s' n8 n9 n10 hs' => ?_) (fun z n8 n9 n10 => ?_)
    · exact s3 2 _ _ _ _ _ (fun b3 h3 => B b 2 b3 hb (by rw [if_pos (by rw [← hs]; exact z)]) h3) rfl hs'
    · exact s3 b _ _ _ _ _ (fun b3 h3 => B b b b3 hb (by rw [if_neg (by rw [← hs]; exact z)]) h3) hw hs
  have s1 : ∀ (s w : Int32) (m8 m9 m10 : Option mV), w = nI ((lr + 0) % 4) → s.toInt = aPw t h (aC cs (4 * i) / 8) (aC cs (4 * i + 0)) → mRun (mSx g) (f_X2_winnerOf g) P (24, [some (.inr (some 29)), some (.inl (nI i)), some (.inl t), some (.inl (nI h)), some (.inl (nI (aC cs (4 * i) / 8))), some (.inl s), some (.inl w), some (.inl (nI 1)), m8, m9, m10], [], M) := fun s w m8 m9 m10 hw hs => by
    refine wo_step_29 g M P hi hh (by decide) (e1 1 (by omega)).2 hled hlr (a1 1 (by omega)) a2 (by rw [hs]; exact ge 0) (fun z s' n8 n9 n10 hs' => ?_) (fun z n8 n9 n10 => ?_)
    · exact s2 1 _ _ _ _ _ (by rw [if_pos (by rw [← hs]; exact z)]) rfl hs'
    · exact s2 0 _ _ _ _ _ (by rw [if_neg (by rw [← hs]; exact z)]) hw hs
  refine wo_step_29 g M P hi hh (by decide) (e1 0 (by omega)).2 hled hlr (a1 0 (by omega)) a2 (by rw [m1]; omega) (fun z s' n8 n9 n10 hs' => s1 _ _ _ _ _ rfl hs') (fun z => absurd (by rw [m1]; exact aPw_0) z)
theorem run_X2_winnerOf : mRunOf 11 t_X2_winnerOf f_X2_winnerOf := fun g as M P hT => by
  obtain ⟨⟨c, i, t, h, cs, lr⟩, ⟨h1, rfl, h3, h4, h5, h6, h7, h8⟩, hP⟩ := hT
  refine ⟨Nat.le_of_ble_eq_true rfl, ?_⟩
  dsimp only at h1 h3 h4 h5 h6 h7 h8
  rcases pl_two h1 with rfl | rfl
  · exact wo_run_16 g M P h3 h4 h6 h5 h7 h8 (hP _ _ ⟨rfl, rfl⟩)
  · exact wo_run_29 g M P h3 h4 h6 h5 h7 h8 (hP _ _ ⟨rfl, rfl⟩)
theorem ok_X2_winnerOf : mOK yX2_winnerOf cX2_winnerOf 11 (some .int) 2 t_X2_winnerOf := mOK.of f_X2_winnerOf (by decide) (fun _ => rfl) (fun g => mCodeOK kk_X2_winnerOf) (fun g => mFldL fk_RX2 rfl) (fun g idx v h => by cases h) (fun g idx v h => by cases h) (mCalL (l := l_X2_winnerOf) (List.forall_mem_cons.mpr ⟨mSite.SN (idx := 56) ok_X7_at (by decide) (by decide) wc_X7_at wm_RX2_56 wt_X7_at wn_RX7 wd_X7_at, List.forall_mem_cons.mpr ⟨mSite.SN (idx := 89) ok_X7_strengthOf (by decide) (by decide) wc_X7_strengthOf wm_RX2_89 wt_X7_strengthOf wn_RX7 wd_X7_strengthOf, fun _ h => absurd h List.not_mem_nil⟩⟩) (fun _ => rfl)) run_X2_winnerOf
end
section
/-! ===== CLASS Play: the stronger trumps, and what may be played ===== -/
/-- the strongest trump among k cards from f on, -1: none -/
def aMx (t : Int32) (h : Nat) (cs : List Nat) (f : Nat) : Nat → Int
  | 0 => -1
  | k + 1 => if nI (aC cs (f + k) / 8) = t then (if aMx t h cs f k < (sN true h (aC cs (f + k)) : Int) then (sN true h (aC cs (f + k)) : Int) else aMx t h cs f k) else aMx t h cs f k
theorem aMx_rng {t : Int32} {h : Nat} {cs : List Nat} {f : Nat} : ∀ k, -1 ≤ aMx t h cs f k ∧ aMx t h cs f k ≤ 7
  | 0 => by unfold aMx; omega
  | k + 1 => by
    have := aMx_rng (t := t) (h := h) (cs := cs) (f := f) k
    have h2 := sN_le true h (aC cs (f + k))
    unfold aMx
    split
    · split <;> omega
    · exact this
/-- what may be played: hand, trump, ranking, rule, the cards so far -/
def aSt (t : Int32) (h : Nat) (cs : List Nat) (j : Nat) : Bool := decide (nI (j / 8) = t) && decide (aMx t h cs (cs.length - cs.length % 4) (cs.length % 4) < (sN true h j : Int))
def pre_X2_strongerTrumps (q : Nat × Nat × Nat × List Nat) (as : List mV) (M : mM) : Prop := pl_X2 q.1 = true ∧ as = [.inr (some q.1), .inl (nI (q.2.2.2.length % 4))] ∧ q.2.1 < 4 ∧ q.2.2.1 < 4 ∧ q.2.2.2.length ≤ 32 ∧ M q.1 7 = nI q.2.2.2.length ∧ M q.1 9 = nI q.2.1 ∧ M q.1 10 = nI q.2.2.1 ∧ (∀ c ∈ q.2.2.2, c < 32) ∧ ∀ j, j < q.2.2.2.length → M (q.1 + 4) j = nI (aC q.2.2.2 j)
def post_X2_strongerTrumps (q : Nat × Nat × Nat × List Nat) (_ : List mV) (M : mM) (v : Int32) (M' : mM) : Prop := (∀ j, j < 32 → bt v j = aSt (nI q.2.1) q.2.2.1 q.2.2.2 j) ∧ M' = M
abbrev t_X2_strongerTrumps : mG → mT := mRi pre_X2_strongerTrumps post_X2_strongerTrumps
theorem mo_X2_strongerTrumps : mMn t_X2_strongerTrumps := mRi_mono
theorem rv_X2_strongerTrumps : mHasR yX2_strongerTrumps 1 t_X2_strongerTrumps := by
  intro g as M P hT hl
  obtain ⟨q, ⟨h1, h2, -⟩, -⟩ := hT
  exact ⟨_, _, h2, is_X2 g _ h1⟩
def k_X2_strongerTrumps : List (Nat × mI) := [(0, .iconst (-1), 1, 0, -1, []),
  (1, .istore_n 2, 1, 2, 0, []),
  (2, .aload_n 0, 1, 0, 0, []),
  (3, .getfield 37, 3, 0, 0, []),
  (6, .iload_n 1, 1, 1, 0, []),
  (7, .isub, 1, 0, 0, []),
  (8, .istore_n 3, 1, 3, 0, []),
  (9, .iload_n 3, 1, 3, 0, []),
  (10, .aload_n 0, 1, 0, 0, []),
  (11, .getfield 37, 3, 0, 0, []),
  (14, .if_icmp .ge 49, 3, 63, 0, []),
  (17, .aload_n 0, 1, 0, 0, []),
  (18, .getfield 21, 3, 0, 0, []),
  (21, .iload_n 3, 1, 3, 0, []),
  (22, .invokestatic 56, 3, 0, 0, []),
  (25, .istore 4, 2, 4, 0, []),
  (27, .iload 4, 2, 4, 0, []),
  (29, .bipush 8, 2, 0, nI 8, []),
  (31, .idiv, 1, 0, 0, []),
  (32, .aload_n 0, 1, 0, 0, []),
  (33, .getfield 70, 3, 0, 0, []),
  (36, .if_icmp .ne 21, 3, 57, 0, []),
  (39, .iload_n 2, 1, 2, 0, []),
  (40, .iload 4, 2, 4, 0, []),
  (42, .aload_n 0, 1, 0, 0, []),
  (43, .getfield 70, 3, 0, 0, []),
  (46, .aload_n 0, 1, 0, 0, []),
  (47, .getfield 73, 3, 0, 0, []),
  (50, .invokestatic 89, 3, 0, 0, []),
  (53, .invokestatic 93, 3, 0, 0, []),
  (56, .istore_n 2, 1, 2, 0, []),
  (57, .iinc 3 1, 3, 3, nI 1, []),
  (60, .goto (-51), 3, 9, 0, []),
  (63, .iconst 0, 1, 0, nI 0, []),
  (64, .istore_n 3, 1, 3, 0, []),
  (65, .bipush 8, 2, 0, nI 8, []),
  (67, .aload_n 0, 1, 0, 0, []),
  (68, .getfield 70, 3, 0, 0, []),
  (71, .imul, 1, 0, 0, []),
  (72, .istore 4, 2, 4, 0, []),
  (74, .iload 4, 2, 4, 0, []),
  (76, .bipush 8, 2, 0, nI 8, []),
  (78, .aload_n 0, 1, 0, 0, []),
  (79, .getfield 70, 3, 0, 0, []),
  (82, .imul, 1, 0, 0, []),
  (83, .bipush 8, 2, 0, nI 8, []),
  (85, .iadd, 1, 0, 0, []),
  (86, .if_icmp .ge 34, 3, 120, 0, []),
  (89, .iload 4, 2, 4, 0, []),
  (91, .aload_n 0, 1, 0, 0, []),
  (92, .getfield 70, 3, 0, 0, []),
  (95, .aload_n 0, 1, 0, 0, []),
  (96, .getfield 73, 3, 0, 0, []),
  (99, .invokestatic 89, 3, 0, 0, []),
  (102, .iload_n 2, 1, 2, 0, []),
  (103, .if_icmp .le 11, 3, 114, 0, []),
  (106, .iload_n 3, 1, 3, 0, []),
  (107, .iload 4, 2, 4, 0, []),
  (109, .invokestatic 60, 3, 0, 0, []),
  (112, .ior, 1, 0, 0, []),
  (113, .istore_n 3, 1, 3, 0, []),
  (114, .iinc 4 1, 3, 4, nI 1, []),
  (117, .goto (-43), 3, 74, 0, []),
  (120, .iload_n 3, 1, 3, 0, []),
  (121, .ireturn, 1, 0, 0, [])]
theorem kk_X2_strongerTrumps : (k_X2_strongerTrumps.all fun e => mChk cX2_strongerTrumps e.1 e.2) = true := by decide +kernel
def l_X2_strongerTrumps : List (Nat × Nat × (mG → mT)) := [(3 * 56 + 1, 2, t_X7_at), (3 * 89 + 1, 3, t_X7_strengthOf), (3 * 93 + 1, 2, tMax), (3 * 60 + 1, 1, t_X7_bitOf)]
def f_X2_strongerTrumps (g : mG) : mF := (mLk k_X2_strongerTrumps, mLk fl_RX2, mLk (l_X2_strongerTrumps.map fun e => (e.1, e.2.1, e.2.2 g)), mLk ([] : List (Nat × mV)), mLk ([] : List (Nat × mV)), some .int)
theorem m_X2_strongerTrumps (g : mG) : mMono (f_X2_strongerTrumps g) := mMonoL (g := g) (l := l_X2_strongerTrumps) (List.forall_mem_cons.mpr ⟨mo_X7_at, List.forall_mem_cons.mpr ⟨mo_X7_strengthOf, List.forall_mem_cons.mpr ⟨tMax_mono, List.forall_mem_cons.mpr ⟨mo_X7_bitOf, fun _ h => absurd h List.not_mem_nil⟩⟩⟩⟩) rfl

theorem v_sg_0_16 (g : mG) (M : mM) (P : mP) (y : Int32)
    (h : mRun (mSx g) (f_X2_strongerTrumps g) P (9, [some (.inr (some 16)), some (.inl y), some (.inl (-1)), some (.inl ((M 16 7) - y)), none], [], M)) :
    mRun (mSx g) (f_X2_strongerTrumps g) P (0, [some (.inr (some 16)), some (.inl y), none, none, none], [], M) := mRun.vc (m_X2_strongerTrumps g) [9] 8 h

theorem v_sg_9_16 (g : mG) (M : mM) (P : mP) (y s k : Int32) (l4 : Option mV)
    (h : ((M 16 7) ≤ k → mRun (mSx g) (f_X2_strongerTrumps g) P (74, [some (.inr (some 16)), some (.inl y), some (.inl s), some (.inl (nI 0)), some (.inl ((nI 8) * (M 16 9)))], [], M)) ∧ (¬ (M 16 7) ≤ k → ¬ (nI 8) = 0 ∧ ((¬ ((aAt (M 20) 32 k) / (nI 8)) = (M 16 9) → mRun (mSx g) (f_X2_strongerTrumps g) P (9, [some (.inr (some 16)), some (.inl y), some (.inl s), some (.inl (k + (nI 1))), some (.inl (aAt (M 20) 32 k))], [], M)) ∧ (¬ (¬ ((aAt (M 20) 32 k) / (nI 8)) = (M 16 9)) → let v1 : Int32 := if s < (fStr (aAt (M 20) 32 k) (M 16 9) (M 16 10)) then fStr (aAt (M 20) 32 k) (M 16 9) (M 16 10) else s; mRun (mSx g) (f_X2_strongerTrumps g) P (9, [some (.inr (some 16)), some (.inl y), some (.inl v1), some (.inl (k + (nI 1))), some (.inl (aAt (M 20) 32 k))], [], M))))) :
    mRun (mSx g) (f_X2_strongerTrumps g) P (9, [some (.inr (some 16)), some (.inl y), some (.inl s), some (.inl k), l4], [], M) := mRun.vc (m_X2_strongerTrumps g) [9, 74] 27 h

theorem v_sg_74_16 (g : mG) (M : mM) (P : mP) (y s b c : Int32)
    (h : ((((nI 8) * (M 16 9)) + (nI 8)) ≤ c → P (some (.inl b)) M) ∧ (¬ (((nI 8) * (M 16 9)) + (nI 8)) ≤ c → ((fStr c (M 16 9) (M 16 10)) ≤ s → mRun (mSx g) (f_X2_strongerTrumps g) P (74, [some (.inr (some 16)), some (.inl y), some (.inl s), some (.inl b), some (.inl (c + (nI 1)))], [], M)) ∧ (¬ (fStr c (M 16 9) (M 16 10)) ≤ s → mRun (mSx g) (f_X2_strongerTrumps g) P (74, [some (.inr (some 16)), some (.inl y), some (.inl s), some (.inl (b ||| (fBit c))), some (.inl (c + (nI 1)))], [], M)))) :
    mRun (mSx g) (f_X2_strongerTrumps g) P (74, [some (.inr (some 16)), some (.inl y), some (.inl s), some (.inl b), some (.inl c)], [], M) := mRun.vc (m_X2_strongerTrumps g) [74] 24 h

theorem sg_b_16 (g : mG) (M : mM) (P : mP) {u h : Nat} {y s : Int32} (hu : u < 4) (hh : h < 4) (e2 : M 16 9 = nI u) (e3 : M 16 10 = nI h)
    (hP : ∀ v, (∀ j, j < 32 → bt v j = (decide (j / 8 = u) && decide (s.toInt < (sN true h j : Int)))) → P (some (.inl v)) M) :
    ∀ (n i : Nat) (b : Int32), i + n = 8 → (∀ j, j < 32 → bt b j = (decide (j / 8 = u) && decide (j < 8 * u + i) && decide (s.toInt < (sN true h j : Int)))) → mRun (mSx g) (f_X2_strongerTrumps g) P (74, [some (.inr (some 16)), some (.inl y), some (.inl s), some (.inl b), some (.inl (nI (8 * u + i)))], [], M)
  | 0, i, b, hi, hb => by
    refine v_sg_74_16 g M P y s b (nI (8 * u + i)) ⟨fun _ => hP b (fun j hj => ?_), fun z => absurd (by rw [e2, pk_mul, nI_add]; exact nI_le (by omega) (by omega)) z⟩
    rw [hb j hj]
    by_cases q : j / 8 = u
    · rw [decide_eq_true q, decide_eq_true (show j < 8 * u + i by omega)]
      simp
    · rw [decide_eq_false q]
      simp
  | n + 1, i, b, hi, hb => by
    have hstr : fStr (nI (8 * u + i)) (nI u) (nI h) = nI (sN true h (8 * u + i)) := by
      rw [fStr_N (nI u) (by omega) hh, show (8 * u + i) / 8 = u by omega]
      simp
    have hle := sN_le true h (8 * u + i)
    refine v_sg_74_16 g M P y s b (nI (8 * u + i)) ⟨fun z => absurd z (by rw [e2, pk_mul, nI_add]; exact nI_ge (by omega) (by omega)), fun _ => ?_⟩
    rw [e2, e3, hstr, nI_add]
    refine ⟨fun z => sg_b_16 g M P hu hh e2 e3 hP n (i + 1) b (by omega) (fun j hj => ?_), fun z => sg_b_16 g M P hu hh e2 e3 hP n (i + 1) _ (by omega) (fun j hj => ?_)⟩
    · rw [hb j hj]
      rw [fa_le, nI_toInt (by omega)] at z
      by_cases q : j = 8 * u + i
      · subst q
        rw [decide_eq_false (show ¬ s.toInt < (sN true h (8 * u + i) : Int) by omega)]
        simp
      · rw [show decide (j < 8 * u + i) = decide (j < 8 * u + (i + 1)) from decide_eq_decide.mpr (by omega)]
    · rw [fa_le, nI_toInt (by omega)] at z
      rw [bt_or, hb j hj, bt_fBit _ (by omega) j hj]
      by_cases q : j = 8 * u + i
      · subst q
        rw [decide_eq_true (show s.toInt < (sN true h (8 * u + i) : Int) by omega), decide_eq_true (show (8 * u + i) / 8 = u by omega), decide_eq_true (show 8 * u + i < 8 * u + (i + 1) by omega)]
        simp
      · rw [show decide (j < 8 * u + i) = decide (j < 8 * u + (i + 1)) from decide_eq_decide.mpr (by omega), decide_eq_false q]
        simp
theorem sg_a_16 (g : mG) (M : mM) (P : mP) {u h : Nat} {y : Int32} {cs : List Nat} (hu : u < 4) (hh : h < 4) (hl : cs.length ≤ 32) (e1 : M 16 7 = nI cs.length) (e2 : M 16 9 = nI u) (e3 : M 16 10 = nI h) (hc : ∀ c ∈ cs, c < 32) (e4 : ∀ j, j < cs.length → M 20 j = nI (aC cs j))
    (hP : ∀ v, (∀ j, j < 32 → bt v j = aSt (nI u) h cs j) → P (some (.inl v)) M) (f : Nat) (hf : f = cs.length - cs.length % 4) :
    ∀ (n k : Nat) (s : Int32) (l4 : Option mV), f + k + n = cs.length → s.toInt = aMx (nI u) h cs f k → mRun (mSx g) (f_X2_strongerTrumps g) P (9, [some (.inr (some 16)), some (.inl y), some (.inl s), some (.inl (nI (f + k))), l4], [], M)
  | 0, k, s, l4, hk, hs => by
    refine v_sg_9_16 g M P y s (nI (f + k)) l4 ⟨fun _ => ?_, fun z => absurd (by rw [e1]; exact nI_le (by omega) (by omega)) z⟩
    rw [e2, pk_mul]
    refine sg_b_16 g M P hu hh e2 e3 (fun v hv => hP v (fun j hj => ?_)) 8 0 (nI 0) rfl (fun j hj => ?_)
    · rw [hv j hj, hs, show k = cs.length % 4 by omega, hf]
      unfold aSt
      rw [show decide (j / 8 = u) = decide (nI (j / 8) = nI u) from decide_eq_decide.mpr (nI_eq (by omega) (by omega)).symm]
    · rw [show nI 0 = 0 from rfl, bt_0]
      by_cases q : j / 8 = u
      · rw [decide_eq_false (show ¬ j < 8 * u + 0 by omega)]
        simp
      · rw [decide_eq_false q]
        simp
  | n + 1, k, s, l4, hk, hs => by
    have hin : f + k < cs.length := by omega
    have hat : aAt (M 20) 32 (nI (f + k)) = nI (aC cs (f + k)) := by rw [aAt_in (by omega) (by decide)]; exact e4 _ hin
    have hc2 := hc _ (aC_in hin)
    have hle := sN_le true h (aC cs (f + k))
    have hdiv : nI (aC cs (f + k)) / nI 8 = nI (aC cs (f + k) / 8) := nI_div8 (by omega)
    refine v_sg_9_16 g M P y s (nI (f + k)) l4 ⟨fun z => absurd (by rw [e1] at z; exact z) (nI_ge (by omega) (by omega)), fun _ => ⟨n8, ?_⟩⟩
    rw [e2, e3, hat, hdiv, nI_add]
    refine ⟨fun z => sg_a_16 g M P hu hh hl e1 e2 e3 hc e4 hP f hf n (k + 1) s _ (by omega) ?_, fun z => ?_⟩
    · rw [hs, aMx, if_neg z]
    · have z' := Classical.not_not.mp z
      have hstr : fStr (nI (aC cs (f + k))) (nI u) (nI h) = nI (sN true h (aC cs (f + k))) := by
        rw [fStr_N (nI u) hc2 hh, z']
        simp
      rw [hstr]
      refine sg_a_16 g M P hu hh hl e1 e2 e3 hc e4 hP f hf n (k + 1) _ _ (by omega) ?_
      rw [aMx, if_pos z', ← hs]
      by_cases q : s < nI (sN true h (aC cs (f + k)))
      · rw [if_pos q]
        rw [fa_lt, nI_toInt (by omega)] at q
        rw [if_pos q, nI_toInt (by omega)]
      · rw [if_neg q]
        rw [fa_lt, nI_toInt (by omega)] at q
        rw [if_neg q]
theorem sg_run_16 (g : mG) (M : mM) (P : mP) {u h : Nat} {cs : List Nat} (hu : u < 4) (hh : h < 4) (hl : cs.length ≤ 32) (e1 : M 16 7 = nI cs.length) (e2 : M 16 9 = nI u) (e3 : M 16 10 = nI h) (hc : ∀ c ∈ cs, c < 32) (e4 : ∀ j, j < cs.length → M 20 j = nI (aC cs j))
    (hP : ∀ v, (∀ j, j < 32 → bt v j = aSt (nI u) h cs j) → P (some (.inl v)) M) : mRun (mSx g) (f_X2_strongerTrumps g) P (0, [some (.inr (some 16)), some (.inl (nI (cs.length % 4))), none, none, none], [], M) := by
  refine v_sg_0_16 g M P _ ?_
  rw [e1, pk_sub (Nat.mod_le _ _)]
  exact sg_a_16 g M P hu hh hl e1 e2 e3 hc e4 hP _ rfl (cs.length % 4) 0 (-1) none (by have := Nat.mod_le cs.length 4; omega) (show ((-1 : Int32)).toInt = -1 by decide)
theorem v_sg_0_29 (g : mG) (M : mM) (P : mP) (y : Int32)
    (h : mRun (mSx g) (f_X2_strongerTrumps g) P (9, [some (.inr (some 29)), some (.inl y), some (.inl (-1)), some (.inl ((M 29 7) - y)), none], [], M)) :
    mRun (mSx g) (f_X2_strongerTrumps g) P (0, [some (.inr (some 29)), some (.inl y), none, none, none], [], M) := mRun.vc (m_X2_strongerTrumps g) [9] 8 h

theorem v_sg_9_29 (g : mG) (M : mM) (P : mP) (y s k : Int32) (l4 : Option mV)
    (h : ((M 29 7) ≤ k → mRun (mSx g) (f_X2_strongerTrumps g) P (74, [some (.inr (some 29)), some (.inl y), some (.inl s), some (.inl (nI 0)), some (.inl ((nI 8) * (M 29 9)))], [], M)) ∧ (¬ (M 29 7) ≤ k → ¬ (nI 8) = 0 ∧ ((¬ ((aAt (M 33) 32 k) / (nI 8)) = (M 29 9) → mRun (mSx g) (f_X2_strongerTrumps g) P (9, [some (.inr (some 29)), some (.inl y), some (.inl s), some (.inl (k + (nI 1))), some (.inl (aAt (M 33) 32 k))], [], M)) ∧ (¬ (¬ ((aAt (M 33) 32 k) / (nI 8)) = (M 29 9)) → let v1 : Int32 := if s < (fStr (aAt (M 33) 32 k) (M 29 9) (M 29 10)) then fStr (aAt (M 33) 32 k) (M 29 9) (M 29 10) else s; mRun (mSx g) (f_X2_strongerTrumps g) P (9, [some (.inr (some 29)), some (.inl y), some (.inl v1), some (.inl (k + (nI 1))), some (.inl (aAt (M 33) 32 k))], [], M))))) :
    mRun (mSx g) (f_X2_strongerTrumps g) P (9, [some (.inr (some 29)), some (.inl y), some (.inl s), some (.inl k), l4], [], M) := mRun.vc (m_X2_strongerTrumps g) [9, 74] 27 h

theorem v_sg_74_29 (g : mG) (M : mM) (P : mP) (y s b c : Int32)
    (h : ((((nI 8) * (M 29 9)) + (nI 8)) ≤ c → P (some (.inl b)) M) ∧ (¬ (((nI 8) * (M 29 9)) + (nI 8)) ≤ c → ((fStr c (M 29 9) (M 29 10)) ≤ s → mRun (mSx g) (f_X2_strongerTrumps g) P (74, [some (.inr (some 29)), some (.inl y), some (.inl s), some (.inl b), some (.inl (c + (nI 1)))], [], M)) ∧ (¬ (fStr c (M 29 9) (M 29 10)) ≤ s → mRun (mSx g) (f_X2_strongerTrumps g) P (74, [some (.inr (some 29)), some (.inl y), some (.inl s), some (.inl (b ||| (fBit c))), some (.inl (c + (nI 1)))], [], M)))) :
    mRun (mSx g) (f_X2_strongerTrumps g) P (74, [some (.inr (some 29)), some (.inl y), some (.inl s), some (.inl b), some (.inl c)], [], M) := mRun.vc (m_X2_strongerTrumps g) [74] 24 h

theorem sg_b_29 (g : mG) (M : mM) (P : mP) {u h : Nat} {y s : Int32} (hu : u < 4) (hh : h < 4) (e2 : M 29 9 = nI u) (e3 : M 29 10 = nI h)
    (hP : ∀ v, (∀ j, j < 32 → bt v j = (decide (j / 8 = u) && decide (s.toInt < (sN true h j : Int)))) → P (some (.inl v)) M) :
    ∀ (n i : Nat) (b : Int32), i + n = 8 → (∀ j, j < 32 → bt b j = (decide (j / 8 = u) && decide (j < 8 * u + i) && decide (s.toInt < (sN true h j : Int)))) → mRun (mSx g) (f_X2_strongerTrumps g) P (74, [some (.inr (some 29)), some (.inl y), some (.inl s), some (.inl b), some (.inl (nI (8 * u + i)))], [], M)
  | 0, i, b, hi, hb => by
    refine v_sg_74_29 g M P y s b (nI (8 * u + i)) ⟨fun _ => hP b (fun j hj => ?_), fun z => absurd (by rw [e2, pk_mul, nI_add]; exact nI_le (by omega) (by omega)) z⟩
    rw [hb j hj]
    by_cases q : j / 8 = u
    · rw [decide_eq_true q, decide_eq_true (show j < 8 * u + i by omega)]
      simp
    · rw [decide_eq_false q]
      simp
  | n + 1, i, b, hi, hb => by
    have hstr : fStr (nI (8 * u + i)) (nI u) (nI h) = nI (sN true h (8 * u + i)) := by
      rw [fStr_N (nI u) (by omega) hh, show (8 * u + i) / 8 = u by omega]
      simp
    have hle := sN_le true h (8 * u + i)
    refine v_sg_74_29 g M P y s b (nI (8 * u + i)) ⟨fun z => absurd z (by rw [e2, pk_mul, nI_add]; exact nI_ge (by omega) (by omega)), fun _ => ?_⟩
    rw [e2, e3, hstr, nI_add]
    refine ⟨fun z => sg_b_29 g M P hu hh e2 e3 hP n (i + 1) b (by omega) (fun j hj => ?_), fun z => sg_b_29 g M P hu hh e2 e3 hP n (i + 1) _ (by omega) (fun j hj => ?_)⟩
    · rw [hb j hj]
      rw [fa_le, nI_toInt (by omega)] at z
      by_cases q : j = 8 * u + i
      · subst q
        rw [decide_eq_false (show ¬ s.toInt < (sN true h (8 * u + i) : Int) by omega)]
        simp
      · rw [show decide (j < 8 * u + i) = decide (j < 8 * u + (i + 1)) from decide_eq_decide.mpr (by omega)]
    · rw [fa_le, nI_toInt (by omega)] at z
      rw [bt_or, hb j hj, bt_fBit _ (by omega) j hj]
      by_cases q : j = 8 * u + i
      · subst q
        rw [decide_eq_true (show s.toInt < (sN true h (8 * u + i) : Int) by omega), decide_eq_true (show (8 * u + i) / 8 = u by omega), decide_eq_true (show 8 * u + i < 8 * u + (i + 1) by omega)]
        simp
      · rw [show decide (j < 8 * u + i) = decide (j < 8 * u + (i + 1)) from decide_eq_decide.mpr (by omega), decide_eq_false q]
        simp
theorem sg_a_29 (g : mG) (M : mM) (P : mP) {u h : Nat} {y : Int32} {cs : List Nat} (hu : u < 4) (hh : h < 4) (hl : cs.length ≤ 32) (e1 : M 29 7 = nI cs.length) (e2 : M 29 9 = nI u) (e3 : M 29 10 = nI h) (hc : ∀ c ∈ cs, c < 32) (e4 : ∀ j, j < cs.length → M 33 j = nI (aC cs j))
    (hP : ∀ v, (∀ j, j < 32 → bt v j = aSt (nI u) h cs j) → P (some (.inl v)) M) (f : Nat) (hf : f = cs.length - cs.length % 4) :
    ∀ (n k : Nat) (s : Int32) (l4 : Option mV), f + k + n = cs.length → s.toInt = aMx (nI u) h cs f k → mRun (mSx g) (f_X2_strongerTrumps g) P (9, [some (.inr (some 29)), some (.inl y), some (.inl s), some (.inl (nI (f + k))), l4], [], M)
  | 0, k, s, l4, hk, hs => by
    refine v_sg_9_29 g M P y s (nI (f + k)) l4 ⟨fun _ => ?_, fun z => absurd (by rw [e1]; exact nI_le (by omega) (by omega)) z⟩
    rw [e2, pk_mul]
    refine sg_b_29 g M P hu hh e2 e3 (fun v hv => hP v (fun j hj => ?_)) 8 0 (nI 0) rfl (fun j hj => ?_)
    · rw [hv j hj, hs, show k = cs.length % 4 by omega, hf]
      unfold aSt
      rw [show decide (j / 8 = u) = decide (nI (j / 8) = nI u) from decide_eq_decide.mpr (nI_eq (by omega) (by omega)).symm]
    · rw [show nI 0 = 0 from rfl, bt_0]
      by_cases q : j / 8 = u
      · rw [decide_eq_false (show ¬ j < 8 * u + 0 by omega)]
        simp
      · rw [decide_eq_false q]
        simp
  | n + 1, k, s, l4, hk, hs => by
    have hin : f + k < cs.length := by omega
    have hat : aAt (M 33) 32 (nI (f + k)) = nI (aC cs (f + k)) := by rw [aAt_in (by omega) (by decide)]; exact e4 _ hin
    have hc2 := hc _ (aC_in hin)
    have hle := sN_le true h (aC cs (f + k))
    have hdiv : nI (aC cs (f + k)) / nI 8 = nI (aC cs (f + k) / 8) := nI_div8 (by omega)
    refine v_sg_9_29 g M P y s (nI (f + k)) l4 ⟨fun z => absurd (by rw [e1] at z; exact z) (nI_ge (by omega) (by omega)), fun _ => ⟨n8, ?_⟩⟩
    rw [e2, e3, hat, hdiv, nI_add]
    refine ⟨fun z => sg_a_29 g M P hu hh hl e1 e2 e3 hc e4 hP f hf n (k + 1) s _ (by omega) ?_, fun z => ?_⟩
    · rw [hs, aMx, if_neg z]
    · have z' := Classical.not_not.mp z
      have hstr : fStr (nI (aC cs (f + k))) (nI u) (nI h) = nI (sN true h (aC cs (f + k))) := by
        rw [fStr_N (nI u) hc2 hh, z']
        simp
      rw [hstr]
      refine sg_a_29 g M P hu hh hl e1 e2 e3 hc e4 hP f hf n (k + 1) _ _ (by omega) ?_
      rw [aMx, if_pos z', ← hs]
      by_cases q : s < nI (sN true h (aC cs (f + k)))
      · rw [if_pos q]
        rw [fa_lt, nI_toInt (by omega)] at q
        rw [if_pos q, nI_toInt (by omega)]
      · rw [if_neg q]
        rw [fa_lt, nI_toInt (by omega)] at q
        rw [if_neg q]
theorem sg_run_29 (g : mG) (M : mM) (P : mP) {u h : Nat} {cs : List Nat} (hu : u < 4) (hh : h < 4) (hl : cs.length ≤ 32) (e1 : M 29 7 = nI cs.length) (e2 : M 29 9 = nI u) (e3 : M 29 10 = nI h) (hc : ∀ c ∈ cs, c < 32) (e4 : ∀ j, j < cs.length → M 33 j = nI (aC cs j))
    (hP : ∀ v, (∀ j, j < 32 → bt v j = aSt (nI u) h cs j) → P (some (.inl v)) M) : mRun (mSx g) (f_X2_strongerTrumps g) P (0, [some (.inr (some 29)), some (.inl (nI (cs.length % 4))), none, none, none], [], M) := by
  refine v_sg_0_29 g M P _ ?_
  rw [e1, pk_sub (Nat.mod_le _ _)]
  exact sg_a_29 g M P hu hh hl e1 e2 e3 hc e4 hP _ rfl (cs.length % 4) 0 (-1) none (by have := Nat.mod_le cs.length 4; omega) (show ((-1 : Int32)).toInt = -1 by decide)
theorem run_X2_strongerTrumps : mRunOf 5 t_X2_strongerTrumps f_X2_strongerTrumps := fun g as M P hT => by
  obtain ⟨⟨c, u, h, cs⟩, ⟨h1, rfl, h3, h4, h5, h6, h7, h8, h9, h10⟩, hP⟩ := hT
  refine ⟨Nat.le_of_ble_eq_true rfl, ?_⟩
  dsimp only at h1 h3 h4 h5 h6 h7 h8 h9 h10
  rcases pl_two h1 with rfl | rfl
  · exact sg_run_16 g M P h3 h4 h5 h6 h7 h8 h9 h10 (fun v hv => hP _ _ ⟨hv, rfl⟩)
  · exact sg_run_29 g M P h3 h4 h5 h6 h7 h8 h9 h10 (fun v hv => hP _ _ ⟨hv, rfl⟩)
theorem ok_X2_strongerTrumps : mOK yX2_strongerTrumps cX2_strongerTrumps 5 (some .int) 2 t_X2_strongerTrumps := mOK.of f_X2_strongerTrumps (by decide) (fun _ => rfl) (fun g => mCodeOK kk_X2_strongerTrumps) (fun g => mFldL fk_RX2 rfl) (fun g idx v h => by cases h) (fun g idx v h => by cases h) (mCalL (l := l_X2_strongerTrumps) (List.forall_mem_cons.mpr ⟨mSite.SN (idx := 56) ok_X7_at (by decide) (by decide) wc_X7_at wm_RX2_56 wt_X7_at wn_RX7 wd_X7_at, List.forall_mem_cons.mpr ⟨mSite.SN (idx := 89) ok_X7_strengthOf (by decide) (by decide) wc_X7_strengthOf wm_RX2_89 wt_X7_strengthOf wn_RX7 wd_X7_strengthOf, List.forall_mem_cons.mpr ⟨mSite.max (idx := 93) (by decide) wc_J9_max_7cf53 wk_RX2_93 wt_J9_max_7cf53 wn_RJ9, List.forall_mem_cons.mpr ⟨mSite.SN (idx := 60) ok_X7_bitOf (by decide) (by decide) wc_X7_bitOf wm_RX2_60 wt_X7_bitOf wn_RX7 wd_X7_bitOf, fun _ h => absurd h List.not_mem_nil⟩⟩⟩⟩) (fun _ => rfl)) run_X2_strongerTrumps
end
section
/-! ===== CLASS Play: allowed ===== -/
abbrev aP : Type := aX × (Nat → Int32) × Int32 × Int32 × List Nat
def RpS (p : Nat) (M : mM) (a : aP) : Prop := RpP p M a.1 a.2.1 a.2.2.1 a.2.2.2.1 a.2.2.2.2
def aOkS (a : aP) : Prop := aOk a.1 a.2.1 a.2.2.2.2
/-- the set of the numbers below k that f has -/
def aBs (f : Nat → Bool) : Nat → Int32
  | 0 => 0
  | k + 1 => if f k then aBs f k ||| fBit (nI k) else aBs f k
theorem bt_aBs {f : Nat → Bool} {j : Nat} (hj : j < 32) : ∀ {k : Nat}, k ≤ 32 → bt (aBs f k) j = (decide (j < k) && f j)
  | 0, _ => by
    rw [aBs, bt_0]
    simp
  | k + 1, hk => by
    rw [aBs]
    by_cases q : j = k
    · subst q
      rw [decide_eq_true (show j < j + 1 by omega)]
      split
      · rename_i hf
        rw [bt_or, bt_fBit j hj j hj, hf]
        simp
      · rename_i hf
        rw [bt_aBs hj (by omega), decide_eq_false (show ¬ j < j by omega)]
        simp
        simpa using hf
    · have e : decide (j < k + 1) = decide (j < k) := decide_eq_decide.mpr (by omega)
      rw [e]
      split
      · rw [bt_or, bt_aBs hj (by omega), bt_fBit k (by omega) j hj, decide_eq_false q]
        simp
      · rw [bt_aBs hj (by omega)]
def aAl (x : aX) (dl : Nat → Int32) (cs : List Nat) : Int32 :=
  if cs.length % 4 = 0 then aHd dl cs (aTn x cs cs.length)
  else if aHd dl cs (aTn x cs cs.length) &&& fSuit (nI (aC cs (cs.length - cs.length % 4) / 8)) ≠ 0 then aHd dl cs (aTn x cs cs.length) &&& fSuit (nI (aC cs (cs.length - cs.length % 4) / 8))
  else if x.2.2.1 = 0 ∨ aHd dl cs (aTn x cs cs.length) &&& fSuit x.1 = 0 then aHd dl cs (aTn x cs cs.length)
  else if x.2.2.1 = nI 2 ∧ (aHd dl cs (aTn x cs cs.length) &&& fSuit x.1) &&& aBs (aSt x.1 x.2.1 cs) 32 ≠ 0 then (aHd dl cs (aTn x cs cs.length) &&& fSuit x.1) &&& aBs (aSt x.1 x.2.1 cs) 32
  else aHd dl cs (aTn x cs cs.length) &&& fSuit x.1
theorem fSuit_of {h t : Int32} (hn : h &&& fSuit t ≠ 0) : ∃ u, u < 4 ∧ t = nI u := by
  unfold fSuit at hn
  split at hn
  · rename_i q
    obtain ⟨j, hj, rfl⟩ := nI_of (show ¬ t < 0 by rw [Int32.not_lt]; exact q.1)
    refine ⟨j, ?_, rfl⟩
    have := q.2
    rw [fa_lt, nI_toInt hj, nI_toInt (by decide)] at this
    omega
  · exact absurd (by rw [show nI 0 = 0 from rfl]; refine bt_ext (fun i _ => ?_); rw [bt_and, bt_0]; simp) hn
def pre_X2_allowed (q : Nat × aP) (as : List mV) (M : mM) : Prop := pl_X2 q.1 = true ∧ as = [.inr (some q.1)] ∧ RpS q.1 M q.2 ∧ aOkS q.2
def post_X2_allowed (q : Nat × aP) (_ : List mV) (M : mM) (v : Int32) (M' : mM) : Prop := v = aAl q.2.1 q.2.2.1 q.2.2.2.2.2 ∧ M' = M
abbrev t_X2_allowed : mG → mT := mRi pre_X2_allowed post_X2_allowed
theorem mo_X2_allowed : mMn t_X2_allowed := mRi_mono
theorem rv_X2_allowed : mHasR yX2_allowed 0 t_X2_allowed := by
  intro g as M P hT hl
  obtain ⟨q, ⟨h1, h2, -⟩, -⟩ := hT
  exact ⟨_, _, h2, is_X2 g _ h1⟩
def k_X2_allowed : List (Nat × mI) := [(0, .aload_n 0, 1, 0, 0, []),
  (1, .getfield 18, 3, 0, 0, []),
  (4, .aload_n 0, 1, 0, 0, []),
  (5, .getfield 67, 3, 0, 0, []),
  (8, .invokestatic 56, 3, 0, 0, []),
  (11, .istore_n 1, 1, 1, 0, []),
  (12, .aload_n 0, 1, 0, 0, []),
  (13, .getfield 37, 3, 0, 0, []),
  (16, .iconst 4, 1, 0, nI 4, []),
  (17, .irem, 1, 0, 0, []),
  (18, .istore_n 2, 1, 2, 0, []),
  (19, .iload_n 2, 1, 2, 0, []),
  (20, .ifCond .ne 5, 3, 25, 0, []),
  (23, .iload_n 1, 1, 1, 0, []),
  (24, .ireturn, 1, 0, 0, []),
  (25, .iload_n 1, 1, 1, 0, []),
  (26, .aload_n 0, 1, 0, 0, []),
  (27, .getfield 21, 3, 0, 0, []),
  (30, .aload_n 0, 1, 0, 0, []),
  (31, .getfield 37, 3, 0, 0, []),
  (34, .iload_n 2, 1, 2, 0, []),
  (35, .isub, 1, 0, 0, []),
  (36, .invokestatic 56, 3, 0, 0, []),
  (39, .bipush 8, 2, 0, nI 8, []),
  (41, .idiv, 1, 0, 0, []),
  (42, .invokestatic 83, 3, 0, 0, []),
  (45, .iand, 1, 0, 0, []),
  (46, .istore_n 3, 1, 3, 0, []),
  (47, .iload_n 3, 1, 3, 0, []),
  (48, .ifCond .eq 5, 3, 53, 0, []),
  (51, .iload_n 3, 1, 3, 0, []),
  (52, .ireturn, 1, 0, 0, []),
  (53, .iload_n 1, 1, 1, 0, []),
  (54, .aload_n 0, 1, 0, 0, []),
  (55, .getfield 70, 3, 0, 0, []),
  (58, .invokestatic 83, 3, 0, 0, []),
  (61, .iand, 1, 0, 0, []),
  (62, .istore 4, 2, 4, 0, []),
  (64, .aload_n 0, 1, 0, 0, []),
  (65, .getfield 76, 3, 0, 0, []),
  (68, .ifCond .eq 8, 3, 76, 0, []),
  (71, .iload 4, 2, 4, 0, []),
  (73, .ifCond .ne 5, 3, 78, 0, []),
  (76, .iload_n 1, 1, 1, 0, []),
  (77, .ireturn, 1, 0, 0, []),
  (78, .aload_n 0, 1, 0, 0, []),
  (79, .getfield 76, 3, 0, 0, []),
  (82, .iconst 2, 1, 0, nI 2, []),
  (83, .if_icmp .ne 14, 3, 97, 0, []),
  (86, .iload 4, 2, 4, 0, []),
  (88, .aload_n 0, 1, 0, 0, []),
  (89, .iload_n 2, 1, 2, 0, []),
  (90, .invokevirtual 86, 3, 0, 0, []),
  (93, .iand, 1, 0, 0, []),
  (94, .goto 5, 3, 99, 0, []),
  (97, .iload 4, 2, 4, 0, []),
  (99, .istore 5, 2, 5, 0, []),
  (101, .iload 5, 2, 5, 0, []),
  (103, .ifCond .eq 8, 3, 111, 0, []),
  (106, .iload 5, 2, 5, 0, []),
  (108, .goto 5, 3, 113, 0, []),
  (111, .iload 4, 2, 4, 0, []),
  (113, .ireturn, 1, 0, 0, [])]
theorem kk_X2_allowed : (k_X2_allowed.all fun e => mChk cX2_allowed e.1 e.2) = true := by decide +kernel
def l_X2_allowed : List (Nat × Nat × (mG → mT)) := [(3 * 56 + 1, 2, t_X7_at), (3 * 83 + 1, 1, t_X7_bitsOfSuit), (3 * 86, 1 + 1, t_X2_strongerTrumps)]
def f_X2_allowed (g : mG) : mF := (mLk k_X2_allowed, mLk fl_RX2, mLk (l_X2_allowed.map fun e => (e.1, e.2.1, e.2.2 g)), mLk ([] : List (Nat × mV)), mLk ([] : List (Nat × mV)), some .int)
theorem m_X2_allowed (g : mG) : mMono (f_X2_allowed g) := mMonoL (g := g) (l := l_X2_allowed) (List.forall_mem_cons.mpr ⟨mo_X7_at, List.forall_mem_cons.mpr ⟨mo_X7_bitsOfSuit, List.forall_mem_cons.mpr ⟨mo_X2_strongerTrumps, fun _ h => absurd h List.not_mem_nil⟩⟩⟩) rfl

set_option maxRecDepth 100000 in
theorem v_al_16 (g : mG) (M : mM) (P : mP) 
    (h : ¬ (nI 4) = 0 ∧ ((¬ ((M 16 7) - (M 16 7) / (nI 4) * (nI 4)) = 0 → ¬ (nI 8) = 0 ∧ (let v1 : Int32 := (aAt (M 19) 4 (M 16 8)) &&& (fSuit ((aAt (M 20) 32 ((M 16 7) - ((M 16 7) - (M 16 7) / (nI 4) * (nI 4)))) / (nI 8))); (v1 = 0 → let v2 : Int32 := (aAt (M 19) 4 (M 16 8)) &&& (fSuit (M 16 9)); ((M 16 11) = 0 → P (some (.inl (aAt (M 19) 4 (M 16 8)))) M) ∧ (¬ (M 16 11) = 0 → (¬ v2 = 0 → (¬ (M 16 11) = (nI 2) → (v2 = 0 → P (some (.inl v2)) M) ∧ (¬ v2 = 0 → P (some (.inl v2)) M)) ∧ (¬ (¬ (M 16 11) = (nI 2)) → ∃ x3 : Nat × Nat × Nat × List Nat, pre_X2_strongerTrumps x3 [.inr (some 16), .inl ((M 16 7) - (M 16 7) / (nI 4) * (nI 4))] M ∧ ∀ (r5 : Int32) (M4 : mM), post_X2_strongerTrumps x3 [.inr (some 16), .inl ((M 16 7) - (M 16 7) / (nI 4) * (nI 4))] M r5 M4 → (((v2 &&& r5) = 0 → P (some (.inl v2)) M4) ∧ (¬ (v2 &&& r5) = 0 → P (some (.inl (v2 &&& r5))) M4)))) ∧ (¬ (¬ v2 = 0) → P (some (.inl (aAt (M 19) 4 (M 16 8)))) M))) ∧ (¬ v1 = 0 → P (some (.inl v1)) M))) ∧ (¬ (¬ ((M 16 7) - (M 16 7) / (nI 4) * (nI 4)) = 0) → P (some (.inl (aAt (M 19) 4 (M 16 8)))) M))) :
    mRun (mSx g) (f_X2_allowed g) P (0, [some (.inr (some 16)), none, none, none, none, none], [], M) := mRun.vc (m_X2_allowed g) [] 55 h

set_option maxRecDepth 100000 in
theorem v_al_29 (g : mG) (M : mM) (P : mP) 
    (h : ¬ (nI 4) = 0 ∧ ((¬ ((M 29 7) - (M 29 7) / (nI 4) * (nI 4)) = 0 → ¬ (nI 8) = 0 ∧ (let v1 : Int32 := (aAt (M 32) 4 (M 29 8)) &&& (fSuit ((aAt (M 33) 32 ((M 29 7) - ((M 29 7) - (M 29 7) / (nI 4) * (nI 4)))) / (nI 8))); (v1 = 0 → let v2 : Int32 := (aAt (M 32) 4 (M 29 8)) &&& (fSuit (M 29 9)); ((M 29 11) = 0 → P (some (.inl (aAt (M 32) 4 (M 29 8)))) M) ∧ (¬ (M 29 11) = 0 → (¬ v2 = 0 → (¬ (M 29 11) = (nI 2) → (v2 = 0 → P (some (.inl v2)) M) ∧ (¬ v2 = 0 → P (some (.inl v2)) M)) ∧ (¬ (¬ (M 29 11) = (nI 2)) → ∃ x3 : Nat × Nat × Nat × List Nat, pre_X2_strongerTrumps x3 [.inr (some 29), .inl ((M 29 7) - (M 29 7) / (nI 4) * (nI 4))] M ∧ ∀ (r5 : Int32) (M4 : mM), post_X2_strongerTrumps x3 [.inr (some 29), .inl ((M 29 7) - (M 29 7) / (nI 4) * (nI 4))] M r5 M4 → (((v2 &&& r5) = 0 → P (some (.inl v2)) M4) ∧ (¬ (v2 &&& r5) = 0 → P (some (.inl (v2 &&& r5))) M4)))) ∧ (¬ (¬ v2 = 0) → P (some (.inl (aAt (M 32) 4 (M 29 8)))) M))) ∧ (¬ v1 = 0 → P (some (.inl v1)) M))) ∧ (¬ (¬ ((M 29 7) - (M 29 7) / (nI 4) * (nI 4)) = 0) → P (some (.inl (aAt (M 32) 4 (M 29 8)))) M))) :
    mRun (mSx g) (f_X2_allowed g) P (0, [some (.inr (some 29)), none, none, none, none, none], [], M) := mRun.vc (m_X2_allowed g) [] 55 h

set_option maxHeartbeats 4000000 in
theorem al_run_16 (g : mG) (M : mM) (P : mP) (x : aX) (dl : Nat → Int32) (a0 a1 : Int32) (cs : List Nat) (hR : RpP 16 M x dl a0 a1 cs) (hok : aOk x dl cs)
    (hP : P (some (.inl (aAl x dl cs))) M) : mRun (mSx g) (f_X2_allowed g) P (0, [some (.inr (some 16)), none, none, none, none, none], [], M) := by
  obtain ⟨⟨r1, r2, r3, r4, r5⟩, r6, r7, r8, r9, r10, r11, r12⟩ := hR
  have hlt := aOk.lt hok
  obtain ⟨k1, k2, k3, k4, k5⟩ := hok
  have e1 : aAt (M 19) 4 (M 16 8) = aHd dl cs (aTn x cs cs.length) := by rw [r2, aAt_in aTn_lt (by decide)]; exact r8 _ aTn_lt
  have e2 : M 16 7 - M 16 7 / nI 4 * nI 4 = nI (cs.length % 4) := by rw [r1]; exact nI_mod4 (by omega)
  refine v_al_16 g M P ⟨n4, ?_⟩
  rw [e1, e2]
  generalize hH : aHd dl cs (aTn x cs cs.length) = hd at *
  have hz : ∀ n : Nat, n < 4 → (nI n = 0 ↔ n = 0) := fun n hn => ⟨fun z => (nI_eq (by omega) (by decide)).mp z, fun z => by rw [z]; rfl⟩
  have hm : cs.length % 4 < 4 := Nat.mod_lt _ (by decide)
  have al : aAl x dl cs = (if cs.length % 4 = 0 then hd else if hd &&& fSuit (nI (aC cs (cs.length - cs.length % 4) / 8)) ≠ 0 then hd &&& fSuit (nI (aC cs (cs.length - cs.length % 4) / 8)) else if x.2.2.1 = 0 ∨ hd &&& fSuit x.1 = 0 then hd else if x.2.2.1 = nI 2 ∧ (hd &&& fSuit x.1) &&& aBs (aSt x.1 x.2.1 cs) 32 ≠ 0 then (hd &&& fSuit x.1) &&& aBs (aSt x.1 x.2.1 cs) 32 else hd &&& fSuit x.1) := by
    unfold aAl
    rw [hH]
  rw [al] at hP
  refine ⟨fun h1 => ?_, fun h1 => ?_⟩
  · have h1' : ¬ cs.length % 4 = 0 := fun z => h1 ((hz _ hm).mpr z)
    rw [if_neg h1'] at hP
    have hin : cs.length - cs.length % 4 < cs.length := by omega
    have hcl := hlt _ (aC_in hin)
    have e3 : aAt (M 20) 32 (M 16 7 - nI (cs.length % 4)) / nI 8 = nI (aC cs (cs.length - cs.length % 4) / 8) := by
      rw [r1, pk_sub (by omega), aAt_in (by omega) (by decide), show M 20 (cs.length - cs.length % 4) = nI (aC cs (cs.length - cs.length % 4)) from r6 _ hin]
      exact nI_div8 (by omega)
    refine ⟨n8, ?_⟩
    rw [e3, r3, r5]
    generalize hd &&& fSuit (nI (aC cs (cs.length - cs.length % 4) / 8)) = fo at *
    refine ⟨fun h2 => ?_, fun h2 => ?_⟩
    · rw [if_neg (by simpa using h2)] at hP
      have two : ¬ hd &&& fSuit x.1 = 0 → ¬ x.2.2.1 = 0 → ∀ w, w = (if x.2.2.1 = nI 2 ∧ (hd &&& fSuit x.1) &&& aBs (aSt x.1 x.2.1 cs) 32 ≠ 0 then (hd &&& fSuit x.1) &&& aBs (aSt x.1 x.2.1 cs) 32 else hd &&& fSuit x.1) → P (some (.inl w)) M := fun z1 z2 w hw => by
        rw [if_neg (fun z => z.elim z2 z1)] at hP
        rw [hw]
        exact hP
      have one : (x.2.2.1 = 0 ∨ hd &&& fSuit x.1 = 0) → P (some (.inl hd)) M := fun z => by
        rw [if_pos z] at hP
        exact hP
      refine ⟨fun h3 => one (Or.inl h3), fun h3 => ⟨fun h4 => ?_, fun h4 => one (Or.inr (Classical.not_not.mp h4))⟩⟩
      have tw := two h4 h3
      refine ⟨fun h5 => ?_, fun h5 => ?_⟩
      · have := tw (hd &&& fSuit x.1) (by rw [if_neg (fun z => h5 z.1)])
        exact ⟨fun z => absurd z h4, fun _ => this⟩
      · have h5' := Classical.not_not.mp h5
        obtain ⟨u, hu, eu⟩ := fSuit_of h4
        refine ⟨(16, u, x.2.1, cs), ⟨rfl, rfl, hu, k1, k3, r1, by rw [← eu]; exact r3, r4, hlt, r6⟩, fun r M' hp => ?_⟩
        obtain ⟨hv, rfl⟩ := hp
        have er : r = aBs (aSt x.1 x.2.1 cs) 32 := bt_ext (fun j hj => by
          rw [hv j hj, bt_aBs hj (Nat.le_refl _), decide_eq_true hj, eu]
          simp)
        rw [er]
        refine ⟨fun z => ?_, fun z => ?_⟩
        · exact tw _ (by rw [if_neg (fun y => y.2 z)])
        · exact tw _ (by rw [if_pos ⟨h5', z⟩])
    · rw [if_pos h2] at hP
      exact hP
  · have h1' : cs.length % 4 = 0 := (hz _ hm).mp (Classical.not_not.mp h1)
    rw [if_pos h1'] at hP
    exact hP
set_option maxHeartbeats 4000000 in
theorem al_run_29 (g : mG) (M : mM) (P : mP) (x : aX) (dl : Nat → Int32) (a0 a1 : Int32) (cs : List Nat) (hR : RpP 29 M x dl a0 a1 cs) (hok : aOk x dl cs)
    (hP : P (some (.inl (aAl x dl cs))) M) : mRun (mSx g) (f_X2_allowed g) P (0, [some (.inr (some 29)), none, none, none, none, none], [], M) := by
  obtain ⟨⟨r1, r2, r3, r4, r5⟩, r6, r7, r8, r9, r10, r11, r12⟩ := hR
  have hlt := aOk.lt hok
  obtain ⟨k1, k2, k3, k4, k5⟩ := hok
  have e1 : aAt (M 32) 4 (M 29 8) = aHd dl cs (aTn x cs cs.length) := by rw [r2, aAt_in aTn_lt (by decide)]; exact r8 _ aTn_lt
  have e2 : M 29 7 - M 29 7 / nI 4 * nI 4 = nI (cs.length % 4) := by rw [r1]; exact nI_mod4 (by omega)
  refine v_al_29 g M P ⟨n4, ?_⟩
  rw [e1, e2]
  generalize hH : aHd dl cs (aTn x cs cs.length) = hd at *
  have hz : ∀ n : Nat, n < 4 → (nI n = 0 ↔ n = 0) := fun n hn => ⟨fun z => (nI_eq (by omega) (by decide)).mp z, fun z => by rw [z]; rfl⟩
  have hm : cs.length % 4 < 4 := Nat.mod_lt _ (by decide)
  have al : aAl x dl cs = (if cs.length % 4 = 0 then hd else if hd &&& fSuit (nI (aC cs (cs.length - cs.length % 4) / 8)) ≠ 0 then hd &&& fSuit (nI (aC cs (cs.length - cs.length % 4) / 8)) else if x.2.2.1 = 0 ∨ hd &&& fSuit x.1 = 0 then hd else if x.2.2.1 = nI 2 ∧ (hd &&& fSuit x.1) &&& aBs (aSt x.1 x.2.1 cs) 32 ≠ 0 then (hd &&& fSuit x.1) &&& aBs (aSt x.1 x.2.1 cs) 32 else hd &&& fSuit x.1) := by
    unfold aAl
    rw [hH]
  rw [al] at hP
  refine ⟨fun h1 => ?_, fun h1 => ?_⟩
  · have h1' : ¬ cs.length % 4 = 0 := fun z => h1 ((hz _ hm).mpr z)
    rw [if_neg h1'] at hP
    have hin : cs.length - cs.length % 4 < cs.length := by omega
    have hcl := hlt _ (aC_in hin)
    have e3 : aAt (M 33) 32 (M 29 7 - nI (cs.length % 4)) / nI 8 = nI (aC cs (cs.length - cs.length % 4) / 8) := by
      rw [r1, pk_sub (by omega), aAt_in (by omega) (by decide), show M 33 (cs.length - cs.length % 4) = nI (aC cs (cs.length - cs.length % 4)) from r6 _ hin]
      exact nI_div8 (by omega)
    refine ⟨n8, ?_⟩
    rw [e3, r3, r5]
    generalize hd &&& fSuit (nI (aC cs (cs.length - cs.length % 4) / 8)) = fo at *
    refine ⟨fun h2 => ?_, fun h2 => ?_⟩
    · rw [if_neg (by simpa using h2)] at hP
      have two : ¬ hd &&& fSuit x.1 = 0 → ¬ x.2.2.1 = 0 → ∀ w, w = (if x.2.2.1 = nI 2 ∧ (hd &&& fSuit x.1) &&& aBs (aSt x.1 x.2.1 cs) 32 ≠ 0 then (hd &&& fSuit x.1) &&& aBs (aSt x.1 x.2.1 cs) 32 else hd &&& fSuit x.1) → P (some (.inl w)) M := fun z1 z2 w hw => by
        rw [if_neg (fun z => z.elim z2 z1)] at hP
        rw [hw]
        exact hP
      have one : (x.2.2.1 = 0 ∨ hd &&& fSuit x.1 = 0) → P (some (.inl hd)) M := fun z => by
        rw [if_pos z] at hP
        exact hP
      refine ⟨fun h3 => one (Or.inl h3), fun h3 => ⟨fun h4 => ?_, fun h4 => one (Or.inr (Classical.not_not.mp h4))⟩⟩
      have tw := two h4 h3
      refine ⟨fun h5 => ?_, fun h5 => ?_⟩
      · have := tw (hd &&& fSuit x.1) (by rw [if_neg (fun z => h5 z.1)])
        exact ⟨fun z => absurd z h4, fun _ => this⟩
      · have h5' := Classical.not_not.mp h5
        obtain ⟨u, hu, eu⟩ := fSuit_of h4
        refine ⟨(29, u, x.2.1, cs), ⟨rfl, rfl, hu, k1, k3, r1, by rw [← eu]; exact r3, r4, hlt, r6⟩, fun r M' hp => ?_⟩
        obtain ⟨hv, rfl⟩ := hp
        have er : r = aBs (aSt x.1 x.2.1 cs) 32 := bt_ext (fun j hj => by
          rw [hv j hj, bt_aBs hj (Nat.le_refl _), decide_eq_true hj, eu]
          simp)
        rw [er]
        refine ⟨fun z => ?_, fun z => ?_⟩
        · exact tw _ (by rw [if_neg (fun y => y.2 z)])
        · exact tw _ (by rw [if_pos ⟨h5', z⟩])
    · rw [if_pos h2] at hP
      exact hP
  · have h1' : cs.length % 4 = 0 := (hz _ hm).mp (Classical.not_not.mp h1)
    rw [if_pos h1'] at hP
    exact hP
theorem run_X2_allowed : mRunOf 6 t_X2_allowed f_X2_allowed := fun g as M P hT => by
  obtain ⟨⟨c, x, dl, a0, a1, cs⟩, ⟨h1, rfl, h3, h4⟩, hP⟩ := hT
  refine ⟨Nat.le_of_ble_eq_true rfl, ?_⟩
  dsimp only at h1 h3 h4
  rcases pl_two h1 with rfl | rfl
  · exact al_run_16 g M P x dl a0 a1 cs h3 h4 (hP _ _ ⟨rfl, rfl⟩)
  · exact al_run_29 g M P x dl a0 a1 cs h3 h4 (hP _ _ ⟨rfl, rfl⟩)
theorem ok_X2_allowed : mOK yX2_allowed cX2_allowed 6 (some .int) 3 t_X2_allowed := mOK.of f_X2_allowed (by decide) (fun _ => rfl) (fun g => mCodeOK kk_X2_allowed) (fun g => mFldL fk_RX2 rfl) (fun g idx v h => by cases h) (fun g idx v h => by cases h) (mCalL (l := l_X2_allowed) (List.forall_mem_cons.mpr ⟨mSite.SN (idx := 56) ok_X7_at (by decide) (by decide) wc_X7_at wm_RX2_56 wt_X7_at wn_RX7 wd_X7_at, List.forall_mem_cons.mpr ⟨mSite.SN (idx := 83) ok_X7_bitsOfSuit (by decide) (by decide) wc_X7_bitsOfSuit wm_RX2_83 wt_X7_bitsOfSuit wn_RX7 wd_X7_bitsOfSuit, List.forall_mem_cons.mpr ⟨mSite.V (idx := 86) ok_X2_strongerTrumps (by decide) (by decide) rv_X2_strongerTrumps wc_X2_strongerTrumps wk_RX2_86 wi_X2_strongerTrumps wl_X2_strongerTrumps wn_RX2 wd_X2_strongerTrumps, fun _ h => absurd h List.not_mem_nil⟩⟩⟩) (fun _ => rfl)) run_X2_allowed
end
section
/-! ===== CLASS Play: a card is laid ===== -/
def FrP (p : Nat) (M M' : mM) : Prop := ∀ c, (c < p ∨ p + 7 < c) → M' c = M c
theorem aMk_in {dl : Nat → Int32} {cs : List Nat} {c q : Nat} (hlt : ∀ d ∈ cs, d < 32) (hc : c < 32) : aHd dl (cs ++ [c]) q = aHd dl cs q &&& (fBit (nI c) ^^^ (-1)) := by
  have hlt2 : ∀ d ∈ cs ++ [c], d < 32 := fun d hd => by
    rcases List.mem_append.mp hd with h | h
    · exact hlt d h
    · rw [List.mem_singleton] at h
      rw [h]
      exact hc
  refine bt_ext (fun i hi => ?_)
  rw [bt_aHd hlt2 hi, bt_and, bt_aHd hlt hi, bt_not hi, bt_fBit c hc i hi]
  simp only [List.mem_append, List.mem_singleton, Bool.decide_or, Bool.not_or]
  rw [Bool.and_assoc]
theorem aHd_other {dl : Nat → Int32} {cs : List Nat} {c q r : Nat} (hlt : ∀ d ∈ cs, d < 32) (hc : c < 32) (hd : aDl dl) (hr : r < 4) (hq : q < 4) (hb : bt (dl r) c = true) (hne : q ≠ r) : aHd dl (cs ++ [c]) q = aHd dl cs q := by
  rw [aMk_in hlt hc]
  refine bt_ext (fun i hi => ?_)
  rw [bt_and, bt_not hi, bt_fBit c hc i hi]
  by_cases e : i = c
  · subst e
    have : bt (dl q) i = false := by
      cases h : bt (dl q) i with
      | false => rfl
      | true => exact absurd (hd.1 q r i hq hr hc h hb) hne
    rw [bt_aHd hlt hi, this]
    simp
  · simp [e]
theorem aTn_new {x : aX} {cs : List Nat} {n : Nat} (h : (n + 1) % 4 ≠ 0) : aTn x cs (n + 1) = (aTn x cs n + 1) % 4 := by
  unfold aTn
  rw [show (n + 1) / 4 = n / 4 by omega, show (n + 1) % 4 = n % 4 + 1 by omega]
  omega
theorem aTn_0 {x : aX} {cs : List Nat} {n : Nat} (h : n % 4 = 0) (hl : x.2.2.2 < 4) : aTn x cs n = aLd x cs (n / 4) := by
  have := aLd_lt (x := x) (cs := cs) hl (n / 4)
  unfold aTn
  omega
theorem n_lt4 (q : Nat) (h : q < 4) : q = 0 ∨ q = 1 ∨ q = 2 ∨ q = 3 := by omega
def pre_X2_lay (q : Nat × aP × Nat) (as : List mV) (M : mM) : Prop := pl_X2 q.1 = true ∧ as = [.inr (some q.1), .inl (nI q.2.2)] ∧ RpS q.1 M q.2.1 ∧ aOkS q.2.1 ∧ q.2.1.2.2.2.2.length < 32 ∧ q.2.2 < 32 ∧ bt (aHd q.2.1.2.1 q.2.1.2.2.2.2 (aTn q.2.1.1 q.2.1.2.2.2.2 q.2.1.2.2.2.2.length)) q.2.2 = true
def post_X2_lay (q : Nat × aP × Nat) (_ : List mV) (M : mM) (M' : mM) : Prop := RpP q.1 M' q.2.1.1 q.2.1.2.1 q.2.1.2.2.1 q.2.1.2.2.2.1 (q.2.1.2.2.2.2 ++ [q.2.2]) ∧ FrP q.1 M M'
abbrev t_X2_lay : mG → mT := mRv pre_X2_lay post_X2_lay
theorem mo_X2_lay : mMn t_X2_lay := mRv_mono
theorem rv_X2_lay : mHasR yX2_lay 1 t_X2_lay := by
  intro g as M P hT hl
  obtain ⟨q, ⟨h1, h2, -⟩, -⟩ := hT
  exact ⟨_, _, h2, is_X2 g _ h1⟩
theorem mW1_c {M : mM} {c d k : Nat} {v : Int32} (h : d ≠ c) : mW1 M c k v d = M d := mUp_ne h
theorem mW1_k {M : mM} {c k j : Nat} {v : Int32} (h : j ≠ k) : mW1 M c k v c j = M c j := by
  unfold mW1
  rw [mUp_at]
  exact if_neg h
theorem mW1_s {M : mM} {c k : Nat} {v : Int32} : mW1 M c k v c k = v := by
  unfold mW1
  rw [mUp_at]
  exact if_pos rfl
theorem upd_s {f : Nat → Int32} {k : Nat} {v : Int32} : upd f k v k = v := if_pos rfl
theorem upd_n {f : Nat → Int32} {k j : Nat} {v : Int32} (h : j ≠ k) : upd f k v j = f j := if_neg h
def k_X2_lay : List (Nat × mI) := [(0, .aload_n 0, 1, 0, 0, []),
  (1, .getfield 37, 3, 0, 0, []),
  (4, .bipush 32, 2, 0, nI 32, []),
  (6, .if_icmp .ge 10, 3, 16, 0, []),
  (9, .iload_n 1, 1, 1, 0, []),
  (10, .invokestatic 99, 3, 0, 0, []),
  (13, .ifCond .ne 4, 3, 17, 0, []),
  (16, .return_, 1, 0, 0, []),
  (17, .aload_n 0, 1, 0, 0, []),
  (18, .invokevirtual 79, 3, 0, 0, []),
  (21, .istore_n 2, 1, 2, 0, []),
  (22, .aload_n 0, 1, 0, 0, []),
  (23, .getfield 37, 3, 0, 0, []),
  (26, .iconst 4, 1, 0, nI 4, []),
  (27, .irem, 1, 0, 0, []),
  (28, .ifCond .ne 15, 3, 43, 0, []),
  (31, .aload_n 0, 1, 0, 0, []),
  (32, .getfield 24, 3, 0, 0, []),
  (35, .iload_n 2, 1, 2, 0, []),
  (36, .aload_n 0, 1, 0, 0, []),
  (37, .getfield 67, 3, 0, 0, []),
  (40, .invokestatic 48, 3, 0, 0, []),
  (43, .aload_n 0, 1, 0, 0, []),
  (44, .getfield 18, 3, 0, 0, []),
  (47, .aload_n 0, 1, 0, 0, []),
  (48, .getfield 67, 3, 0, 0, []),
  (51, .aload_n 0, 1, 0, 0, []),
  (52, .getfield 18, 3, 0, 0, []),
  (55, .aload_n 0, 1, 0, 0, []),
  (56, .getfield 67, 3, 0, 0, []),
  (59, .invokestatic 56, 3, 0, 0, []),
  (62, .iload_n 1, 1, 1, 0, []),
  (63, .invokestatic 60, 3, 0, 0, []),
  (66, .iconst (-1), 1, 0, -1, []),
  (67, .ixor, 1, 0, 0, []),
  (68, .iand, 1, 0, 0, []),
  (69, .invokestatic 48, 3, 0, 0, []),
  (72, .aload_n 0, 1, 0, 0, []),
  (73, .getfield 21, 3, 0, 0, []),
  (76, .aload_n 0, 1, 0, 0, []),
  (77, .getfield 37, 3, 0, 0, []),
  (80, .iload_n 1, 1, 1, 0, []),
  (81, .invokestatic 48, 3, 0, 0, []),
  (84, .aload_n 0, 1, 0, 0, []),
  (85, .dup, 1, 0, 0, []),
  (86, .getfield 37, 3, 0, 0, []),
  (89, .iconst 1, 1, 0, nI 1, []),
  (90, .iadd, 1, 0, 0, []),
  (91, .putfield 37, 3, 0, 0, []),
  (94, .aload_n 0, 1, 0, 0, []),
  (95, .getfield 37, 3, 0, 0, []),
  (98, .iconst 4, 1, 0, nI 4, []),
  (99, .irem, 1, 0, 0, []),
  (100, .ifCond .eq 16, 3, 116, 0, []),
  (103, .aload_n 0, 1, 0, 0, []),
  (104, .aload_n 0, 1, 0, 0, []),
  (105, .getfield 67, 3, 0, 0, []),
  (108, .iconst 1, 1, 0, nI 1, []),
  (109, .iadd, 1, 0, 0, []),
  (110, .iconst 3, 1, 0, nI 3, []),
  (111, .iand, 1, 0, 0, []),
  (112, .putfield 67, 3, 0, 0, []),
  (115, .return_, 1, 0, 0, []),
  (116, .aload_n 0, 1, 0, 0, []),
  (117, .iload_n 2, 1, 2, 0, []),
  (118, .aload_n 0, 1, 0, 0, []),
  (119, .getfield 70, 3, 0, 0, []),
  (122, .aload_n 0, 1, 0, 0, []),
  (123, .getfield 73, 3, 0, 0, []),
  (126, .invokevirtual 103, 3, 0, 0, []),
  (129, .istore_n 3, 1, 3, 0, []),
  (130, .aload_n 0, 1, 0, 0, []),
  (131, .getfield 27, 3, 0, 0, []),
  (134, .iload_n 2, 1, 2, 0, []),
  (135, .iload_n 3, 1, 3, 0, []),
  (136, .invokestatic 48, 3, 0, 0, []),
  (139, .aload_n 0, 1, 0, 0, []),
  (140, .iload_n 3, 1, 3, 0, []),
  (141, .iconst 1, 1, 0, nI 1, []),
  (142, .iand, 1, 0, 0, []),
  (143, .iconst 1, 1, 0, nI 1, []),
  (144, .invokevirtual 106, 3, 0, 0, []),
  (147, .aload_n 0, 1, 0, 0, []),
  (148, .iload_n 3, 1, 3, 0, []),
  (149, .putfield 67, 3, 0, 0, []),
  (152, .return_, 1, 0, 0, [])]
theorem kk_X2_lay : (k_X2_lay.all fun e => mChk cX2_lay e.1 e.2) = true := by decide +kernel
def l_X2_lay : List (Nat × Nat × (mG → mT)) := [(3 * 99 + 1, 1, t_X7_isCard), (3 * 79, 0 + 1, t_X2_full), (3 * 48 + 1, 3, t_X7_set), (3 * 56 + 1, 2, t_X7_at), (3 * 60 + 1, 1, t_X7_bitOf), (3 * 103, 3 + 1, t_X2_winnerOf), (3 * 106, 2 + 1, t_X2_addWon)]
def f_X2_lay (g : mG) : mF := (mLk k_X2_lay, mLk fl_RX2, mLk (l_X2_lay.map fun e => (e.1, e.2.1, e.2.2 g)), mLk ([] : List (Nat × mV)), mLk ([] : List (Nat × mV)), none)
theorem m_X2_lay (g : mG) : mMono (f_X2_lay g) := mMonoL (g := g) (l := l_X2_lay) (List.forall_mem_cons.mpr ⟨mo_X7_isCard, List.forall_mem_cons.mpr ⟨mo_X2_full, List.forall_mem_cons.mpr ⟨mo_X7_set, List.forall_mem_cons.mpr ⟨mo_X7_at, List.forall_mem_cons.mpr ⟨mo_X7_bitOf, List.forall_mem_cons.mpr ⟨mo_X2_winnerOf, List.forall_mem_cons.mpr ⟨mo_X2_addWon, fun _ h => absurd h List.not_mem_nil⟩⟩⟩⟩⟩⟩⟩) rfl

theorem v_lay_0_16 (g : mG) (M : mM) (P : mP) (z : Int32)
    (h : ((nI 32) ≤ (M 16 7) → P none M) ∧ (¬ (nI 32) ≤ (M 16 7) → (¬ (fCard z) = 0 → ¬ (nI 4) = 0 ∧ ((¬ (nI 4) = 0 ∧ ((¬ ((M 16 7) - (M 16 7) / (nI 4) * (nI 4)) = 0 → mRun (mSx g) (f_X2_lay g) P (43, [some (.inr (some 16)), some (.inl z), some (.inl ((M 16 7) / (nI 4))), none], [], M)) ∧ (¬ (¬ ((M 16 7) - (M 16 7) / (nI 4) * (nI 4)) = 0) → let M1 : mM := mUp M 21 (aSet (M 21) 8 ((M 16 7) / (nI 4)) (M 16 8)); mRun (mSx g) (f_X2_lay g) P (43, [some (.inr (some 16)), some (.inl z), some (.inl ((M 16 7) / (nI 4))), none], [], M1)))))) ∧ (¬ (¬ (fCard z) = 0) → P none M))) :
    mRun (mSx g) (f_X2_lay g) P (0, [some (.inr (some 16)), some (.inl z), none, none], [], M) := mRun.vc (m_X2_lay g) [43] 22 h

set_option maxRecDepth 100000 in
theorem v_lay_43_16 (g : mG) (M : mM) (P : mP) (z i : Int32)
    (h : let M1 : mM := mUp M 19 (aSet (M 19) 4 (M 16 8) ((aAt (M 19) 4 (M 16 8)) &&& ((fBit z) ^^^ (-1)))); let M2 : mM := mUp M1 20 (aSet (M 20) 32 (M 16 7) z); let M3 : mM := mW1 M2 16 7 ((M 16 7) + (nI 1)); ¬ (nI 4) = 0 ∧ (((((M 16 7) + (nI 1)) - ((M 16 7) + (nI 1)) / (nI 4) * (nI 4)) = 0 → ∃ x4 : Nat × Nat × Int32 × Nat × List Nat × Nat, pre_X2_winnerOf x4 [.inr (some 16), .inl i, .inl (M 16 9), .inl (M 16 10)] M3 ∧ ∀ (r6 : Int32) (M5 : mM), post_X2_winnerOf x4 [.inr (some 16), .inl i, .inl (M 16 9), .inl (M 16 10)] M3 r6 M5 → (let M7 : mM := mUp M5 22 (aSet (M5 22) 8 i r6); let M8 : mM := mUp M7 23 (aSet (M5 23) 2 (r6 &&& (nI 1)) ((aAt (M5 23) 2 (r6 &&& (nI 1))) + (nI 1))); let M9 : mM := mW1 M8 16 8 r6; P none M9)) ∧ (¬ (((M 16 7) + (nI 1)) - ((M 16 7) + (nI 1)) / (nI 4) * (nI 4)) = 0 → let M10 : mM := mW1 M3 16 8 (((M 16 8) + (nI 1)) &&& (nI 3)); P none M10))) :
    mRun (mSx g) (f_X2_lay g) P (43, [some (.inr (some 16)), some (.inl z), some (.inl i), none], [], M) := mRun.vc (m_X2_lay g) [] 55 h

set_option maxHeartbeats 4000000 in
theorem lay_b_16 (g : mG) (M : mM) (P : mP) (x : aX) (dl : Nat → Int32) (a0 a1 : Int32) (cs : List Nat) (c : Nat) (hR : RpP 16 M x dl a0 a1 cs) (hL : ∀ i, 4 * i < cs.length + 1 → M 21 i = nI (aLd x cs i)) (hok : aOk x dl cs) (hn : cs.length < 32) (hc : c < 32) (hb : bt (aHd dl cs (aTn x cs cs.length)) c = true)
    (hP : ∀ M', RpP 16 M' x dl a0 a1 (cs ++ [c]) → FrP 16 M M' → P none M') : mRun (mSx g) (f_X2_lay g) P (43, [some (.inr (some 16)), some (.inl (nI c)), some (.inl (nI (cs.length / 4))), none], [], M) := by
  have hok2 := hok.add hn hc hb
  obtain ⟨⟨r1, r2, r3, r4, r5⟩, r6, r7, r8, r9, r10, r11, r12⟩ := hR
  have hlt := aOk.lt hok
  have hbc : bt (dl (aTn x cs cs.length)) c = true := (hok2.old).2.2.1
  obtain ⟨k1, k2, k3, k4, k5⟩ := hok
  generalize hnn : cs.length = n at *
  have hlen : (cs ++ [c]).length = n + 1 := by rw [List.length_append, List.length_singleton, hnn]
  have e0 : M 16 7 + nI 1 = nI (n + 1) := by rw [r1, nI_add]
  have e1 : M 16 7 + nI 1 - (M 16 7 + nI 1) / nI 4 * nI 4 = nI ((n + 1) % 4) := by rw [e0]; exact nI_mod4 (by omega)
  refine v_lay_43_16 g M P (nI c) (nI (n / 4)) ?_
  intro M1 M2 M3
  have q7 : M3 16 7 = nI (n + 1) := e0
  have q9 : M3 16 9 = x.1 := r3
  have q10 : M3 16 10 = nI x.2.1 := r4
  have q11 : M3 16 11 = x.2.2.1 := r5
  have qpl : ∀ j, j < n + 1 → M3 20 j = nI (aC (cs ++ [c]) j) := fun j hj => by
    show aSet (M 20) 32 (M 16 7) (nI c) j = _
    rw [r1, aSet_in hn (by decide)]
    by_cases e : j = n
    · subst e
      rw [upd_s, ← hnn, aC_new]
    · rw [upd_n e, aC_old (by omega)]
      exact r6 j (by omega)
  have qdl : ∀ q, q < 4 → M3 18 q = dl q := r7
  have qhd : ∀ q, q < 4 → M3 19 q = aHd dl (cs ++ [c]) q := fun q hq => by
    show aSet (M 19) 4 (M 16 8) (aAt (M 19) 4 (M 16 8) &&& (fBit (nI c) ^^^ (-1))) q = _
    rw [r2, aAt_in aTn_lt (by decide), aSet_in aTn_lt (by decide)]
    by_cases e : q = aTn x cs n
    · rw [e, upd_s, aMk_in hlt hc]
      exact congrArg (fun z => z &&& (fBit (nI c) ^^^ (-1))) (r8 _ aTn_lt)
    · rw [upd_n e, aHd_other hlt hc k4 aTn_lt hq hbc e]
      exact r8 q hq
  have qld : ∀ i, 4 * i < n + 1 → M3 21 i = nI (aLd x (cs ++ [c]) i) := fun i hi => by
    rw [aLd_old (by omega)]
    exact hL i hi
  have qfr : FrP 16 M M3 := fun d hd => by
    show mUp (mUp (mUp M 19 _) 20 _) 16 _ d = M d
    rw [mUp_ne (by omega), mUp_ne (by omega), mUp_ne (by omega)]
  have qfr' : ∀ d, d ≠ 16 → d ≠ 19 → d ≠ 20 → M3 d = M d := fun d h1 h2 h3 => by
    show mUp (mUp (mUp M 19 _) 20 _) 16 _ d = M d
    rw [mUp_ne h1, mUp_ne h3, mUp_ne h2]
  rw [e1]
  refine ⟨n4, fun hz => ?_, fun hz => ?_⟩
  · have hz' : (n + 1) % 4 = 0 := (nI_eq (by omega) (by decide)).mp hz
    refine ⟨(16, n / 4, x.1, x.2.1, cs ++ [c], aLd x cs (n / 4)), ⟨rfl, by rw [r3, r4], by show n / 4 < 8; omega, k1, by show 4 * (n / 4) + 4 ≤ (cs ++ [c]).length; omega, aLd_lt k2 _, fun j hj => ⟨qpl _ (by show 4 * (n / 4) + j < n + 1; omega), aOk.lt hok2 _ (aC_in (by show 4 * (n / 4) + j < (cs ++ [c]).length; omega))⟩, ?_⟩, fun r M5 hp => ?_⟩
    · exact (qld _ (by show 4 * (n / 4) < n + 1; omega)).trans (by rw [aLd_old (by show 4 * (n / 4) ≤ cs.length; omega)])
    · obtain ⟨hv, rfl⟩ := hp
      have hr : r = nI (aLd x (cs ++ [c]) (n / 4 + 1)) := by
        rw [hv, aLd, aLd_old (by omega)]
      have hw4 : aLd x (cs ++ [c]) (n / 4 + 1) < 4 := aLd_lt k2 _
      have hside : r &&& nI 1 = nI (aLd x (cs ++ [c]) (n / 4 + 1) % 2) := by rw [hr]; exact nI_and1 _ (by omega)
      intro M7 M8 M9
      have w0 : M 23 0 = nI (aWn x cs 0 (n / 4)) + a0 := r11
      have w1 : M 23 1 = nI (aWn x cs 1 (n / 4)) + a1 := r12
      have hwon : ∀ s, s < 2 → M9 23 s = if aLd x (cs ++ [c]) (n / 4 + 1) % 2 = s then M 23 s + nI 1 else M 23 s := fun s hs => by
        show aSet (M 23) 2 (r &&& nI 1) (aAt (M 23) 2 (r &&& nI 1) + nI 1) s = _
        rw [hside, aAt_in (by omega) (by decide), aSet_in (by omega) (by decide)]
        by_cases e : s = aLd x (cs ++ [c]) (n / 4 + 1) % 2
        · subst e
          rw [upd_s, if_pos rfl]
        · rw [upd_n e, if_neg (fun z => e z.symm)]
      have add1 : ∀ (k : Nat) (z : Int32), nI k + z + nI 1 = nI (k + 1) + z := fun k z => by
        rw [← nI_add, Int32.add_assoc, Int32.add_comm z, ← Int32.add_assoc]
      have f9 : ∀ d, d ≠ 16 → d ≠ 22 → d ≠ 23 → M9 d = M3 d := fun d h1 h2 h3 => by
        show mW1 (mUp (mUp M3 22 _) 23 _) 16 8 _ d = _
        rw [mW1_c h1, mUp_ne h3, mUp_ne h2]
      have g9 : ∀ k, k ≠ 8 → M9 16 k = M3 16 k := fun k h => by
        show mW1 (mUp (mUp M3 22 _) 23 _) 16 8 _ 16 k = _
        rw [mW1_k h, mUp_ne (by decide), mUp_ne (by decide)]
      have t9 : M9 16 8 = r := mW1_s
      have w9 : M9 22 = aSet (M3 22) 8 (nI (n / 4)) r := by
        show mW1 (mUp (mUp M3 22 _) 23 _) 16 8 _ 22 = _
        rw [mW1_c (by decide), mUp_ne (by decide), mUp_at]
      refine hP M9 ⟨⟨by rw [hlen]; exact (g9 7 (by decide)).trans q7, ?_, (g9 9 (by decide)).trans q9, (g9 10 (by decide)).trans q10, (g9 11 (by decide)).trans q11⟩, by rw [hlen]; exact fun j hj => (congrFun (f9 20 (by decide) (by decide) (by decide)) j).trans (qpl j hj), fun q hq => (congrFun (f9 18 (by decide) (by decide) (by decide)) q).trans (qdl q hq), fun q hq => (congrFun (f9 19 (by decide) (by decide) (by decide)) q).trans (qhd q hq), by rw [hlen]; exact fun i hi => (congrFun (f9 21 (by decide) (by decide) (by decide)) i).trans (qld i hi), ?_, ?_, ?_⟩ ?_
      · rw [t9, hr, hlen, aTn_0 hz' k2, show (n + 1) / 4 = n / 4 + 1 by omega]
      · intro i hi
        rw [hlen] at hi
        rw [show M9 (16 + 6) = M9 22 from rfl, w9, aSet_in (by omega) (by decide)]
        by_cases e : i = n / 4
        · subst e
          rw [upd_s, hr]
        · rw [upd_n e, aLd_old (by omega)]
          exact r10 i (by omega)
      · rw [hlen, show (n + 1) / 4 = n / 4 + 1 by omega, show M9 (16 + 7) 0 = M9 23 0 from rfl, hwon 0 (by omega), aWn, aWn_old (by omega), w0]
        split
        · exact add1 _ _
        · rfl
      · rw [hlen, show (n + 1) / 4 = n / 4 + 1 by omega, show M9 (16 + 7) 1 = M9 23 1 from rfl, hwon 1 (by omega), aWn, aWn_old (by omega), w1]
        split
        · exact add1 _ _
        · rfl
      · intro d hd
        rw [f9 d (by omega) (by omega) (by omega)]
        exact qfr d hd
  · have hz' : (n + 1) % 4 ≠ 0 := fun z => hz (by rw [z]; rfl)
    intro M10
    have f10 : ∀ d, d ≠ 16 → M10 d = M3 d := fun d h1 => mW1_c h1
    have g10 : ∀ k, k ≠ 8 → M10 16 k = M3 16 k := fun k h => mW1_k h
    have t10 : M10 16 8 = (M 16 8 + nI 1) &&& nI 3 := mW1_s
    have w10 : M3 22 = M 22 := qfr' 22 (by decide) (by decide) (by decide)
    have v10 : M3 23 = M 23 := qfr' 23 (by decide) (by decide) (by decide)
    refine hP M10 ⟨⟨by rw [hlen]; exact (g10 7 (by decide)).trans q7, ?_, (g10 9 (by decide)).trans q9, (g10 10 (by decide)).trans q10, (g10 11 (by decide)).trans q11⟩, by rw [hlen]; exact fun j hj => (congrFun (f10 20 (by decide)) j).trans (qpl j hj), fun q hq => (congrFun (f10 18 (by decide)) q).trans (qdl q hq), fun q hq => (congrFun (f10 19 (by decide)) q).trans (qhd q hq), by rw [hlen]; exact fun i hi => (congrFun (f10 21 (by decide)) i).trans (qld i hi), ?_, ?_, ?_⟩ ?_
    · rw [t10, hlen, aTn_new hz', aTn_old (by omega), r2, nI_add]
      exact nI_and3 _ (by have := aTn_lt (x := x) (cs := cs) (j := n); omega)
    · intro i hi
      rw [hlen] at hi
      rw [show M10 (16 + 6) = M3 22 from f10 22 (by decide), w10, aLd_old (by omega)]
      exact r10 i (by omega)
    · rw [hlen, show (n + 1) / 4 = n / 4 by omega, show M10 (16 + 7) = M3 23 from f10 23 (by decide), v10, aWn_old (by omega)]
      exact r11
    · rw [hlen, show (n + 1) / 4 = n / 4 by omega, show M10 (16 + 7) = M3 23 from f10 23 (by decide), v10, aWn_old (by omega)]
      exact r12
    · intro d hd
      rw [f10 d (by omega)]
      exact qfr d hd
theorem lay_run_16 (g : mG) (M : mM) (P : mP) (x : aX) (dl : Nat → Int32) (a0 a1 : Int32) (cs : List Nat) (c : Nat) (hR : RpP 16 M x dl a0 a1 cs) (hok : aOk x dl cs) (hn : cs.length < 32) (hc : c < 32) (hb : bt (aHd dl cs (aTn x cs cs.length)) c = true)
    (hP : ∀ M', RpP 16 M' x dl a0 a1 (cs ++ [c]) → FrP 16 M M' → P none M') : mRun (mSx g) (f_X2_lay g) P (0, [some (.inr (some 16)), some (.inl (nI c)), none, none], [], M) := by
  have hR0 := hR
  obtain ⟨⟨r1, r2, r3, r4, r5⟩, r6, r7, r8, r9, r10, r11, r12⟩ := hR
  have hcard : ¬ fCard (nI c) = 0 := by
    unfold fCard
    rw [mb_0]
    exact fun z => z ⟨nI_pos' (by omega), nI_lt hc (by decide)⟩
  refine v_lay_0_16 g M P (nI c) ⟨fun z => absurd z (by rw [r1]; exact nI_ge hn (by decide)), fun _ => ⟨fun _ => ⟨n4, n4, ?_⟩, fun z => absurd hcard z⟩⟩
  rw [r1, nI_mod4 (by omega), nI_div4 (by omega)]
  refine ⟨fun hz => ?_, fun hz => ?_⟩
  · have hz' : cs.length % 4 ≠ 0 := fun z => hz (by rw [z]; rfl)
    exact lay_b_16 g M P x dl a0 a1 cs c hR0 (fun i hi => r9 i (by omega)) hok hn hc hb hP
  · have hz' : cs.length % 4 = 0 := (nI_eq (by omega) (by decide)).mp (Classical.not_not.mp hz)
    intro M1
    have hld : ∀ i, 4 * i < cs.length + 1 → M1 21 i = nI (aLd x cs i) := fun i hi => by
      show aSet (M 21) 8 (nI (cs.length / 4)) (M 16 8) i = _
      rw [aSet_in (by omega) (by decide)]
      by_cases e : i = cs.length / 4
      · subst e
        rw [upd_s, r2, aTn_0 hz' hok.2.1]
      · rw [upd_n e]
        exact r9 i (by omega)
    refine lay_b_16 g M1 P x dl a0 a1 cs c ⟨⟨r1, r2, r3, r4, r5⟩, r6, r7, r8, fun i hi => hld i (by omega), r10, r11, r12⟩ hld hok hn hc hb (fun M' h1 h2 => hP M' h1 (fun d hd => ?_))
    rw [h2 d hd]
    exact mUp_ne (by omega)
theorem v_lay_0_29 (g : mG) (M : mM) (P : mP) (z : Int32)
    (h : ((nI 32) ≤ (M 29 7) → P none M) ∧ (¬ (nI 32) ≤ (M 29 7) → (¬ (fCard z) = 0 → ¬ (nI 4) = 0 ∧ ((¬ (nI 4) = 0 ∧ ((¬ ((M 29 7) - (M 29 7) / (nI 4) * (nI 4)) = 0 → mRun (mSx g) (f_X2_lay g) P (43, [some (.inr (some 29)), some (.inl z), some (.inl ((M 29 7) / (nI 4))), none], [], M)) ∧ (¬ (¬ ((M 29 7) - (M 29 7) / (nI 4) * (nI 4)) = 0) → let M1 : mM := mUp M 34 (aSet (M 34) 8 ((M 29 7) / (nI 4)) (M 29 8)); mRun (mSx g) (f_X2_lay g) P (43, [some (.inr (some 29)), some (.inl z), some (.inl ((M 29 7) / (nI 4))), none], [], M1)))))) ∧ (¬ (¬ (fCard z) = 0) → P none M))) :
    mRun (mSx g) (f_X2_lay g) P (0, [some (.inr (some 29)), some (.inl z), none, none], [], M) := mRun.vc (m_X2_lay g) [43] 22 h

set_option maxRecDepth 100000 in
theorem v_lay_43_29 (g : mG) (M : mM) (P : mP) (z i : Int32)
    (h : let M1 : mM := mUp M 32 (aSet (M 32) 4 (M 29 8) ((aAt (M 32) 4 (M 29 8)) &&& ((fBit z) ^^^ (-1)))); let M2 : mM := mUp M1 33 (aSet (M 33) 32 (M 29 7) z); let M3 : mM := mW1 M2 29 7 ((M 29 7) + (nI 1)); ¬ (nI 4) = 0 ∧ (((((M 29 7) + (nI 1)) - ((M 29 7) + (nI 1)) / (nI 4) * (nI 4)) = 0 → ∃ x4 : Nat × Nat × Int32 × Nat × List Nat × Nat, pre_X2_winnerOf x4 [.inr (some 29), .inl i, .inl (M 29 9), .inl (M 29 10)] M3 ∧ ∀ (r6 : Int32) (M5 : mM), post_X2_winnerOf x4 [.inr (some 29), .inl i, .inl (M 29 9), .inl (M 29 10)] M3 r6 M5 → (let M7 : mM := mUp M5 35 (aSet (M5 35) 8 i r6); let M8 : mM := mUp M7 36 (aSet (M5 36) 2 (r6 &&& (nI 1)) ((aAt (M5 36) 2 (r6 &&& (nI 1))) + (nI 1))); let M9 : mM := mW1 M8 29 8 r6; P none M9)) ∧ (¬ (((M 29 7) + (nI 1)) - ((M 29 7) + (nI 1)) / (nI 4) * (nI 4)) = 0 → let M10 : mM := mW1 M3 29 8 (((M 29 8) + (nI 1)) &&& (nI 3)); P none M10))) :
    mRun (mSx g) (f_X2_lay g) P (43, [some (.inr (some 29)), some (.inl z), some (.inl i), none], [], M) := mRun.vc (m_X2_lay g) [] 55 h

set_option maxHeartbeats 4000000 in
theorem lay_b_29 (g : mG) (M : mM) (P : mP) (x : aX) (dl : Nat → Int32) (a0 a1 : Int32) (cs : List Nat) (c : Nat) (hR : RpP 29 M x dl a0 a1 cs) (hL : ∀ i, 4 * i < cs.length + 1 → M 34 i = nI (aLd x cs i)) (hok : aOk x dl cs) (hn : cs.length < 32) (hc : c < 32) (hb : bt (aHd dl cs (aTn x cs cs.length)) c = true)
    (hP : ∀ M', RpP 29 M' x dl a0 a1 (cs ++ [c]) → FrP 29 M M' → P none M') : mRun (mSx g) (f_X2_lay g) P (43, [some (.inr (some 29)), some (.inl (nI c)), some (.inl (nI (cs.length / 4))), none], [], M) := by
  have hok2 := hok.add hn hc hb
  obtain ⟨⟨r1, r2, r3, r4, r5⟩, r6, r7, r8, r9, r10, r11, r12⟩ := hR
  have hlt := aOk.lt hok
  have hbc : bt (dl (aTn x cs cs.length)) c = true := (hok2.old).2.2.1
  obtain ⟨k1, k2, k3, k4, k5⟩ := hok
  generalize hnn : cs.length = n at *
  have hlen : (cs ++ [c]).length = n + 1 := by rw [List.length_append, List.length_singleton, hnn]
  have e0 : M 29 7 + nI 1 = nI (n + 1) := by rw [r1, nI_add]
  have e1 : M 29 7 + nI 1 - (M 29 7 + nI 1) / nI 4 * nI 4 = nI ((n + 1) % 4) := by rw [e0]; exact nI_mod4 (by omega)
  refine v_lay_43_29 g M P (nI c) (nI (n / 4)) ?_
  intro M1 M2 M3
  have q7 : M3 29 7 = nI (n + 1) := e0
  have q9 : M3 29 9 = x.1 := r3
  have q10 : M3 29 10 = nI x.2.1 := r4
  have q11 : M3 29 11 = x.2.2.1 := r5
  have qpl : ∀ j, j < n + 1 → M3 33 j = nI (aC (cs ++ [c]) j) := fun j hj => by
    show aSet (M 33) 32 (M 29 7) (nI c) j = _
    rw [r1, aSet_in hn (by decide)]
    by_cases e : j = n
    · subst e
      rw [upd_s, ← hnn, aC_new]
    · rw [upd_n e, aC_old (by omega)]
      exact r6 j (by omega)
  have qdl : ∀ q, q < 4 → M3 31 q = dl q := r7
  have qhd : ∀ q, q < 4 → M3 32 q = aHd dl (cs ++ [c]) q := fun q hq => by
    show aSet (M 32) 4 (M 29 8) (aAt (M 32) 4 (M 29 8) &&& (fBit (nI c) ^^^ (-1))) q = _
    rw [r2, aAt_in aTn_lt (by decide), aSet_in aTn_lt (by decide)]
    by_cases e : q = aTn x cs n
    · rw [e, upd_s, aMk_in hlt hc]
      exact congrArg (fun z => z &&& (fBit (nI c) ^^^ (-1))) (r8 _ aTn_lt)
    · rw [upd_n e, aHd_other hlt hc k4 aTn_lt hq hbc e]
      exact r8 q hq
  have qld : ∀ i, 4 * i < n + 1 → M3 34 i = nI (aLd x (cs ++ [c]) i) := fun i hi => by
    rw [aLd_old (by omega)]
    exact hL i hi
  have qfr : FrP 29 M M3 := fun d hd => by
    show mUp (mUp (mUp M 32 _) 33 _) 29 _ d = M d
    rw [mUp_ne (by omega), mUp_ne (by omega), mUp_ne (by omega)]
  have qfr' : ∀ d, d ≠ 29 → d ≠ 32 → d ≠ 33 → M3 d = M d := fun d h1 h2 h3 => by
    show mUp (mUp (mUp M 32 _) 33 _) 29 _ d = M d
    rw [mUp_ne h1, mUp_ne h3, mUp_ne h2]
  rw [e1]
  refine ⟨n4, fun hz => ?_, fun hz => ?_⟩
  · have hz' : (n + 1) % 4 = 0 := (nI_eq (by omega) (by decide)).mp hz
    refine ⟨(29, n / 4, x.1, x.2.1, cs ++ [c], aLd x cs (n / 4)), ⟨rfl, by rw [r3, r4], by show n / 4 < 8; omega, k1, by show 4 * (n / 4) + 4 ≤ (cs ++ [c]).length; omega, aLd_lt k2 _, fun j hj => ⟨qpl _ (by show 4 * (n / 4) + j < n + 1; omega), aOk.lt hok2 _ (aC_in (by show 4 * (n / 4) + j < (cs ++ [c]).length; omega))⟩, ?_⟩, fun r M5 hp => ?_⟩
    · exact (qld _ (by show 4 * (n / 4) < n + 1; omega)).trans (by rw [aLd_old (by show 4 * (n / 4) ≤ cs.length; omega)])
    · obtain ⟨hv, rfl⟩ := hp
      have hr : r = nI (aLd x (cs ++ [c]) (n / 4 + 1)) := by
        rw [hv, aLd, aLd_old (by omega)]
      have hw4 : aLd x (cs ++ [c]) (n / 4 + 1) < 4 := aLd_lt k2 _
      have hside : r &&& nI 1 = nI (aLd x (cs ++ [c]) (n / 4 + 1) % 2) := by rw [hr]; exact nI_and1 _ (by omega)
      intro M7 M8 M9
      have w0 : M 36 0 = nI (aWn x cs 0 (n / 4)) + a0 := r11
      have w1 : M 36 1 = nI (aWn x cs 1 (n / 4)) + a1 := r12
      have hwon : ∀ s, s < 2 → M9 36 s = if aLd x (cs ++ [c]) (n / 4 + 1) % 2 = s then M 36 s + nI 1 else M 36 s := fun s hs => by
        show aSet (M 36) 2 (r &&& nI 1) (aAt (M 36) 2 (r &&& nI 1) + nI 1) s = _
        rw [hside, aAt_in (by omega) (by decide), aSet_in (by omega) (by decide)]
        by_cases e : s = aLd x (cs ++ [c]) (n / 4 + 1) % 2
        · subst e
          rw [upd_s, if_pos rfl]
        · rw [upd_n e, if_neg (fun z => e z.symm)]
      have add1 : ∀ (k : Nat) (z : Int32), nI k + z + nI 1 = nI (k + 1) + z := fun k z => by
        rw [← nI_add, Int32.add_assoc, Int32.add_comm z, ← Int32.add_assoc]
      have f9 : ∀ d, d ≠ 29 → d ≠ 35 → d ≠ 36 → M9 d = M3 d := fun d h1 h2 h3 => by
        show mW1 (mUp (mUp M3 35 _) 36 _) 29 8 _ d = _
        rw [mW1_c h1, mUp_ne h3, mUp_ne h2]
      have g9 : ∀ k, k ≠ 8 → M9 29 k = M3 29 k := fun k h => by
        show mW1 (mUp (mUp M3 35 _) 36 _) 29 8 _ 29 k = _
        rw [mW1_k h, mUp_ne (by decide), mUp_ne (by decide)]
      have t9 : M9 29 8 = r := mW1_s
      have w9 : M9 35 = aSet (M3 35) 8 (nI (n / 4)) r := by
        show mW1 (mUp (mUp M3 35 _) 36 _) 29 8 _ 35 = _
        rw [mW1_c (by decide), mUp_ne (by decide), mUp_at]
      refine hP M9 ⟨⟨by rw [hlen]; exact (g9 7 (by decide)).trans q7, ?_, (g9 9 (by decide)).trans q9, (g9 10 (by decide)).trans q10, (g9 11 (by decide)).trans q11⟩, by rw [hlen]; exact fun j hj => (congrFun (f9 33 (by decide) (by decide) (by decide)) j).trans (qpl j hj), fun q hq => (congrFun (f9 31 (by decide) (by decide) (by decide)) q).trans (qdl q hq), fun q hq => (congrFun (f9 32 (by decide) (by decide) (by decide)) q).trans (qhd q hq), by rw [hlen]; exact fun i hi => (congrFun (f9 34 (by decide) (by decide) (by decide)) i).trans (qld i hi), ?_, ?_, ?_⟩ ?_
      · rw [t9, hr, hlen, aTn_0 hz' k2, show (n + 1) / 4 = n / 4 + 1 by omega]
      · intro i hi
        rw [hlen] at hi
        rw [show M9 (29 + 6) = M9 35 from rfl, w9, aSet_in (by omega) (by decide)]
        by_cases e : i = n / 4
        · subst e
          rw [upd_s, hr]
        · rw [upd_n e, aLd_old (by omega)]
          exact r10 i (by omega)
      · rw [hlen, show (n + 1) / 4 = n / 4 + 1 by omega, show M9 (29 + 7) 0 = M9 36 0 from rfl, hwon 0 (by omega), aWn, aWn_old (by omega), w0]
        split
        · exact add1 _ _
        · rfl
      · rw [hlen, show (n + 1) / 4 = n / 4 + 1 by omega, show M9 (29 + 7) 1 = M9 36 1 from rfl, hwon 1 (by omega), aWn, aWn_old (by omega), w1]
        split
        · exact add1 _ _
        · rfl
      · intro d hd
        rw [f9 d (by omega) (by omega) (by omega)]
        exact qfr d hd
  · have hz' : (n + 1) % 4 ≠ 0 := fun z => hz (by rw [z]; rfl)
    intro M10
    have f10 : ∀ d, d ≠ 29 → M10 d = M3 d := fun d h1 => mW1_c h1
    have g10 : ∀ k, k ≠ 8 → M10 29 k = M3 29 k := fun k h => mW1_k h
    have t10 : M10 29 8 = (M 29 8 + nI 1) &&& nI 3 := mW1_s
    have w10 : M3 35 = M 35 := qfr' 35 (by decide) (by decide) (by decide)
    have v10 : M3 36 = M 36 := qfr' 36 (by decide) (by decide) (by decide)
    refine hP M10 ⟨⟨by rw [hlen]; exact (g10 7 (by decide)).trans q7, ?_, (g10 9 (by decide)).trans q9, (g10 10 (by decide)).trans q10, (g10 11 (by decide)).trans q11⟩, by rw [hlen]; exact fun j hj => (congrFun (f10 33 (by decide)) j).trans (qpl j hj), fun q hq => (congrFun (f10 31 (by decide)) q).trans (qdl q hq), fun q hq => (congrFun (f10 32 (by decide)) q).trans (qhd q hq), by rw [hlen]; exact fun i hi => (congrFun (f10 34 (by decide)) i).trans (qld i hi), ?_, ?_, ?_⟩ ?_
    · rw [t10, hlen, aTn_new hz', aTn_old (by omega), r2, nI_add]
      exact nI_and3 _ (by have := aTn_lt (x := x) (cs := cs) (j := n); omega)
    · intro i hi
      rw [hlen] at hi
      rw [show M10 (29 + 6) = M3 35 from f10 35 (by decide), w10, aLd_old (by omega)]
      exact r10 i (by omega)
    · rw [hlen, show (n + 1) / 4 = n / 4 by omega, show M10 (29 + 7) = M3 36 from f10 36 (by decide), v10, aWn_old (by omega)]
      exact r11
    · rw [hlen, show (n + 1) / 4 = n / 4 by omega, show M10 (29 + 7) = M3 36 from f10 36 (by decide), v10, aWn_old (by omega)]
      exact r12
    · intro d hd
      rw [f10 d (by omega)]
      exact qfr d hd
theorem lay_run_29 (g : mG) (M : mM) (P : mP) (x : aX) (dl : Nat → Int32) (a0 a1 : Int32) (cs : List Nat) (c : Nat) (hR : RpP 29 M x dl a0 a1 cs) (hok : aOk x dl cs) (hn : cs.length < 32) (hc : c < 32) (hb : bt (aHd dl cs (aTn x cs cs.length)) c = true)
    (hP : ∀ M', RpP 29 M' x dl a0 a1 (cs ++ [c]) → FrP 29 M M' → P none M') : mRun (mSx g) (f_X2_lay g) P (0, [some (.inr (some 29)), some (.inl (nI c)), none, none], [], M) := by
  have hR0 := hR
  obtain ⟨⟨r1, r2, r3, r4, r5⟩, r6, r7, r8, r9, r10, r11, r12⟩ := hR
  have hcard : ¬ fCard (nI c) = 0 := by
    unfold fCard
    rw [mb_0]
    exact fun z => z ⟨nI_pos' (by omega), nI_lt hc (by decide)⟩
  refine v_lay_0_29 g M P (nI c) ⟨fun z => absurd z (by rw [r1]; exact nI_ge hn (by decide)), fun _ => ⟨fun _ => ⟨n4, n4, ?_⟩, fun z => absurd hcard z⟩⟩
  rw [r1, nI_mod4 (by omega), nI_div4 (by omega)]
  refine ⟨fun hz => ?_, fun hz => ?_⟩
  · have hz' : cs.length % 4 ≠ 0 := fun z => hz (by rw [z]; rfl)
    exact lay_b_29 g M P x dl a0 a1 cs c hR0 (fun i hi => r9 i (by omega)) hok hn hc hb hP
  · have hz' : cs.length % 4 = 0 := (nI_eq (by omega) (by decide)).mp (Classical.not_not.mp hz)
    intro M1
    have hld : ∀ i, 4 * i < cs.length + 1 → M1 34 i = nI (aLd x cs i) := fun i hi => by
      show aSet (M 34) 8 (nI (cs.length / 4)) (M 29 8) i = _
      rw [aSet_in (by omega) (by decide)]
      by_cases e : i = cs.length / 4
      · subst e
        rw [upd_s, r2, aTn_0 hz' hok.2.1]
      · rw [upd_n e]
        exact r9 i (by omega)
    refine lay_b_29 g M1 P x dl a0 a1 cs c ⟨⟨r1, r2, r3, r4, r5⟩, r6, r7, r8, fun i hi => hld i (by omega), r10, r11, r12⟩ hld hok hn hc hb (fun M' h1 h2 => hP M' h1 (fun d hd => ?_))
    rw [h2 d hd]
    exact mUp_ne (by omega)
theorem run_X2_lay : mRunOf 4 t_X2_lay f_X2_lay := fun g as M P hT => by
  obtain ⟨⟨p, ⟨x, dl, a0, a1, cs⟩, c⟩, ⟨h1, rfl, h3, h4, h5, h6, h7⟩, hP⟩ := hT
  refine ⟨Nat.le_of_ble_eq_true rfl, ?_⟩
  dsimp only at h1 h3 h4 h5 h6 h7
  rcases pl_two h1 with rfl | rfl
  · exact lay_run_16 g M P x dl a0 a1 cs c h3 h4 h5 h6 h7 (fun M' h8 h9 => hP M' ⟨h8, h9⟩)
  · exact lay_run_29 g M P x dl a0 a1 cs c h3 h4 h5 h6 h7 (fun M' h8 h9 => hP M' ⟨h8, h9⟩)
theorem ok_X2_lay : mOK yX2_lay cX2_lay 4 (none) 3 t_X2_lay := mOK.of f_X2_lay (by decide) (fun _ => rfl) (fun g => mCodeOK kk_X2_lay) (fun g => mFldL fk_RX2 rfl) (fun g idx v h => by cases h) (fun g idx v h => by cases h) (mCalL (l := l_X2_lay) (List.forall_mem_cons.mpr ⟨mSite.SN (idx := 99) ok_X7_isCard (by decide) (by decide) wc_X7_isCard wm_RX2_99 wt_X7_isCard wn_RX7 wd_X7_isCard, List.forall_mem_cons.mpr ⟨mSite.V (idx := 79) ok_X2_full (by decide) (by decide) rv_X2_full wc_X2_full wk_RX2_79 wi_X2_full wl_X2_full wn_RX2 wd_X2_full, List.forall_mem_cons.mpr ⟨mSite.SN (idx := 48) ok_X7_set (by decide) (by decide) wc_X7_set wm_RX2_48 wt_X7_set wn_RX7 wd_X7_set, List.forall_mem_cons.mpr ⟨mSite.SN (idx := 56) ok_X7_at (by decide) (by decide) wc_X7_at wm_RX2_56 wt_X7_at wn_RX7 wd_X7_at, List.forall_mem_cons.mpr ⟨mSite.SN (idx := 60) ok_X7_bitOf (by decide) (by decide) wc_X7_bitOf wm_RX2_60 wt_X7_bitOf wn_RX7 wd_X7_bitOf, List.forall_mem_cons.mpr ⟨mSite.V (idx := 103) ok_X2_winnerOf (by decide) (by decide) rv_X2_winnerOf wc_X2_winnerOf wk_RX2_103 wi_X2_winnerOf wl_X2_winnerOf wn_RX2 wd_X2_winnerOf, List.forall_mem_cons.mpr ⟨mSite.V (idx := 106) ok_X2_addWon (by decide) (by decide) rv_X2_addWon wc_X2_addWon wk_RX2_106 wi_X2_addWon wl_X2_addWon wn_RX2 wd_X2_addWon, fun _ h => absurd h List.not_mem_nil⟩⟩⟩⟩⟩⟩⟩) (fun _ => rfl)) run_X2_lay
end
section
/-! ===== CLASS Play: a card is lifted; a play becomes another; it is cleared ===== -/
theorem nI_and3' : ∀ n, n < 64 → nI n &&& nI 3 = nI (n % 4) := by decide +kernel
def pre_X2_lift (q : Nat × aP × Nat) (as : List mV) (M : mM) : Prop := pl_X2 q.1 = true ∧ as = [.inr (some q.1)] ∧ RpP q.1 M q.2.1.1 q.2.1.2.1 q.2.1.2.2.1 q.2.1.2.2.2.1 (q.2.1.2.2.2.2 ++ [q.2.2]) ∧ aOk q.2.1.1 q.2.1.2.1 (q.2.1.2.2.2.2 ++ [q.2.2])
def post_X2_lift (q : Nat × aP × Nat) (_ : List mV) (M : mM) (M' : mM) : Prop := RpS q.1 M' q.2.1 ∧ FrP q.1 M M'
abbrev t_X2_lift : mG → mT := mRv pre_X2_lift post_X2_lift
theorem mo_X2_lift : mMn t_X2_lift := mRv_mono
theorem rv_X2_lift : mHasR yX2_lift 0 t_X2_lift := by
  intro g as M P hT hl
  obtain ⟨q, ⟨h1, h2, -⟩, -⟩ := hT
  exact ⟨_, _, h2, is_X2 g _ h1⟩
def k_X2_lift : List (Nat × mI) := [(0, .aload_n 0, 1, 0, 0, []),
  (1, .getfield 37, 3, 0, 0, []),
  (4, .ifCond .ne 4, 3, 8, 0, []),
  (7, .return_, 1, 0, 0, []),
  (8, .aload_n 0, 1, 0, 0, []),
  (9, .getfield 37, 3, 0, 0, []),
  (12, .iconst 4, 1, 0, nI 4, []),
  (13, .irem, 1, 0, 0, []),
  (14, .ifCond .ne 23, 3, 37, 0, []),
  (17, .aload_n 0, 1, 0, 0, []),
  (18, .aload_n 0, 1, 0, 0, []),
  (19, .getfield 27, 3, 0, 0, []),
  (22, .aload_n 0, 1, 0, 0, []),
  (23, .invokevirtual 79, 3, 0, 0, []),
  (26, .iconst 1, 1, 0, nI 1, []),
  (27, .isub, 1, 0, 0, []),
  (28, .invokestatic 56, 3, 0, 0, []),
  (31, .iconst 1, 1, 0, nI 1, []),
  (32, .iand, 1, 0, 0, []),
  (33, .iconst (-1), 1, 0, -1, []),
  (34, .invokevirtual 106, 3, 0, 0, []),
  (37, .aload_n 0, 1, 0, 0, []),
  (38, .dup, 1, 0, 0, []),
  (39, .getfield 37, 3, 0, 0, []),
  (42, .iconst 1, 1, 0, nI 1, []),
  (43, .isub, 1, 0, 0, []),
  (44, .putfield 37, 3, 0, 0, []),
  (47, .aload_n 0, 1, 0, 0, []),
  (48, .aload_n 0, 1, 0, 0, []),
  (49, .getfield 24, 3, 0, 0, []),
  (52, .aload_n 0, 1, 0, 0, []),
  (53, .invokevirtual 79, 3, 0, 0, []),
  (56, .invokestatic 56, 3, 0, 0, []),
  (59, .aload_n 0, 1, 0, 0, []),
  (60, .getfield 37, 3, 0, 0, []),
  (63, .iadd, 1, 0, 0, []),
  (64, .iconst 3, 1, 0, nI 3, []),
  (65, .iand, 1, 0, 0, []),
  (66, .putfield 67, 3, 0, 0, []),
  (69, .aload_n 0, 1, 0, 0, []),
  (70, .getfield 18, 3, 0, 0, []),
  (73, .aload_n 0, 1, 0, 0, []),
  (74, .getfield 67, 3, 0, 0, []),
  (77, .aload_n 0, 1, 0, 0, []),
  (78, .getfield 18, 3, 0, 0, []),
  (81, .aload_n 0, 1, 0, 0, []),
  (82, .getfield 67, 3, 0, 0, []),
  (85, .invokestatic 56, 3, 0, 0, []),
  (88, .aload_n 0, 1, 0, 0, []),
  (89, .getfield 21, 3, 0, 0, []),
  (92, .aload_n 0, 1, 0, 0, []),
  (93, .getfield 37, 3, 0, 0, []),
  (96, .invokestatic 56, 3, 0, 0, []),
  (99, .invokestatic 60, 3, 0, 0, []),
  (102, .ior, 1, 0, 0, []),
  (103, .invokestatic 48, 3, 0, 0, []),
  (106, .return_, 1, 0, 0, [])]
theorem kk_X2_lift : (k_X2_lift.all fun e => mChk cX2_lift e.1 e.2) = true := by decide +kernel
def l_X2_lift : List (Nat × Nat × (mG → mT)) := [(3 * 79, 0 + 1, t_X2_full), (3 * 56 + 1, 2, t_X7_at), (3 * 106, 2 + 1, t_X2_addWon), (3 * 60 + 1, 1, t_X7_bitOf), (3 * 48 + 1, 3, t_X7_set)]
def f_X2_lift (g : mG) : mF := (mLk k_X2_lift, mLk fl_RX2, mLk (l_X2_lift.map fun e => (e.1, e.2.1, e.2.2 g)), mLk ([] : List (Nat × mV)), mLk ([] : List (Nat × mV)), none)
theorem m_X2_lift (g : mG) : mMono (f_X2_lift g) := mMonoL (g := g) (l := l_X2_lift) (List.forall_mem_cons.mpr ⟨mo_X2_full, List.forall_mem_cons.mpr ⟨mo_X7_at, List.forall_mem_cons.mpr ⟨mo_X2_addWon, List.forall_mem_cons.mpr ⟨mo_X7_bitOf, List.forall_mem_cons.mpr ⟨mo_X7_set, fun _ h => absurd h List.not_mem_nil⟩⟩⟩⟩⟩) rfl

theorem v_lift_0_16 (g : mG) (M : mM) (P : mP) 
    (h : (¬ (M 16 7) = 0 → ¬ (nI 4) = 0 ∧ ((¬ ((M 16 7) - (M 16 7) / (nI 4) * (nI 4)) = 0 → mRun (mSx g) (f_X2_lift g) P (37, [some (.inr (some 16))], [], M)) ∧ (¬ (¬ ((M 16 7) - (M 16 7) / (nI 4) * (nI 4)) = 0) → ¬ (nI 4) = 0 ∧ ((let M1 : mM := mUp M 23 (aSet (M 23) 2 ((aAt (M 22) 8 (((M 16 7) / (nI 4)) - (nI 1))) &&& (nI 1)) ((aAt (M 23) 2 ((aAt (M 22) 8 (((M 16 7) / (nI 4)) - (nI 1))) &&& (nI 1))) + (-1))); mRun (mSx g) (f_X2_lift g) P (37, [some (.inr (some 16))], [], M1)))))) ∧ (¬ (¬ (M 16 7) = 0) → P none M)) :
    mRun (mSx g) (f_X2_lift g) P (0, [some (.inr (some 16))], [], M) := mRun.vc (m_X2_lift g) [37] 21 h

theorem v_lift_37_16 (g : mG) (M : mM) (P : mP) 
    (h : let M1 : mM := mW1 M 16 7 ((M 16 7) - (nI 1)); ¬ (nI 4) = 0 ∧ ((let M2 : mM := mW1 M1 16 8 (((aAt (M 21) 8 (((M 16 7) - (nI 1)) / (nI 4))) + ((M 16 7) - (nI 1))) &&& (nI 3)); let M3 : mM := mUp M2 19 (aSet (M 19) 4 (((aAt (M 21) 8 (((M 16 7) - (nI 1)) / (nI 4))) + ((M 16 7) - (nI 1))) &&& (nI 3)) ((aAt (M 19) 4 (((aAt (M 21) 8 (((M 16 7) - (nI 1)) / (nI 4))) + ((M 16 7) - (nI 1))) &&& (nI 3))) ||| (fBit (aAt (M 20) 32 ((M 16 7) - (nI 1)))))); P none M3))) :
    mRun (mSx g) (f_X2_lift g) P (37, [some (.inr (some 16))], [], M) := mRun.vc (m_X2_lift g) [] 36 h

set_option maxHeartbeats 4000000 in
theorem lift_b_16 (g : mG) (M : mM) (P : mP) (x : aX) (dl : Nat → Int32) (a0 a1 : Int32) (cs : List Nat) (c : Nat) (r1 : M 16 7 = nI (cs.length + 1)) (r3 : M 16 9 = x.1) (r4 : M 16 10 = nI x.2.1) (r5 : M 16 11 = x.2.2.1) (r6 : ∀ j, j < cs.length + 1 → M 20 j = nI (aC (cs ++ [c]) j)) (r7 : ∀ q, q < 4 → M 18 q = dl q) (r8 : ∀ q, q < 4 → M 19 q = aHd dl (cs ++ [c]) q)
    (r9 : ∀ i, 4 * i < cs.length + 1 → M 21 i = nI (aLd x (cs ++ [c]) i)) (r10 : ∀ i, 4 * i + 4 ≤ cs.length → M 22 i = nI (aLd x (cs ++ [c]) (i + 1))) (r11 : M 23 0 = nI (aWn x cs 0 (cs.length / 4)) + a0) (r12 : M 23 1 = nI (aWn x cs 1 (cs.length / 4)) + a1) (hok : aOk x dl (cs ++ [c]))
    (hP : ∀ M', RpP 16 M' x dl a0 a1 cs → FrP 16 M M' → P none M') : mRun (mSx g) (f_X2_lift g) P (37, [some (.inr (some 16))], [], M) := by
  obtain ⟨hok1, hc, hbc, hnm⟩ := hok.old
  have hlt := aOk.lt hok1
  obtain ⟨k1, k2, k3, k4, k5⟩ := hok
  rw [List.length_append, List.length_singleton] at k3
  have hl4 := aLd_lt (x := x) (cs := cs) k2 (cs.length / 4)
  have e0 : M 16 7 - nI 1 = nI cs.length := by rw [r1, pk_sub (by omega)]; rfl
  have e1 : aAt (M 21) 8 (nI (cs.length / 4)) = nI (aLd x cs (cs.length / 4)) := by
    rw [aAt_in (by omega) (by decide), ← aLd_old (c := c) (by omega)]
    exact r9 _ (by omega)
  have e2 : (nI (aLd x cs (cs.length / 4)) + nI cs.length) &&& nI 3 = nI (aTn x cs cs.length) := by
    rw [nI_add, nI_and3' _ (by omega)]
    unfold aTn
    congr 1
    omega
  have e3 : aAt (M 20) 32 (nI cs.length) = nI c := by
    rw [aAt_in (by omega) (by decide), ← aC_new (cs := cs) (c := c)]
    exact (r6 _ (by omega)).trans (by rw [aC_new])
  refine v_lift_37_16 g M P ?_
  rw [e0, nI_div4 (by omega), e1, e2, e3]
  intro M1
  refine ⟨n4, ?_⟩
  intro M2 M3
  have hset : M3 19 = upd (M 19) (aTn x cs cs.length) (M 19 (aTn x cs cs.length) ||| fBit (nI c)) := by
    show mUp M2 19 (aSet (M 19) 4 (nI (aTn x cs cs.length)) (aAt (M 19) 4 (nI (aTn x cs cs.length)) ||| fBit (nI c))) 19 = _
    rw [mUp_at, aSet_in aTn_lt (by decide), aAt_in aTn_lt (by decide)]
  have f3 : ∀ d, d ≠ 16 → d ≠ 19 → M3 d = M d := fun d h1 h2 => by
    show mUp (mW1 (mW1 M 16 7 _) 16 8 _) 19 _ d = _
    rw [mUp_ne h2, mW1_c h1, mW1_c h1]
  have g7 : M3 16 7 = nI cs.length := by
    show mUp (mW1 (mW1 M 16 7 _) 16 8 _) 19 _ 16 7 = _
    rw [mUp_ne (by decide), mW1_k (by decide), mW1_s]
  have g8 : M3 16 8 = nI (aTn x cs cs.length) := by
    show mUp (mW1 (mW1 M 16 7 _) 16 8 _) 19 _ 16 8 = _
    rw [mUp_ne (by decide), mW1_s]
  have g3 : ∀ k, k ≠ 7 → k ≠ 8 → M3 16 k = M 16 k := fun k h1 h2 => by
    show mUp (mW1 (mW1 M 16 7 _) 16 8 _) 19 _ 16 k = _
    rw [mUp_ne (by decide), mW1_k h2, mW1_k h1]
  refine hP M3 ⟨⟨g7, g8, (g3 9 (by decide) (by decide)).trans r3, (g3 10 (by decide) (by decide)).trans r4, (g3 11 (by decide) (by decide)).trans r5⟩, fun j hj => ?_, fun q hq => ?_, fun q hq => ?_, fun i hi => ?_, fun i hi => ?_, ?_, ?_⟩ (fun d hd => f3 d (by omega) (by omega))
  · rw [show M3 (16 + 4) = M 20 from f3 20 (by decide) (by decide), ← aC_old (c := c) hj]
    exact r6 j (by omega)
  · rw [show M3 (16 + 2) = M 18 from f3 18 (by decide) (by decide)]
    exact r7 q hq
  · rw [show M3 (16 + 3) = M3 19 from rfl, hset]
    by_cases e : q = aTn x cs cs.length
    · rw [e, upd_s, r8 _ aTn_lt, aMk_in hlt hc]
      refine bt_ext (fun i hi => ?_)
      rw [bt_or, bt_and, bt_not hi, bt_fBit c hc i hi, bt_aHd hlt hi]
      by_cases e2 : i = c
      · subst e2
        rw [hbc]
        simp [hnm]
      · simp [e2]
    · rw [upd_n e, r8 q hq]
      exact aHd_other hlt hc k4 aTn_lt hq hbc e
  · rw [show M3 (16 + 5) = M 21 from f3 21 (by decide) (by decide), ← aLd_old (c := c) (by omega)]
    exact r9 i (by omega)
  · rw [show M3 (16 + 6) = M 22 from f3 22 (by decide) (by decide), ← aLd_old (c := c) (by omega)]
    exact r10 i hi
  · rw [show M3 (16 + 7) = M 23 from f3 23 (by decide) (by decide)]
    exact r11
  · rw [show M3 (16 + 7) = M 23 from f3 23 (by decide) (by decide)]
    exact r12
set_option maxHeartbeats 4000000 in
theorem lift_run_16 (g : mG) (M : mM) (P : mP) (x : aX) (dl : Nat → Int32) (a0 a1 : Int32) (cs : List Nat) (c : Nat) (hR : RpP 16 M x dl a0 a1 (cs ++ [c])) (hok : aOk x dl (cs ++ [c]))
    (hP : ∀ M', RpP 16 M' x dl a0 a1 cs → FrP 16 M M' → P none M') : mRun (mSx g) (f_X2_lift g) P (0, [some (.inr (some 16))], [], M) := by
  obtain ⟨⟨r1, r2, r3, r4, r5⟩, r6, r7, r8, r9, r10, r11, r12⟩ := hR
  have k3 : cs.length + 1 ≤ 32 := by have := hok.2.2.1; simpa using this
  have k2 := hok.2.1
  rw [List.length_append, List.length_singleton] at r1 r2 r6 r9 r10 r11 r12
  refine v_lift_0_16 g M P ⟨fun _ => ⟨n4, ?_⟩, fun z => absurd (by rw [r1]; exact nI_ne0 (by omega) (by omega)) z⟩
  rw [r1, nI_mod4 (by omega), nI_div4 (by omega)]
  refine ⟨fun hz => ?_, fun hz => ⟨n4, ?_⟩⟩
  · have hz' : (cs.length + 1) % 4 ≠ 0 := fun z => hz (by rw [z]; rfl)
    refine lift_b_16 g M P x dl a0 a1 cs c r1 r3 r4 r5 r6 r7 r8 r9 (fun i hi => r10 i (by omega)) ?_ ?_ hok hP
    · have := r11
      rw [show (cs.length + 1) / 4 = cs.length / 4 by omega, aWn_old (by omega)] at this
      exact this
    · have := r12
      rw [show (cs.length + 1) / 4 = cs.length / 4 by omega, aWn_old (by omega)] at this
      exact this
  · have hz' : (cs.length + 1) % 4 = 0 := (nI_eq (by omega) (by decide)).mp (Classical.not_not.mp hz)
    have hw4 : aLd x (cs ++ [c]) (cs.length / 4 + 1) < 4 := aLd_lt k2 _
    have e1 : aAt (M 22) 8 (nI ((cs.length + 1) / 4) - nI 1) = nI (aLd x (cs ++ [c]) (cs.length / 4 + 1)) := by
      rw [show (cs.length + 1) / 4 = cs.length / 4 + 1 by omega, pk_sub (by omega), show cs.length / 4 + 1 - 1 = cs.length / 4 by omega, aAt_in (by omega) (by decide)]
      exact r10 _ (by omega)
    rw [e1, nI_and1 _ (by omega), aAt_in (by omega) (by decide)]
    intro M1
    have hset : M1 23 = upd (M 23) (aLd x (cs ++ [c]) (cs.length / 4 + 1) % 2) (M 23 (aLd x (cs ++ [c]) (cs.length / 4 + 1) % 2) + -1) := by
      show mUp M 23 (aSet (M 23) 2 (nI (aLd x (cs ++ [c]) (cs.length / 4 + 1) % 2)) _) 23 = _
      rw [mUp_at, aSet_in (by omega) (by decide)]
    have f1 : ∀ d, d ≠ 23 → M1 d = M d := fun d h => mUp_ne h
    have sub1 : ∀ (k : Nat) (z : Int32), nI (k + 1) + z + -1 = nI k + z := fun k z => by
      rw [← nI_add, Int32.add_assoc, Int32.add_assoc, Int32.add_comm (nI 1), Int32.add_assoc, show (-1 : Int32) + nI 1 = 0 by decide, Int32.add_zero]
    rw [show (cs.length + 1) / 4 = cs.length / 4 + 1 by omega] at r11 r12
    rw [aWn, aWn_old (by omega)] at r11 r12
    refine lift_b_16 g M1 P x dl a0 a1 cs c r1 r3 r4 r5 (fun j hj => (congrFun (f1 20 (by decide)) j).trans (r6 j hj)) (fun j hj => (congrFun (f1 18 (by decide)) j).trans (r7 j hj)) (fun j hj => (congrFun (f1 19 (by decide)) j).trans (r8 j hj)) (fun j hj => (congrFun (f1 21 (by decide)) j).trans (r9 j hj)) (fun j hj => (congrFun (f1 22 (by decide)) j).trans (r10 j (by omega))) ?_ ?_ hok (fun M' h1 h2 => hP M' h1 (fun d hd => by rw [h2 d hd]; exact f1 d (by omega)))
    · rw [hset]
      by_cases e : aLd x (cs ++ [c]) (cs.length / 4 + 1) % 2 = 0
      · rw [e, upd_s]
        rw [if_pos e] at r11
        exact (congrArg (fun z => z + (-1 : Int32)) r11).trans (sub1 _ _)
      · rw [upd_n (Ne.symm e)]
        rw [if_neg e] at r11
        exact r11
    · rw [hset]
      by_cases e : aLd x (cs ++ [c]) (cs.length / 4 + 1) % 2 = 1
      · rw [e, upd_s]
        rw [if_pos e] at r12
        exact (congrArg (fun z => z + (-1 : Int32)) r12).trans (sub1 _ _)
      · rw [upd_n (Ne.symm e)]
        rw [if_neg e] at r12
        exact r12
theorem v_lift_0_29 (g : mG) (M : mM) (P : mP) 
    (h : (¬ (M 29 7) = 0 → ¬ (nI 4) = 0 ∧ ((¬ ((M 29 7) - (M 29 7) / (nI 4) * (nI 4)) = 0 → mRun (mSx g) (f_X2_lift g) P (37, [some (.inr (some 29))], [], M)) ∧ (¬ (¬ ((M 29 7) - (M 29 7) / (nI 4) * (nI 4)) = 0) → ¬ (nI 4) = 0 ∧ ((let M1 : mM := mUp M 36 (aSet (M 36) 2 ((aAt (M 35) 8 (((M 29 7) / (nI 4)) - (nI 1))) &&& (nI 1)) ((aAt (M 36) 2 ((aAt (M 35) 8 (((M 29 7) / (nI 4)) - (nI 1))) &&& (nI 1))) + (-1))); mRun (mSx g) (f_X2_lift g) P (37, [some (.inr (some 29))], [], M1)))))) ∧ (¬ (¬ (M 29 7) = 0) → P none M)) :
    mRun (mSx g) (f_X2_lift g) P (0, [some (.inr (some 29))], [], M) := mRun.vc (m_X2_lift g) [37] 21 h

theorem v_lift_37_29 (g : mG) (M : mM) (P : mP) 
    (h : let M1 : mM := mW1 M 29 7 ((M 29 7) - (nI 1)); ¬ (nI 4) = 0 ∧ ((let M2 : mM := mW1 M1 29 8 (((aAt (M 34) 8 (((M 29 7) - (nI 1)) / (nI 4))) + ((M 29 7) - (nI 1))) &&& (nI 3)); let M3 : mM := mUp M2 32 (aSet (M 32) 4 (((aAt (M 34) 8 (((M 29 7) - (nI 1)) / (nI 4))) + ((M 29 7) - (nI 1))) &&& (nI 3)) ((aAt (M 32) 4 (((aAt (M 34) 8 (((M 29 7) - (nI 1)) / (nI 4))) + ((M 29 7) - (nI 1))) &&& (nI 3))) ||| (fBit (aAt (M 33) 32 ((M 29 7) - (nI 1)))))); P none M3))) :
    mRun (mSx g) (f_X2_lift g) P (37, [some (.inr (some 29))], [], M) := mRun.vc (m_X2_lift g) [] 36 h

set_option maxHeartbeats 4000000 in
theorem lift_b_29 (g : mG) (M : mM) (P : mP) (x : aX) (dl : Nat → Int32) (a0 a1 : Int32) (cs : List Nat) (c : Nat) (r1 : M 29 7 = nI (cs.length + 1)) (r3 : M 29 9 = x.1) (r4 : M 29 10 = nI x.2.1) (r5 : M 29 11 = x.2.2.1) (r6 : ∀ j, j < cs.length + 1 → M 33 j = nI (aC (cs ++ [c]) j)) (r7 : ∀ q, q < 4 → M 31 q = dl q) (r8 : ∀ q, q < 4 → M 32 q = aHd dl (cs ++ [c]) q)
    (r9 : ∀ i, 4 * i < cs.length + 1 → M 34 i = nI (aLd x (cs ++ [c]) i)) (r10 : ∀ i, 4 * i + 4 ≤ cs.length → M 35 i = nI (aLd x (cs ++ [c]) (i + 1))) (r11 : M 36 0 = nI (aWn x cs 0 (cs.length / 4)) + a0) (r12 : M 36 1 = nI (aWn x cs 1 (cs.length / 4)) + a1) (hok : aOk x dl (cs ++ [c]))
    (hP : ∀ M', RpP 29 M' x dl a0 a1 cs → FrP 29 M M' → P none M') : mRun (mSx g) (f_X2_lift g) P (37, [some (.inr (some 29))], [], M) := by
  obtain ⟨hok1, hc, hbc, hnm⟩ := hok.old
  have hlt := aOk.lt hok1
  obtain ⟨k1, k2, k3, k4, k5⟩ := hok
  rw [List.length_append, List.length_singleton] at k3
  have hl4 := aLd_lt (x := x) (cs := cs) k2 (cs.length / 4)
  have e0 : M 29 7 - nI 1 = nI cs.length := by rw [r1, pk_sub (by omega)]; rfl
  have e1 : aAt (M 34) 8 (nI (cs.length / 4)) = nI (aLd x cs (cs.length / 4)) := by
    rw [aAt_in (by omega) (by decide), ← aLd_old (c := c) (by omega)]
    exact r9 _ (by omega)
  have e2 : (nI (aLd x cs (cs.length / 4)) + nI cs.length) &&& nI 3 = nI (aTn x cs cs.length) := by
    rw [nI_add, nI_and3' _ (by omega)]
    unfold aTn
    congr 1
    omega
  have e3 : aAt (M 33) 32 (nI cs.length) = nI c := by
    rw [aAt_in (by omega) (by decide), ← aC_new (cs := cs) (c := c)]
    exact (r6 _ (by omega)).trans (by rw [aC_new])
  refine v_lift_37_29 g M P ?_
  rw [e0, nI_div4 (by omega), e1, e2, e3]
  intro M1
  refine ⟨n4, ?_⟩
  intro M2 M3
  have hset : M3 32 = upd (M 32) (aTn x cs cs.length) (M 32 (aTn x cs cs.length) ||| fBit (nI c)) := by
    show mUp M2 32 (aSet (M 32) 4 (nI (aTn x cs cs.length)) (aAt (M 32) 4 (nI (aTn x cs cs.length)) ||| fBit (nI c))) 32 = _
    rw [mUp_at, aSet_in aTn_lt (by decide), aAt_in aTn_lt (by decide)]
  have f3 : ∀ d, d ≠ 29 → d ≠ 32 → M3 d = M d := fun d h1 h2 => by
    show mUp (mW1 (mW1 M 29 7 _) 29 8 _) 32 _ d = _
    rw [mUp_ne h2, mW1_c h1, mW1_c h1]
  have g7 : M3 29 7 = nI cs.length := by
    show mUp (mW1 (mW1 M 29 7 _) 29 8 _) 32 _ 29 7 = _
    rw [mUp_ne (by decide), mW1_k (by decide), mW1_s]
  have g8 : M3 29 8 = nI (aTn x cs cs.length) := by
    show mUp (mW1 (mW1 M 29 7 _) 29 8 _) 32 _ 29 8 = _
    rw [mUp_ne (by decide), mW1_s]
  have g3 : ∀ k, k ≠ 7 → k ≠ 8 → M3 29 k = M 29 k := fun k h1 h2 => by
    show mUp (mW1 (mW1 M 29 7 _) 29 8 _) 32 _ 29 k = _
    rw [mUp_ne (by decide), mW1_k h2, mW1_k h1]
  refine hP M3 ⟨⟨g7, g8, (g3 9 (by decide) (by decide)).trans r3, (g3 10 (by decide) (by decide)).trans r4, (g3 11 (by decide) (by decide)).trans r5⟩, fun j hj => ?_, fun q hq => ?_, fun q hq => ?_, fun i hi => ?_, fun i hi => ?_, ?_, ?_⟩ (fun d hd => f3 d (by omega) (by omega))
  · rw [show M3 (29 + 4) = M 33 from f3 33 (by decide) (by decide), ← aC_old (c := c) hj]
    exact r6 j (by omega)
  · rw [show M3 (29 + 2) = M 31 from f3 31 (by decide) (by decide)]
    exact r7 q hq
  · rw [show M3 (29 + 3) = M3 32 from rfl, hset]
    by_cases e : q = aTn x cs cs.length
    · rw [e, upd_s, r8 _ aTn_lt, aMk_in hlt hc]
      refine bt_ext (fun i hi => ?_)
      rw [bt_or, bt_and, bt_not hi, bt_fBit c hc i hi, bt_aHd hlt hi]
      by_cases e2 : i = c
      · subst e2
        rw [hbc]
        simp [hnm]
      · simp [e2]
    · rw [upd_n e, r8 q hq]
      exact aHd_other hlt hc k4 aTn_lt hq hbc e
  · rw [show M3 (29 + 5) = M 34 from f3 34 (by decide) (by decide), ← aLd_old (c := c) (by omega)]
    exact r9 i (by omega)
  · rw [show M3 (29 + 6) = M 35 from f3 35 (by decide) (by decide), ← aLd_old (c := c) (by omega)]
    exact r10 i hi
  · rw [show M3 (29 + 7) = M 36 from f3 36 (by decide) (by decide)]
    exact r11
  · rw [show M3 (29 + 7) = M 36 from f3 36 (by decide) (by decide)]
    exact r12
set_option maxHeartbeats 4000000 in
theorem lift_run_29 (g : mG) (M : mM) (P : mP) (x : aX) (dl : Nat → Int32) (a0 a1 : Int32) (cs : List Nat) (c : Nat) (hR : RpP 29 M x dl a0 a1 (cs ++ [c])) (hok : aOk x dl (cs ++ [c]))
    (hP : ∀ M', RpP 29 M' x dl a0 a1 cs → FrP 29 M M' → P none M') : mRun (mSx g) (f_X2_lift g) P (0, [some (.inr (some 29))], [], M) := by
  obtain ⟨⟨r1, r2, r3, r4, r5⟩, r6, r7, r8, r9, r10, r11, r12⟩ := hR
  have k3 : cs.length + 1 ≤ 32 := by have := hok.2.2.1; simpa using this
  have k2 := hok.2.1
  rw [List.length_append, List.length_singleton] at r1 r2 r6 r9 r10 r11 r12
  refine v_lift_0_29 g M P ⟨fun _ => ⟨n4, ?_⟩, fun z => absurd (by rw [r1]; exact nI_ne0 (by omega) (by omega)) z⟩
  rw [r1, nI_mod4 (by omega), nI_div4 (by omega)]
  refine ⟨fun hz => ?_, fun hz => ⟨n4, ?_⟩⟩
  · have hz' : (cs.length + 1) % 4 ≠ 0 := fun z => hz (by rw [z]; rfl)
    refine lift_b_29 g M P x dl a0 a1 cs c r1 r3 r4 r5 r6 r7 r8 r9 (fun i hi => r10 i (by omega)) ?_ ?_ hok hP
    · have := r11
      rw [show (cs.length + 1) / 4 = cs.length / 4 by omega, aWn_old (by omega)] at this
      exact this
    · have := r12
      rw [show (cs.length + 1) / 4 = cs.length / 4 by omega, aWn_old (by omega)] at this
      exact this
  · have hz' : (cs.length + 1) % 4 = 0 := (nI_eq (by omega) (by decide)).mp (Classical.not_not.mp hz)
    have hw4 : aLd x (cs ++ [c]) (cs.length / 4 + 1) < 4 := aLd_lt k2 _
    have e1 : aAt (M 35) 8 (nI ((cs.length + 1) / 4) - nI 1) = nI (aLd x (cs ++ [c]) (cs.length / 4 + 1)) := by
      rw [show (cs.length + 1) / 4 = cs.length / 4 + 1 by omega, pk_sub (by omega), show cs.length / 4 + 1 - 1 = cs.length / 4 by omega, aAt_in (by omega) (by decide)]
      exact r10 _ (by omega)
    rw [e1, nI_and1 _ (by omega), aAt_in (by omega) (by decide)]
    intro M1
    have hset : M1 36 = upd (M 36) (aLd x (cs ++ [c]) (cs.length / 4 + 1) % 2) (M 36 (aLd x (cs ++ [c]) (cs.length / 4 + 1) % 2) + -1) := by
      show mUp M 36 (aSet (M 36) 2 (nI (aLd x (cs ++ [c]) (cs.length / 4 + 1) % 2)) _) 36 = _
      rw [mUp_at, aSet_in (by omega) (by decide)]
    have f1 : ∀ d, d ≠ 36 → M1 d = M d := fun d h => mUp_ne h
    have sub1 : ∀ (k : Nat) (z : Int32), nI (k + 1) + z + -1 = nI k + z := fun k z => by
      rw [← nI_add, Int32.add_assoc, Int32.add_assoc, Int32.add_comm (nI 1), Int32.add_assoc, show (-1 : Int32) + nI 1 = 0 by decide, Int32.add_zero]
    rw [show (cs.length + 1) / 4 = cs.length / 4 + 1 by omega] at r11 r12
    rw [aWn, aWn_old (by omega)] at r11 r12
    refine lift_b_29 g M1 P x dl a0 a1 cs c r1 r3 r4 r5 (fun j hj => (congrFun (f1 33 (by decide)) j).trans (r6 j hj)) (fun j hj => (congrFun (f1 31 (by decide)) j).trans (r7 j hj)) (fun j hj => (congrFun (f1 32 (by decide)) j).trans (r8 j hj)) (fun j hj => (congrFun (f1 34 (by decide)) j).trans (r9 j hj)) (fun j hj => (congrFun (f1 35 (by decide)) j).trans (r10 j (by omega))) ?_ ?_ hok (fun M' h1 h2 => hP M' h1 (fun d hd => by rw [h2 d hd]; exact f1 d (by omega)))
    · rw [hset]
      by_cases e : aLd x (cs ++ [c]) (cs.length / 4 + 1) % 2 = 0
      · rw [e, upd_s]
        rw [if_pos e] at r11
        exact (congrArg (fun z => z + (-1 : Int32)) r11).trans (sub1 _ _)
      · rw [upd_n (Ne.symm e)]
        rw [if_neg e] at r11
        exact r11
    · rw [hset]
      by_cases e : aLd x (cs ++ [c]) (cs.length / 4 + 1) % 2 = 1
      · rw [e, upd_s]
        rw [if_pos e] at r12
        exact (congrArg (fun z => z + (-1 : Int32)) r12).trans (sub1 _ _)
      · rw [upd_n (Ne.symm e)]
        rw [if_neg e] at r12
        exact r12
theorem run_X2_lift : mRunOf 1 t_X2_lift f_X2_lift := fun g as M P hT => by
  obtain ⟨⟨p, ⟨x, dl, a0, a1, cs⟩, c⟩, ⟨h1, rfl, h3, h4⟩, hP⟩ := hT
  refine ⟨Nat.le_of_ble_eq_true rfl, ?_⟩
  dsimp only at h1 h3 h4
  rcases pl_two h1 with rfl | rfl
  · exact lift_run_16 g M P x dl a0 a1 cs c h3 h4 (fun M' h8 h9 => hP M' ⟨h8, h9⟩)
  · exact lift_run_29 g M P x dl a0 a1 cs c h3 h4 (fun M' h8 h9 => hP M' ⟨h8, h9⟩)
theorem ok_X2_lift : mOK yX2_lift cX2_lift 1 (none) 3 t_X2_lift := mOK.of f_X2_lift (by decide) (fun _ => rfl) (fun g => mCodeOK kk_X2_lift) (fun g => mFldL fk_RX2 rfl) (fun g idx v h => by cases h) (fun g idx v h => by cases h) (mCalL (l := l_X2_lift) (List.forall_mem_cons.mpr ⟨mSite.V (idx := 79) ok_X2_full (by decide) (by decide) rv_X2_full wc_X2_full wk_RX2_79 wi_X2_full wl_X2_full wn_RX2 wd_X2_full, List.forall_mem_cons.mpr ⟨mSite.SN (idx := 56) ok_X7_at (by decide) (by decide) wc_X7_at wm_RX2_56 wt_X7_at wn_RX7 wd_X7_at, List.forall_mem_cons.mpr ⟨mSite.V (idx := 106) ok_X2_addWon (by decide) (by decide) rv_X2_addWon wc_X2_addWon wk_RX2_106 wi_X2_addWon wl_X2_addWon wn_RX2 wd_X2_addWon, List.forall_mem_cons.mpr ⟨mSite.SN (idx := 60) ok_X7_bitOf (by decide) (by decide) wc_X7_bitOf wm_RX2_60 wt_X7_bitOf wn_RX7 wd_X7_bitOf, List.forall_mem_cons.mpr ⟨mSite.SN (idx := 48) ok_X7_set (by decide) (by decide) wc_X7_set wm_RX2_48 wt_X7_set wn_RX7 wd_X7_set, fun _ h => absurd h List.not_mem_nil⟩⟩⟩⟩⟩) (fun _ => rfl)) run_X2_lift
end
section
/-! ===== CLASS Play: become, clear, dealOut ===== -/
def k_X2_clear : List (Nat × mI) := [(0, .aload_n 0, 1, 0, 0, []),
  (1, .getfield 15, 3, 0, 0, []),
  (4, .iconst 0, 1, 0, nI 0, []),
  (5, .invokestatic 33, 3, 0, 0, []),
  (8, .aload_n 0, 1, 0, 0, []),
  (9, .getfield 18, 3, 0, 0, []),
  (12, .iconst 0, 1, 0, nI 0, []),
  (13, .invokestatic 33, 3, 0, 0, []),
  (16, .aload_n 0, 1, 0, 0, []),
  (17, .getfield 30, 3, 0, 0, []),
  (20, .iconst 0, 1, 0, nI 0, []),
  (21, .invokestatic 33, 3, 0, 0, []),
  (24, .aload_n 0, 1, 0, 0, []),
  (25, .iconst 0, 1, 0, nI 0, []),
  (26, .putfield 37, 3, 0, 0, []),
  (29, .aload_n 0, 1, 0, 0, []),
  (30, .iconst 0, 1, 0, nI 0, []),
  (31, .iconst 4, 1, 0, nI 4, []),
  (32, .iconst 0, 1, 0, nI 0, []),
  (33, .iconst 0, 1, 0, nI 0, []),
  (34, .invokevirtual 41, 3, 0, 0, []),
  (37, .return_, 1, 0, 0, [])]
theorem kk_X2_clear : (k_X2_clear.all fun e => mChk cX2_clear e.1 e.2) = true := by decide +kernel
def l_X2_clear : List (Nat × Nat × (mG → mT)) := [(3 * 33 + 1, 2, t_X7_fill), (3 * 41, 4 + 1, t_X2_begin)]
def f_X2_clear (g : mG) : mF := (mLk k_X2_clear, mLk fl_RX2, mLk (l_X2_clear.map fun e => (e.1, e.2.1, e.2.2 g)), mLk ([] : List (Nat × mV)), mLk ([] : List (Nat × mV)), none)
theorem m_X2_clear (g : mG) : mMono (f_X2_clear g) := mMonoL (g := g) (l := l_X2_clear) (List.forall_mem_cons.mpr ⟨mo_X7_fill, List.forall_mem_cons.mpr ⟨mo_X2_begin, fun _ h => absurd h List.not_mem_nil⟩⟩) rfl
def t_X2_clear : mG → mT := mIV pl_X2 f_X2_clear 1 23
theorem mo_X2_clear : mMn t_X2_clear := mIV_mono m_X2_clear
theorem rv_X2_clear : mHasR yX2_clear 0 t_X2_clear := mIV_recv is_X2
theorem ok_X2_clear : mOK yX2_clear cX2_clear 1 (none) 2 t_X2_clear := mOK.of f_X2_clear (by decide) (fun _ => rfl) (fun g => mCodeOK kk_X2_clear) (fun g => mFldL fk_RX2 rfl) (fun g idx v h => by cases h) (fun g idx v h => by cases h) (mCalL (l := l_X2_clear) (List.forall_mem_cons.mpr ⟨mSite.SN (idx := 33) ok_X7_fill (by decide) (by decide) wc_X7_fill wm_RX2_33 wt_X7_fill wn_RX7 wd_X7_fill, List.forall_mem_cons.mpr ⟨mSite.V (idx := 41) ok_X2_begin (by decide) (by decide) rv_X2_begin wc_X2_begin wk_RX2_41 wi_X2_begin wl_X2_begin wn_RX2 wd_X2_begin, fun _ h => absurd h List.not_mem_nil⟩⟩) (fun _ => rfl)) (mIV_run m_X2_clear)

def k_X1_begin : List (Nat × mI) := [(0, .aload_n 0, 1, 0, 0, []),
  (1, .getfield 9, 3, 0, 0, []),
  (4, .iconst (-1), 1, 0, -1, []),
  (5, .invokestatic 15, 3, 0, 0, []),
  (8, .aload_n 0, 1, 0, 0, []),
  (9, .iload_n 1, 1, 1, 0, []),
  (10, .putfield 19, 3, 0, 0, []),
  (13, .aload_n 0, 1, 0, 0, []),
  (14, .iconst (-1), 1, 0, -1, []),
  (15, .putfield 23, 3, 0, 0, []),
  (18, .aload_n 0, 1, 0, 0, []),
  (19, .iconst (-1), 1, 0, -1, []),
  (20, .putfield 26, 3, 0, 0, []),
  (23, .aload_n 0, 1, 0, 0, []),
  (24, .iconst (-1), 1, 0, -1, []),
  (25, .putfield 29, 3, 0, 0, []),
  (28, .aload_n 0, 1, 0, 0, []),
  (29, .iconst 0, 1, 0, nI 0, []),
  (30, .putfield 32, 3, 0, 0, []),
  (33, .aload_n 0, 1, 0, 0, []),
  (34, .iconst 0, 1, 0, nI 0, []),
  (35, .putfield 35, 3, 0, 0, []),
  (38, .aload_n 0, 1, 0, 0, []),
  (39, .iconst (-1), 1, 0, -1, []),
  (40, .putfield 38, 3, 0, 0, []),
  (43, .return_, 1, 0, 0, [])]
theorem kk_X1_begin : (k_X1_begin.all fun e => mChk cX1_begin e.1 e.2) = true := by decide +kernel
def l_X1_begin : List (Nat × Nat × (mG → mT)) := [(3 * 15 + 1, 2, t_X7_fill)]
def f_X1_begin (g : mG) : mF := (mLk k_X1_begin, mLk fl_RX1, mLk (l_X1_begin.map fun e => (e.1, e.2.1, e.2.2 g)), mLk ([] : List (Nat × mV)), mLk ([] : List (Nat × mV)), none)
theorem m_X1_begin (g : mG) : mMono (f_X1_begin g) := mMonoL (g := g) (l := l_X1_begin) (List.forall_mem_cons.mpr ⟨mo_X7_fill, fun _ h => absurd h List.not_mem_nil⟩) rfl
def t_X1_begin : mG → mT := mIV pl_X1 f_X1_begin 2 27
theorem mo_X1_begin : mMn t_X1_begin := mIV_mono m_X1_begin
theorem rv_X1_begin : mHasR yX1_begin 1 t_X1_begin := mIV_recv is_X1
theorem ok_X1_begin : mOK yX1_begin cX1_begin 2 (none) 2 t_X1_begin := mOK.of f_X1_begin (by decide) (fun _ => rfl) (fun g => mCodeOK kk_X1_begin) (fun g => mFldL fk_RX1 rfl) (fun g idx v h => by cases h) (fun g idx v h => by cases h) (mCalL (l := l_X1_begin) (List.forall_mem_cons.mpr ⟨mSite.SN (idx := 15) ok_X7_fill (by decide) (by decide) wc_X7_fill wm_RX1_15 wt_X7_fill wn_RX7 wd_X7_fill, fun _ h => absurd h List.not_mem_nil⟩) (fun _ => rfl)) (mIV_run m_X1_begin)

def k_X3_clear : List (Nat × mI) := [(0, .aload_n 0, 1, 0, 0, []),
  (1, .getfield 9, 3, 0, 0, []),
  (4, .iconst 0, 1, 0, nI 0, []),
  (5, .invokestatic 15, 3, 0, 0, []),
  (8, .aload_n 0, 1, 0, 0, []),
  (9, .iconst 0, 1, 0, nI 0, []),
  (10, .putfield 19, 3, 0, 0, []),
  (13, .return_, 1, 0, 0, [])]
theorem kk_X3_clear : (k_X3_clear.all fun e => mChk cX3_clear e.1 e.2) = true := by decide +kernel
def l_X3_clear : List (Nat × Nat × (mG → mT)) := [(3 * 15 + 1, 2, t_X7_fill)]
def f_X3_clear (g : mG) : mF := (mLk k_X3_clear, mLk fl_RX3, mLk (l_X3_clear.map fun e => (e.1, e.2.1, e.2.2 g)), mLk ([] : List (Nat × mV)), mLk ([] : List (Nat × mV)), none)
theorem m_X3_clear (g : mG) : mMono (f_X3_clear g) := mMonoL (g := g) (l := l_X3_clear) (List.forall_mem_cons.mpr ⟨mo_X7_fill, fun _ h => absurd h List.not_mem_nil⟩) rfl
def t_X3_clear : mG → mT := mIV pl_X3 f_X3_clear 1 9
theorem mo_X3_clear : mMn t_X3_clear := mIV_mono m_X3_clear
theorem rv_X3_clear : mHasR yX3_clear 0 t_X3_clear := mIV_recv is_X3
theorem ok_X3_clear : mOK yX3_clear cX3_clear 1 (none) 2 t_X3_clear := mOK.of f_X3_clear (by decide) (fun _ => rfl) (fun g => mCodeOK kk_X3_clear) (fun g => mFldL fk_RX3 rfl) (fun g idx v h => by cases h) (fun g idx v h => by cases h) (mCalL (l := l_X3_clear) (List.forall_mem_cons.mpr ⟨mSite.SN (idx := 15) ok_X7_fill (by decide) (by decide) wc_X7_fill wm_RX3_15 wt_X7_fill wn_RX7 wd_X7_fill, fun _ h => absurd h List.not_mem_nil⟩) (fun _ => rfl)) (mIV_run m_X3_clear)

def pre_X2_become (q : aP) (as : List mV) (M : mM) : Prop := as = [.inr (some 29), .inr (some 16)] ∧ RpS 16 M q ∧ q.2.2.2.2.length ≤ 32
def post_X2_become (q : aP) (_ : List mV) (M : mM) (M' : mM) : Prop := RpS 29 M' q ∧ FrP 29 M M'
abbrev t_X2_become : mG → mT := mRv pre_X2_become post_X2_become
theorem mo_X2_become : mMn t_X2_become := mRv_mono
theorem rv_X2_become : mHasR yX2_become 1 t_X2_become := by
  intro g as M P hT hl
  obtain ⟨q, ⟨h2, -, -⟩, -⟩ := hT
  exact ⟨_, _, h2, is_X2 g _ rfl⟩
theorem cpy_0 {f g : Nat → Int32} {n j : Nat} (h : j < n) : va_cpy f g 0 0 n j = f j := by
  rw [pk_cpy_in (Nat.zero_le _) (by omega)]
  congr 1
  omega
def k_X2_become : List (Nat × mI) := [(0, .aload_n 1, 1, 1, 0, []),
  (1, .getfield 15, 3, 0, 0, []),
  (4, .aload_n 0, 1, 0, 0, []),
  (5, .getfield 15, 3, 0, 0, []),
  (8, .invokestatic 63, 3, 0, 0, []),
  (11, .aload_n 1, 1, 1, 0, []),
  (12, .getfield 18, 3, 0, 0, []),
  (15, .aload_n 0, 1, 0, 0, []),
  (16, .getfield 18, 3, 0, 0, []),
  (19, .invokestatic 63, 3, 0, 0, []),
  (22, .aload_n 1, 1, 1, 0, []),
  (23, .getfield 21, 3, 0, 0, []),
  (26, .aload_n 0, 1, 0, 0, []),
  (27, .getfield 21, 3, 0, 0, []),
  (30, .invokestatic 63, 3, 0, 0, []),
  (33, .aload_n 1, 1, 1, 0, []),
  (34, .getfield 24, 3, 0, 0, []),
  (37, .aload_n 0, 1, 0, 0, []),
  (38, .getfield 24, 3, 0, 0, []),
  (41, .invokestatic 63, 3, 0, 0, []),
  (44, .aload_n 1, 1, 1, 0, []),
  (45, .getfield 27, 3, 0, 0, []),
  (48, .aload_n 0, 1, 0, 0, []),
  (49, .getfield 27, 3, 0, 0, []),
  (52, .invokestatic 63, 3, 0, 0, []),
  (55, .aload_n 1, 1, 1, 0, []),
  (56, .getfield 30, 3, 0, 0, []),
  (59, .aload_n 0, 1, 0, 0, []),
  (60, .getfield 30, 3, 0, 0, []),
  (63, .invokestatic 63, 3, 0, 0, []),
  (66, .aload_n 0, 1, 0, 0, []),
  (67, .aload_n 1, 1, 1, 0, []),
  (68, .getfield 37, 3, 0, 0, []),
  (71, .putfield 37, 3, 0, 0, []),
  (74, .aload_n 0, 1, 0, 0, []),
  (75, .aload_n 1, 1, 1, 0, []),
  (76, .getfield 67, 3, 0, 0, []),
  (79, .aload_n 1, 1, 1, 0, []),
  (80, .getfield 70, 3, 0, 0, []),
  (83, .aload_n 1, 1, 1, 0, []),
  (84, .getfield 73, 3, 0, 0, []),
  (87, .aload_n 1, 1, 1, 0, []),
  (88, .getfield 76, 3, 0, 0, []),
  (91, .invokevirtual 41, 3, 0, 0, []),
  (94, .return_, 1, 0, 0, [])]
theorem kk_X2_become : (k_X2_become.all fun e => mChk cX2_become e.1 e.2) = true := by decide +kernel
def l_X2_become : List (Nat × Nat × (mG → mT)) := [(3 * 63 + 1, 2, t_X7_take), (3 * 41, 4 + 1, t_X2_begin)]
def f_X2_become (g : mG) : mF := (mLk k_X2_become, mLk fl_RX2, mLk (l_X2_become.map fun e => (e.1, e.2.1, e.2.2 g)), mLk ([] : List (Nat × mV)), mLk ([] : List (Nat × mV)), none)
theorem m_X2_become (g : mG) : mMono (f_X2_become g) := mMonoL (g := g) (l := l_X2_become) (List.forall_mem_cons.mpr ⟨mo_X7_take, List.forall_mem_cons.mpr ⟨mo_X2_begin, fun _ h => absurd h List.not_mem_nil⟩⟩) rfl

set_option maxRecDepth 100000 in
theorem v_become (g : mG) (M : mM) (P : mP) 
    (h : let M1 : mM := mUp M 31 (va_cpy (M 18) (M 31) 0 0 4); let M2 : mM := mUp M1 32 (va_cpy (M 19) (M 32) 0 0 4); let M3 : mM := mUp M2 33 (va_cpy (M 20) (M 33) 0 0 32); let M4 : mM := mUp M3 34 (va_cpy (M 21) (M 34) 0 0 8); let M5 : mM := mUp M4 35 (va_cpy (M 22) (M 35) 0 0 8); let M6 : mM := mUp M5 36 (va_cpy (M 23) (M 36) 0 0 2); let M7 : mM := mW1 M6 29 7 (M 16 7); let M8 : mM := mW1 M7 29 8 (M 16 8); let M9 : mM := mW1 M8 29 9 (M 16 9); let M10 : mM := mW1 M9 29 10 (M 16 10); let M11 : mM := mW1 M10 29 11 (M 16 11); P none M11) :
    mRun (mSx g) (f_X2_become g) P (0, [some (.inr (some 29)), some (.inr (some 16))], [], M) := mRun.vc (m_X2_become g) [] 45 h

theorem run_X2_become : mRunOf 2 t_X2_become f_X2_become := fun g as M P hT => by
  obtain ⟨⟨x, dl, a0, a1, cs⟩, ⟨rfl, hR, hn32⟩, hP⟩ := hT
  refine ⟨Nat.le_of_ble_eq_true rfl, ?_⟩
  obtain ⟨⟨r1, r2, r3, r4, r5⟩, r6, r7, r8, r9, r10, r11, r12⟩ := hR
  have hlen : cs.length ≤ 32 := hn32
  by_cases hn : cs.length ≤ 32
  · refine v_become g M P ?_
    intro M1 M2 M3 M4 M5 M6 M7 M8 M9 M10 M11
    have q6 : ∀ d, d ≠ 29 → M11 d = M6 d := fun d h => by
      show mW1 (mW1 (mW1 (mW1 (mW1 M6 29 7 _) 29 8 _) 29 9 _) 29 10 _) 29 11 _ d = _
      rw [mW1_c h, mW1_c h, mW1_c h, mW1_c h, mW1_c h]
    have e31 : M11 31 = va_cpy (M 18) (M 31) 0 0 4 := by rw [q6 31 (by decide)]; show mUp (mUp (mUp (mUp (mUp M1 32 _) 33 _) 34 _) 35 _) 36 _ 31 = _; rw [mUp_ne (by decide), mUp_ne (by decide), mUp_ne (by decide), mUp_ne (by decide), mUp_ne (by decide)]; exact mUp_at
    have e32 : M11 32 = va_cpy (M 19) (M 32) 0 0 4 := by rw [q6 32 (by decide)]; show mUp (mUp (mUp (mUp M2 33 _) 34 _) 35 _) 36 _ 32 = _; rw [mUp_ne (by decide), mUp_ne (by decide), mUp_ne (by decide), mUp_ne (by decide)]; exact mUp_at
    have e33 : M11 33 = va_cpy (M 20) (M 33) 0 0 32 := by rw [q6 33 (by decide)]; show mUp (mUp (mUp M3 34 _) 35 _) 36 _ 33 = _; rw [mUp_ne (by decide), mUp_ne (by decide), mUp_ne (by decide)]; exact mUp_at
    have e34 : M11 34 = va_cpy (M 21) (M 34) 0 0 8 := by rw [q6 34 (by decide)]; show mUp (mUp M4 35 _) 36 _ 34 = _; rw [mUp_ne (by decide), mUp_ne (by decide)]; exact mUp_at
    have e35 : M11 35 = va_cpy (M 22) (M 35) 0 0 8 := by rw [q6 35 (by decide)]; show mUp M5 36 _ 35 = _; rw [mUp_ne (by decide)]; exact mUp_at
    have e36 : M11 36 = va_cpy (M 23) (M 36) 0 0 2 := by rw [q6 36 (by decide)]; exact mUp_at
    have g7 : M11 29 7 = M 16 7 := by show mW1 (mW1 (mW1 (mW1 (mW1 M6 29 7 _) 29 8 _) 29 9 _) 29 10 _) 29 11 _ 29 7 = _; rw [mW1_k (by decide), mW1_k (by decide), mW1_k (by decide), mW1_k (by decide), mW1_s]
    have g8 : M11 29 8 = M 16 8 := by show mW1 (mW1 (mW1 (mW1 M7 29 8 _) 29 9 _) 29 10 _) 29 11 _ 29 8 = _; rw [mW1_k (by decide), mW1_k (by decide), mW1_k (by decide), mW1_s]
    have g9 : M11 29 9 = M 16 9 := by show mW1 (mW1 (mW1 M8 29 9 _) 29 10 _) 29 11 _ 29 9 = _; rw [mW1_k (by decide), mW1_k (by decide), mW1_s]
    have g10 : M11 29 10 = M 16 10 := by show mW1 (mW1 M9 29 10 _) 29 11 _ 29 10 = _; rw [mW1_k (by decide), mW1_s]
    have g11 : M11 29 11 = M 16 11 := mW1_s
    refine hP M11 ⟨⟨⟨g7.trans r1, g8.trans r2, g9.trans r3, g10.trans r4, g11.trans r5⟩, fun j hj => ?_, fun q hq => ?_, fun q hq => ?_, fun i hi => ?_, fun i hi => ?_, ?_, ?_⟩, fun d hd => ?_⟩
    · rw [show M11 (29 + 4) = M11 33 from rfl, e33, cpy_0 (by omega)]
      exact r6 j hj
    · rw [show M11 (29 + 2) = M11 31 from rfl, e31, cpy_0 hq]
      exact r7 q hq
    · rw [show M11 (29 + 3) = M11 32 from rfl, e32, cpy_0 hq]
      exact r8 q hq
    · rw [show M11 (29 + 5) = M11 34 from rfl, e34, cpy_0 (by omega)]
      exact r9 i hi
    · rw [show M11 (29 + 6) = M11 35 from rfl, e35, cpy_0 (by omega)]
      exact r10 i hi
    · rw [show M11 (29 + 7) = M11 36 from rfl, e36, cpy_0 (by omega)]
      exact r11
    · rw [show M11 (29 + 7) = M11 36 from rfl, e36, cpy_0 (by omega)]
      exact r12
    · rw [q6 d (by omega)]
      show mUp (mUp (mUp (mUp (mUp (mUp M 31 _) 32 _) 33 _) 34 _) 35 _) 36 _ d = _
      rw [mUp_ne (by omega), mUp_ne (by omega), mUp_ne (by omega), mUp_ne (by omega), mUp_ne (by omega), mUp_ne (by omega)]
  · exact absurd hlen hn
theorem ok_X2_become : mOK yX2_become cX2_become 2 (none) 2 t_X2_become := mOK.of f_X2_become (by decide) (fun _ => rfl) (fun g => mCodeOK kk_X2_become) (fun g => mFldL fk_RX2 rfl) (fun g idx v h => by cases h) (fun g idx v h => by cases h) (mCalL (l := l_X2_become) (List.forall_mem_cons.mpr ⟨mSite.SN (idx := 63) ok_X7_take (by decide) (by decide) wc_X7_take wm_RX2_63 wt_X7_take wn_RX7 wd_X7_take, List.forall_mem_cons.mpr ⟨mSite.V (idx := 41) ok_X2_begin (by decide) (by decide) rv_X2_begin wc_X2_begin wk_RX2_41 wi_X2_begin wl_X2_begin wn_RX2 wd_X2_begin, fun _ h => absurd h List.not_mem_nil⟩⟩) (fun _ => rfl)) run_X2_become

/-! the deal by a seed -/
def aSw (f : Nat → Nat) (i j : Nat) : Nat → Nat := fun k => if k = j then f i else if k = i then f j else f k
/-- n changes of places: the seed then, the deck then -/
def aSh (z : Int32) : Nat → Int32 × (Nat → Nat)
  | 0 => (z, fun k => k)
  | n + 1 => (fNext (aSh z n).1, aSw (aSh z n).2 (31 - n) (ub (fNext (aSh z n).1) / 512 % (32 - n)))
def aDeck (z : Int32) : Nat → Nat := (aSh z 31).2
theorem aSw_lt {f : Nat → Nat} {i j : Nat} (h : ∀ k, k < 32 → f k < 32) (hi : i < 32) (hj : j < 32) : ∀ k, k < 32 → aSw f i j k < 32 := fun k hk => by
  unfold aSw
  split
  · exact h i hi
  · split
    · exact h j hj
    · exact h k hk
theorem aSh_lt (z : Int32) : ∀ n, n ≤ 31 → ∀ k, k < 32 → (aSh z n).2 k < 32
  | 0, _, k, hk => hk
  | n + 1, hn, k, hk => by
    rw [aSh]
    exact aSw_lt (aSh_lt z n (by omega)) (by omega) (by have := Nat.mod_lt (ub (fNext (aSh z n).1) / 512) (show 0 < 32 - n by omega); omega) k hk
def aDl0 (z : Int32) (q : Nat) : Int32 := aBs (fun c => (List.range 32).any (fun j => decide (j / 8 = q) && decide (aDeck z j = c))) 32
theorem bt_aDl0 {z : Int32} {q c : Nat} (hc : c < 32) : bt (aDl0 z q) c = (List.range 32).any (fun j => decide (j / 8 = q) && decide (aDeck z j = c)) := by
  rw [aDl0, bt_aBs hc (Nat.le_refl _), decide_eq_true hc]
  simp
def aX0 : aX := (nI 4, 0, 0, 0)
def pre_X2_dealOut (q : Nat × Int32) (as : List mV) (_ : mM) : Prop := pl_X2 q.1 = true ∧ as = [.inr (some q.1), .inl q.2]
def post_X2_dealOut (q : Nat × Int32) (_ : List mV) (M : mM) (M' : mM) : Prop := RpP q.1 M' aX0 (aDl0 q.2) 0 0 [] ∧ FrP q.1 M M'
abbrev t_X2_dealOut : mG → mT := mRv pre_X2_dealOut post_X2_dealOut
theorem mo_X2_dealOut : mMn t_X2_dealOut := mRv_mono
theorem rv_X2_dealOut : mHasR yX2_dealOut 1 t_X2_dealOut := by
  intro g as M P hT hl
  obtain ⟨q, ⟨h1, h2⟩, -⟩ := hT
  exact ⟨_, _, h2, is_X2 g _ h1⟩
theorem pcS9 (z : Int32) : (z.toUInt32 >>> ((nI 9).toUInt32 &&& Int32.toUInt32 31)).toInt32 = nI (ub z / 512) := by
  have h := ub_sh z 9 (by decide)
  have hl := ub_lt z
  exact ub_inj (by rw [ub_nI (by omega)]; exact h)
theorem nI_s1 {n : Nat} (h : 0 < n) : nI n + -1 = nI (n - 1) := by
  obtain ⟨k, rfl⟩ : ∃ k, n = k + 1 := ⟨n - 1, by omega⟩
  exact pk_m1 k
def k_X2_dealOut : List (Nat × mI) := [(0, .aload_n 0, 1, 0, 0, []),
  (1, .invokevirtual 45, 3, 0, 0, []),
  (4, .iconst 0, 1, 0, nI 0, []),
  (5, .istore_n 2, 1, 2, 0, []),
  (6, .iload_n 2, 1, 2, 0, []),
  (7, .bipush 32, 2, 0, nI 32, []),
  (9, .if_icmp .ge 18, 3, 27, 0, []),
  (12, .aload_n 0, 1, 0, 0, []),
  (13, .getfield 9, 3, 0, 0, []),
  (16, .iload_n 2, 1, 2, 0, []),
  (17, .iload_n 2, 1, 2, 0, []),
  (18, .invokestatic 48, 3, 0, 0, []),
  (21, .iinc 2 1, 3, 2, nI 1, []),
  (24, .goto (-18), 3, 6, 0, []),
  (27, .iload_n 1, 1, 1, 0, []),
  (28, .istore_n 2, 1, 2, 0, []),
  (29, .bipush 31, 2, 0, nI 31, []),
  (31, .istore_n 3, 1, 3, 0, []),
  (32, .iload_n 3, 1, 3, 0, []),
  (33, .ifCond .le 62, 3, 95, 0, []),
  (36, .iload_n 2, 1, 2, 0, []),
  (37, .invokestatic 52, 3, 0, 0, []),
  (40, .istore_n 2, 1, 2, 0, []),
  (41, .iload_n 2, 1, 2, 0, []),
  (42, .bipush 9, 2, 0, nI 9, []),
  (44, .iushr, 1, 0, 0, []),
  (45, .iload_n 3, 1, 3, 0, []),
  (46, .iconst 1, 1, 0, nI 1, []),
  (47, .iadd, 1, 0, 0, []),
  (48, .irem, 1, 0, 0, []),
  (49, .istore 4, 2, 4, 0, []),
  (51, .aload_n 0, 1, 0, 0, []),
  (52, .getfield 9, 3, 0, 0, []),
  (55, .iload_n 3, 1, 3, 0, []),
  (56, .invokestatic 56, 3, 0, 0, []),
  (59, .istore 5, 2, 5, 0, []),
  (61, .aload_n 0, 1, 0, 0, []),
  (62, .getfield 9, 3, 0, 0, []),
  (65, .iload_n 3, 1, 3, 0, []),
  (66, .aload_n 0, 1, 0, 0, []),
  (67, .getfield 9, 3, 0, 0, []),
  (70, .iload 4, 2, 4, 0, []),
  (72, .invokestatic 56, 3, 0, 0, []),
  (75, .invokestatic 48, 3, 0, 0, []),
  (78, .aload_n 0, 1, 0, 0, []),
  (79, .getfield 9, 3, 0, 0, []),
  (82, .iload 4, 2, 4, 0, []),
  (84, .iload 5, 2, 5, 0, []),
  (86, .invokestatic 48, 3, 0, 0, []),
  (89, .iinc 3 (-1), 3, 3, -1, []),
  (92, .goto (-60), 3, 32, 0, []),
  (95, .iconst 0, 1, 0, nI 0, []),
  (96, .istore_n 3, 1, 3, 0, []),
  (97, .iload_n 3, 1, 3, 0, []),
  (98, .bipush 32, 2, 0, nI 32, []),
  (100, .if_icmp .ge 45, 3, 145, 0, []),
  (103, .iload_n 3, 1, 3, 0, []),
  (104, .bipush 8, 2, 0, nI 8, []),
  (106, .idiv, 1, 0, 0, []),
  (107, .istore 4, 2, 4, 0, []),
  (109, .aload_n 0, 1, 0, 0, []),
  (110, .getfield 15, 3, 0, 0, []),
  (113, .iload 4, 2, 4, 0, []),
  (115, .aload_n 0, 1, 0, 0, []),
  (116, .getfield 15, 3, 0, 0, []),
  (119, .iload 4, 2, 4, 0, []),
  (121, .invokestatic 56, 3, 0, 0, []),
  (124, .aload_n 0, 1, 0, 0, []),
  (125, .getfield 9, 3, 0, 0, []),
  (128, .iload_n 3, 1, 3, 0, []),
  (129, .invokestatic 56, 3, 0, 0, []),
  (132, .invokestatic 60, 3, 0, 0, []),
  (135, .ior, 1, 0, 0, []),
  (136, .invokestatic 48, 3, 0, 0, []),
  (139, .iinc 3 1, 3, 3, nI 1, []),
  (142, .goto (-45), 3, 97, 0, []),
  (145, .aload_n 0, 1, 0, 0, []),
  (146, .getfield 15, 3, 0, 0, []),
  (149, .aload_n 0, 1, 0, 0, []),
  (150, .getfield 18, 3, 0, 0, []),
  (153, .invokestatic 63, 3, 0, 0, []),
  (156, .return_, 1, 0, 0, [])]
theorem kk_X2_dealOut : (k_X2_dealOut.all fun e => mChk cX2_dealOut e.1 e.2) = true := by decide +kernel
def l_X2_dealOut : List (Nat × Nat × (mG → mT)) := [(3 * 45, 0 + 1, t_X2_clear), (3 * 48 + 1, 3, t_X7_set), (3 * 52 + 1, 1, t_X7_nextSeed), (3 * 56 + 1, 2, t_X7_at), (3 * 60 + 1, 1, t_X7_bitOf), (3 * 63 + 1, 2, t_X7_take)]
def f_X2_dealOut (g : mG) : mF := (mLk k_X2_dealOut, mLk fl_RX2, mLk (l_X2_dealOut.map fun e => (e.1, e.2.1, e.2.2 g)), mLk ([] : List (Nat × mV)), mLk ([] : List (Nat × mV)), none)
theorem m_X2_dealOut (g : mG) : mMono (f_X2_dealOut g) := mMonoL (g := g) (l := l_X2_dealOut) (List.forall_mem_cons.mpr ⟨mo_X2_clear, List.forall_mem_cons.mpr ⟨mo_X7_set, List.forall_mem_cons.mpr ⟨mo_X7_nextSeed, List.forall_mem_cons.mpr ⟨mo_X7_at, List.forall_mem_cons.mpr ⟨mo_X7_bitOf, List.forall_mem_cons.mpr ⟨mo_X7_take, fun _ h => absurd h List.not_mem_nil⟩⟩⟩⟩⟩⟩) rfl

theorem v_do_0_16 (g : mG) (M : mM) (P : mP) (z : Int32)
    (h : let M1 : mM := mUp M 18 (aFill (M 18) 4 (nI 0)); let M2 : mM := mUp M1 19 (aFill (M 19) 4 (nI 0)); let M3 : mM := mUp M2 23 (aFill (M 23) 2 (nI 0)); let M4 : mM := mW1 M3 16 7 (nI 0); let M5 : mM := mW1 M4 16 8 (nI 0); let M6 : mM := mW1 M5 16 9 (nI 4); let M7 : mM := mW1 M6 16 10 (nI 0); let M8 : mM := mW1 M7 16 11 (nI 0); mRun (mSx g) (f_X2_dealOut g) P (6, [some (.inr (some 16)), some (.inl z), some (.inl (nI 0)), none, none, none], [], M8)) :
    mRun (mSx g) (f_X2_dealOut g) P (0, [some (.inr (some 16)), some (.inl z), none, none, none, none], [], M) := mRun.vc (m_X2_dealOut g) [6] 5 h

theorem v_do_6_16 (g : mG) (M : mM) (P : mP) (z i : Int32) (l3 l4 l5 : Option mV)
    (h : ((nI 32) ≤ i → mRun (mSx g) (f_X2_dealOut g) P (32, [some (.inr (some 16)), some (.inl z), some (.inl z), some (.inl (nI 31)), l4, l5], [], M)) ∧ (¬ (nI 32) ≤ i → let M1 : mM := mUp M 17 (aSet (M 17) 32 i i); mRun (mSx g) (f_X2_dealOut g) P (6, [some (.inr (some 16)), some (.inl z), some (.inl (i + (nI 1))), l3, l4, l5], [], M1))) :
    mRun (mSx g) (f_X2_dealOut g) P (6, [some (.inr (some 16)), some (.inl z), some (.inl i), l3, l4, l5], [], M) := mRun.vc (m_X2_dealOut g) [6, 32] 11 h

theorem v_do_32_16 (g : mG) (M : mM) (P : mP) (z y i : Int32) (l4 l5 : Option mV)
    (h : (i ≤ 0 → mRun (mSx g) (f_X2_dealOut g) P (97, [some (.inr (some 16)), some (.inl z), some (.inl y), some (.inl (nI 0)), l4, l5], [], M)) ∧ (¬ i ≤ 0 → ¬ (i + (nI 1)) = 0 ∧ (let v1 : Int32 := (((fNext y).toUInt32 >>> ((nI 9).toUInt32 &&& Int32.toUInt32 31)).toInt32) - (((fNext y).toUInt32 >>> ((nI 9).toUInt32 &&& Int32.toUInt32 31)).toInt32) / (i + (nI 1)) * (i + (nI 1)); let M2 : mM := mUp M 17 (aSet (M 17) 32 i (aAt (M 17) 32 v1)); let M3 : mM := mUp M2 17 (aSet (M2 17) 32 v1 (aAt (M 17) 32 i)); mRun (mSx g) (f_X2_dealOut g) P (32, [some (.inr (some 16)), some (.inl z), some (.inl (fNext y)), some (.inl (i + (-1))), some (.inl v1), some (.inl (aAt (M 17) 32 i))], [], M3)))) :
    mRun (mSx g) (f_X2_dealOut g) P (32, [some (.inr (some 16)), some (.inl z), some (.inl y), some (.inl i), l4, l5], [], M) := mRun.vc (m_X2_dealOut g) [32, 97] 34 h

theorem v_do_97_16 (g : mG) (M : mM) (P : mP) (z y i : Int32) (l4 l5 : Option mV)
    (h : ((nI 32) ≤ i → let M1 : mM := mUp M 19 (va_cpy (M 18) (M 19) 0 0 4); P none M1) ∧ (¬ (nI 32) ≤ i → ¬ (nI 8) = 0 ∧ (let M2 : mM := mUp M 18 (aSet (M 18) 4 (i / (nI 8)) ((aAt (M 18) 4 (i / (nI 8))) ||| (fBit (aAt (M 17) 32 i)))); mRun (mSx g) (f_X2_dealOut g) P (97, [some (.inr (some 16)), some (.inl z), some (.inl y), some (.inl (i + (nI 1))), some (.inl (i / (nI 8))), l5], [], M2)))) :
    mRun (mSx g) (f_X2_dealOut g) P (97, [some (.inr (some 16)), some (.inl z), some (.inl y), some (.inl i), l4, l5], [], M) := mRun.vc (m_X2_dealOut g) [97] 24 h

/-- what a deal's play holds but for dealt, hands and the deck -/
def doK_16 (M0 M : mM) : Prop := M 16 7 = nI 0 ∧ M 16 8 = nI 0 ∧ M 16 9 = nI 4 ∧ M 16 10 = nI 0 ∧ M 16 11 = nI 0 ∧ M 23 0 = nI 0 ∧ M 23 1 = nI 0 ∧ FrP 16 M0 M
theorem doK_up_16 {M0 M : mM} {d : Nat} {f : Nat → Int32} (h : doK_16 M0 M) (hd : d = 17 ∨ d = 18 ∨ d = 19) : doK_16 M0 (mUp M d f) := by
  obtain ⟨h1, h2, h3, h4, h5, h6, h7, h8⟩ := h
  have e : ∀ c, c ≠ d → mUp M d f c = M c := fun c hc => mUp_ne hc
  refine ⟨by rw [e _ (by omega)]; exact h1, by rw [e _ (by omega)]; exact h2, by rw [e _ (by omega)]; exact h3, by rw [e _ (by omega)]; exact h4, by rw [e _ (by omega)]; exact h5, by rw [e _ (by omega)]; exact h6, by rw [e _ (by omega)]; exact h7, fun c hc => by rw [e _ (by omega)]; exact h8 c hc⟩
theorem do_c_16 (g : mG) (P : mP) (z y : Int32) (M0 : mM) (hP : ∀ M', RpP 16 M' aX0 (aDl0 z) 0 0 [] → FrP 16 M0 M' → P none M') :
    ∀ (n i : Nat) (M : mM) (l4 l5 : Option mV), i + n = 32 → doK_16 M0 M → (∀ j, j < 32 → M 17 j = nI (aDeck z j)) → (∀ q c, q < 4 → c < 32 → bt (M 18 q) c = (List.range i).any (fun j => decide (j / 8 = q) && decide (aDeck z j = c))) → mRun (mSx g) (f_X2_dealOut g) P (97, [some (.inr (some 16)), some (.inl z), some (.inl y), some (.inl (nI i)), l4, l5], [], M)
  | 0, i, M, l4, l5, hi, hK, hd, hq => by
    obtain rfl : i = 32 := by omega
    refine v_do_97_16 g M P z y (nI 32) l4 l5 ⟨fun _ => ?_, fun w => absurd (nI_le (Nat.le_refl _) (by decide)) w⟩
    intro M1
    have hdl : ∀ q, q < 4 → M 18 q = aDl0 z q := fun q hq4 => bt_ext (fun c hc => by rw [hq q c hq4 hc, bt_aDl0 hc])
    obtain ⟨h1, h2, h3, h4, h5, h6, h7, h8⟩ := doK_up_16 (d := 19) (f := va_cpy (M 18) (M 19) 0 0 4) hK (Or.inr (Or.inr rfl))
    refine hP M1 ⟨⟨h1, h2, h3, h4, h5⟩, fun j hj => absurd hj (Nat.not_lt_zero _), fun q hq4 => ?_, fun q hq4 => ?_, fun i hi => absurd hi (by simp), fun i hi => absurd hi (by simp), h6, h7⟩ h8
    · rw [show M1 (16 + 2) = M 18 from mUp_ne (by decide)]
      exact hdl q hq4
    · rw [show M1 (16 + 3) = va_cpy (M 18) (M 19) 0 0 4 from mUp_at, cpy_0 hq4, hdl q hq4]
      refine bt_ext (fun i hi => ?_)
      rw [bt_aHd (fun c hc => by cases hc) hi]
      simp
  | n + 1, i, M, l4, l5, hi, hK, hd, hq => by
    have hlt : aDeck z i < 32 := aSh_lt z 31 (Nat.le_refl _) i (by omega)
    have e1 : nI i / nI 8 = nI (i / 8) := nI_div8 (by omega)
    have e2 : aAt (M 17) 32 (nI i) = nI (aDeck z i) := by rw [aAt_in (by omega) (by decide)]; exact hd i (by omega)
    refine v_do_97_16 g M P z y (nI i) l4 l5 ⟨fun w => absurd w (nI_ge (by omega) (by decide)), fun _ => ⟨n8, ?_⟩⟩
    rw [e1, e2, aAt_in (by omega) (by decide), nI_add]
    intro M1
    have eM : M1 18 = upd (M 18) (i / 8) (M 18 (i / 8) ||| fBit (nI (aDeck z i))) := by
      show mUp M 18 (aSet (M 18) 4 (nI (i / 8)) _) 18 = _
      rw [mUp_at, aSet_in (by omega) (by decide)]
    refine do_c_16 g P z y M0 hP n (i + 1) M1 _ l5 (by omega) (doK_up_16 hK (Or.inr (Or.inl rfl))) (fun j hj => by rw [show M1 17 = M 17 from mUp_ne (by decide)]; exact hd j hj) (fun q c hq4 hc => ?_)
    rw [eM, List.range_succ, List.any_append]
    by_cases e : q = i / 8
    · rw [← e, upd_s, bt_or, hq q c hq4 hc, bt_fBit _ hlt c hc]
      simp [e, eq_comm]
    · rw [upd_n e, hq q c hq4 hc]
      simp [Ne.symm e]
theorem do_b_16 (g : mG) (P : mP) (z : Int32) (M0 : mM) (hP : ∀ M', RpP 16 M' aX0 (aDl0 z) 0 0 [] → FrP 16 M0 M' → P none M') :
    ∀ (m n : Nat) (M : mM) (l4 l5 : Option mV), n + m = 31 → doK_16 M0 M → (∀ j, j < 32 → M 17 j = nI ((aSh z n).2 j)) → (∀ q, q < 4 → M 18 q = 0) → mRun (mSx g) (f_X2_dealOut g) P (32, [some (.inr (some 16)), some (.inl z), some (.inl (aSh z n).1), some (.inl (nI (31 - n))), l4, l5], [], M)
  | 0, n, M, l4, l5, hn, hK, hd, hq => by
    obtain rfl : n = 31 := by omega
    refine v_do_32_16 g M P z _ (nI (31 - 31)) l4 l5 ⟨fun _ => ?_, fun w => absurd (by decide) w⟩
    exact do_c_16 g P z _ M0 hP 32 0 M l4 l5 rfl hK hd (fun q c hq4 hc => by rw [hq q hq4, bt_0]; rfl)
  | m + 1, n, M, l4, l5, hn, hK, hd, hq => by
    have hy : (aSh z (n + 1)).1 = fNext (aSh z n).1 := rfl
    have hf : (aSh z (n + 1)).2 = aSw (aSh z n).2 (31 - n) (ub (fNext (aSh z n).1) / 512 % (32 - n)) := rfl
    have hj := Nat.mod_lt (ub (fNext (aSh z n).1) / 512) (show 0 < 32 - n by omega)
    have hub := ub_lt (fNext (aSh z n).1)
    refine v_do_32_16 g M P z _ (nI (31 - n)) l4 l5 ⟨fun w => absurd w (nI_nle (by omega) (by omega)), fun _ => ⟨by rw [nI_add]; exact nI_ne0 (by omega) (by omega), ?_⟩⟩
    rw [nI_add, show 31 - n + 1 = 32 - n by omega, pcS9, pk_rem (by omega) (by omega) (by omega), ← hy]
    rw [hy]
    generalize hjj : ub (fNext (aSh z n).1) / 512 % (32 - n) = jj at *
    intro v1 M2 M3
    have hv1 : v1 = nI jj := rfl
    have r1 : M2 17 = upd (M 17) (31 - n) (M 17 jj) := by
      show mUp M 17 (aSet (M 17) 32 (nI (31 - n)) (aAt (M 17) 32 v1)) 17 = _
      rw [mUp_at, hv1, aSet_in (by omega) (by decide), aAt_in (by omega) (by decide)]
    have r2 : M3 17 = upd (M2 17) jj (M 17 (31 - n)) := by
      show mUp M2 17 (aSet (M2 17) 32 v1 (aAt (M 17) 32 (nI (31 - n)))) 17 = _
      rw [mUp_at, hv1, aSet_in (by omega) (by decide), aAt_in (by omega) (by decide)]
    have hK3 : doK_16 M0 M3 := doK_up_16 (doK_up_16 hK (Or.inl rfl)) (Or.inl rfl)
    have := do_b_16 g P z M0 hP m (n + 1) M3 (some (.inl v1)) (some (.inl (aAt (M 17) 32 (nI (31 - n))))) (by omega) hK3 (fun j hj2 => by
      rw [r2, r1, hf]
      unfold aSw
      by_cases e1 : j = jj
      · rw [e1, upd_s, if_pos rfl, hd _ (by omega)]
      · rw [upd_n e1, if_neg e1]
        by_cases e2 : j = 31 - n
        · rw [e2, upd_s, if_pos rfl, hd _ (by omega)]
        · rw [upd_n e2, if_neg e2]
          exact hd j hj2) (fun q hq4 => by rw [show M3 18 = M 18 from by show mUp (mUp M 17 _) 17 _ 18 = _; rw [mUp_ne (by decide), mUp_ne (by decide)]]; exact hq q hq4)
    rw [nI_s1 (by omega), show 31 - n - 1 = 31 - (n + 1) by omega]
    exact this
theorem do_a_16 (g : mG) (P : mP) (z : Int32) (M0 : mM) (hP : ∀ M', RpP 16 M' aX0 (aDl0 z) 0 0 [] → FrP 16 M0 M' → P none M') :
    ∀ (m i : Nat) (M : mM) (l3 l4 l5 : Option mV), i + m = 32 → doK_16 M0 M → (∀ j, j < i → M 17 j = nI j) → (∀ q, q < 4 → M 18 q = 0) → mRun (mSx g) (f_X2_dealOut g) P (6, [some (.inr (some 16)), some (.inl z), some (.inl (nI i)), l3, l4, l5], [], M)
  | 0, i, M, l3, l4, l5, hi, hK, hd, hq => by
    obtain rfl : i = 32 := by omega
    refine v_do_6_16 g M P z (nI 32) l3 l4 l5 ⟨fun _ => ?_, fun w => absurd (nI_le (Nat.le_refl _) (by decide)) w⟩
    exact do_b_16 g P z M0 hP 31 0 M l4 l5 rfl hK hd hq
  | m + 1, i, M, l3, l4, l5, hi, hK, hd, hq => by
    refine v_do_6_16 g M P z (nI i) l3 l4 l5 ⟨fun w => absurd w (nI_ge (by omega) (by decide)), fun _ => ?_⟩
    rw [nI_add]
    intro M1
    have r1 : M1 17 = upd (M 17) i (nI i) := by
      show mUp M 17 (aSet (M 17) 32 (nI i) (nI i)) 17 = _
      rw [mUp_at, aSet_in (by omega) (by decide)]
    refine do_a_16 g P z M0 hP m (i + 1) M1 l3 l4 l5 (by omega) (doK_up_16 hK (Or.inl rfl)) (fun j hj => ?_) (fun q hq4 => by rw [show M1 18 = M 18 from mUp_ne (by decide)]; exact hq q hq4)
    rw [r1]
    by_cases e : j = i
    · rw [e, upd_s]
    · rw [upd_n e]
      exact hd j (by omega)
theorem do_run_16 (g : mG) (M : mM) (P : mP) (z : Int32) (hP : ∀ M', RpP 16 M' aX0 (aDl0 z) 0 0 [] → FrP 16 M M' → P none M') : mRun (mSx g) (f_X2_dealOut g) P (0, [some (.inr (some 16)), some (.inl z), none, none, none, none], [], M) := by
  refine v_do_0_16 g M P z ?_
  intro M1 M2 M3 M4 M5 M6 M7 M8
  have f8 : ∀ d, d ≠ 16 → M8 d = M3 d := fun d h => by
    show mW1 (mW1 (mW1 (mW1 (mW1 M3 16 7 _) 16 8 _) 16 9 _) 16 10 _) 16 11 _ d = _
    rw [mW1_c h, mW1_c h, mW1_c h, mW1_c h, mW1_c h]
  have e2 : M8 18 = aFill (M 18) 4 (nI 0) := by
    rw [f8 _ (by decide)]
    show mUp (mUp M1 19 _) 23 _ 18 = _
    rw [mUp_ne (by decide), mUp_ne (by decide)]
    exact mUp_at
  have e7 : M8 23 = aFill (M 23) 2 (nI 0) := by
    rw [f8 _ (by decide)]
    exact mUp_at
  refine do_a_16 g P z M hP 32 0 M8 none none none rfl ⟨?_, ?_, ?_, ?_, mW1_s, ?_, ?_, fun d hd => ?_⟩ (fun j hj => absurd hj (Nat.not_lt_zero _)) (fun q hq => ?_)
  · show mW1 (mW1 (mW1 (mW1 (mW1 M3 16 7 _) 16 8 _) 16 9 _) 16 10 _) 16 11 _ 16 7 = _
    rw [mW1_k (by decide), mW1_k (by decide), mW1_k (by decide), mW1_k (by decide), mW1_s]
  · show mW1 (mW1 (mW1 (mW1 M4 16 8 _) 16 9 _) 16 10 _) 16 11 _ 16 8 = _
    rw [mW1_k (by decide), mW1_k (by decide), mW1_k (by decide), mW1_s]
  · show mW1 (mW1 (mW1 M5 16 9 _) 16 10 _) 16 11 _ 16 9 = _
    rw [mW1_k (by decide), mW1_k (by decide), mW1_s]
  · show mW1 (mW1 M6 16 10 _) 16 11 _ 16 10 = _
    rw [mW1_k (by decide), mW1_s]
  · rw [e7]
    rfl
  · rw [e7]
    rfl
  · rw [f8 d (by omega)]
    show mUp (mUp (mUp M 18 _) 19 _) 23 _ d = _
    rw [mUp_ne (by omega), mUp_ne (by omega), mUp_ne (by omega)]
  · rw [e2]
    unfold aFill
    rw [if_pos hq]
    rfl
theorem v_do_0_29 (g : mG) (M : mM) (P : mP) (z : Int32)
    (h : let M1 : mM := mUp M 31 (aFill (M 31) 4 (nI 0)); let M2 : mM := mUp M1 32 (aFill (M 32) 4 (nI 0)); let M3 : mM := mUp M2 36 (aFill (M 36) 2 (nI 0)); let M4 : mM := mW1 M3 29 7 (nI 0); let M5 : mM := mW1 M4 29 8 (nI 0); let M6 : mM := mW1 M5 29 9 (nI 4); let M7 : mM := mW1 M6 29 10 (nI 0); let M8 : mM := mW1 M7 29 11 (nI 0); mRun (mSx g) (f_X2_dealOut g) P (6, [some (.inr (some 29)), some (.inl z), some (.inl (nI 0)), none, none, none], [], M8)) :
    mRun (mSx g) (f_X2_dealOut g) P (0, [some (.inr (some 29)), some (.inl z), none, none, none, none], [], M) := mRun.vc (m_X2_dealOut g) [6] 5 h

theorem v_do_6_29 (g : mG) (M : mM) (P : mP) (z i : Int32) (l3 l4 l5 : Option mV)
    (h : ((nI 32) ≤ i → mRun (mSx g) (f_X2_dealOut g) P (32, [some (.inr (some 29)), some (.inl z), some (.inl z), some (.inl (nI 31)), l4, l5], [], M)) ∧ (¬ (nI 32) ≤ i → let M1 : mM := mUp M 30 (aSet (M 30) 32 i i); mRun (mSx g) (f_X2_dealOut g) P (6, [some (.inr (some 29)), some (.inl z), some (.inl (i + (nI 1))), l3, l4, l5], [], M1))) :
    mRun (mSx g) (f_X2_dealOut g) P (6, [some (.inr (some 29)), some (.inl z), some (.inl i), l3, l4, l5], [], M) := mRun.vc (m_X2_dealOut g) [6, 32] 11 h

theorem v_do_32_29 (g : mG) (M : mM) (P : mP) (z y i : Int32) (l4 l5 : Option mV)
    (h : (i ≤ 0 → mRun (mSx g) (f_X2_dealOut g) P (97, [some (.inr (some 29)), some (.inl z), some (.inl y), some (.inl (nI 0)), l4, l5], [], M)) ∧ (¬ i ≤ 0 → ¬ (i + (nI 1)) = 0 ∧ (let v1 : Int32 := (((fNext y).toUInt32 >>> ((nI 9).toUInt32 &&& Int32.toUInt32 31)).toInt32) - (((fNext y).toUInt32 >>> ((nI 9).toUInt32 &&& Int32.toUInt32 31)).toInt32) / (i + (nI 1)) * (i + (nI 1)); let M2 : mM := mUp M 30 (aSet (M 30) 32 i (aAt (M 30) 32 v1)); let M3 : mM := mUp M2 30 (aSet (M2 30) 32 v1 (aAt (M 30) 32 i)); mRun (mSx g) (f_X2_dealOut g) P (32, [some (.inr (some 29)), some (.inl z), some (.inl (fNext y)), some (.inl (i + (-1))), some (.inl v1), some (.inl (aAt (M 30) 32 i))], [], M3)))) :
    mRun (mSx g) (f_X2_dealOut g) P (32, [some (.inr (some 29)), some (.inl z), some (.inl y), some (.inl i), l4, l5], [], M) := mRun.vc (m_X2_dealOut g) [32, 97] 34 h

theorem v_do_97_29 (g : mG) (M : mM) (P : mP) (z y i : Int32) (l4 l5 : Option mV)
    (h : ((nI 32) ≤ i → let M1 : mM := mUp M 32 (va_cpy (M 31) (M 32) 0 0 4); P none M1) ∧ (¬ (nI 32) ≤ i → ¬ (nI 8) = 0 ∧ (let M2 : mM := mUp M 31 (aSet (M 31) 4 (i / (nI 8)) ((aAt (M 31) 4 (i / (nI 8))) ||| (fBit (aAt (M 30) 32 i)))); mRun (mSx g) (f_X2_dealOut g) P (97, [some (.inr (some 29)), some (.inl z), some (.inl y), some (.inl (i + (nI 1))), some (.inl (i / (nI 8))), l5], [], M2)))) :
    mRun (mSx g) (f_X2_dealOut g) P (97, [some (.inr (some 29)), some (.inl z), some (.inl y), some (.inl i), l4, l5], [], M) := mRun.vc (m_X2_dealOut g) [97] 24 h

/-- what a deal's play holds but for dealt, hands and the deck -/
def doK_29 (M0 M : mM) : Prop := M 29 7 = nI 0 ∧ M 29 8 = nI 0 ∧ M 29 9 = nI 4 ∧ M 29 10 = nI 0 ∧ M 29 11 = nI 0 ∧ M 36 0 = nI 0 ∧ M 36 1 = nI 0 ∧ FrP 29 M0 M
theorem doK_up_29 {M0 M : mM} {d : Nat} {f : Nat → Int32} (h : doK_29 M0 M) (hd : d = 30 ∨ d = 31 ∨ d = 32) : doK_29 M0 (mUp M d f) := by
  obtain ⟨h1, h2, h3, h4, h5, h6, h7, h8⟩ := h
  have e : ∀ c, c ≠ d → mUp M d f c = M c := fun c hc => mUp_ne hc
  refine ⟨by rw [e _ (by omega)]; exact h1, by rw [e _ (by omega)]; exact h2, by rw [e _ (by omega)]; exact h3, by rw [e _ (by omega)]; exact h4, by rw [e _ (by omega)]; exact h5, by rw [e _ (by omega)]; exact h6, by rw [e _ (by omega)]; exact h7, fun c hc => by rw [e _ (by omega)]; exact h8 c hc⟩
theorem do_c_29 (g : mG) (P : mP) (z y : Int32) (M0 : mM) (hP : ∀ M', RpP 29 M' aX0 (aDl0 z) 0 0 [] → FrP 29 M0 M' → P none M') :
    ∀ (n i : Nat) (M : mM) (l4 l5 : Option mV), i + n = 32 → doK_29 M0 M → (∀ j, j < 32 → M 30 j = nI (aDeck z j)) → (∀ q c, q < 4 → c < 32 → bt (M 31 q) c = (List.range i).any (fun j => decide (j / 8 = q) && decide (aDeck z j = c))) → mRun (mSx g) (f_X2_dealOut g) P (97, [some (.inr (some 29)), some (.inl z), some (.inl y), some (.inl (nI i)), l4, l5], [], M)
  | 0, i, M, l4, l5, hi, hK, hd, hq => by
    obtain rfl : i = 32 := by omega
    refine v_do_97_29 g M P z y (nI 32) l4 l5 ⟨fun _ => ?_, fun w => absurd (nI_le (Nat.le_refl _) (by decide)) w⟩
    intro M1
    have hdl : ∀ q, q < 4 → M 31 q = aDl0 z q := fun q hq4 => bt_ext (fun c hc => by rw [hq q c hq4 hc, bt_aDl0 hc])
    obtain ⟨h1, h2, h3, h4, h5, h6, h7, h8⟩ := doK_up_29 (d := 32) (f := va_cpy (M 31) (M 32) 0 0 4) hK (Or.inr (Or.inr rfl))
    refine hP M1 ⟨⟨h1, h2, h3, h4, h5⟩, fun j hj => absurd hj (Nat.not_lt_zero _), fun q hq4 => ?_, fun q hq4 => ?_, fun i hi => absurd hi (by simp), fun i hi => absurd hi (by simp), h6, h7⟩ h8
    · rw [show M1 (29 + 2) = M 31 from mUp_ne (by decide)]
      exact hdl q hq4
    · rw [show M1 (29 + 3) = va_cpy (M 31) (M 32) 0 0 4 from mUp_at, cpy_0 hq4, hdl q hq4]
      refine bt_ext (fun i hi => ?_)
      rw [bt_aHd (fun c hc => by cases hc) hi]
      simp
  | n + 1, i, M, l4, l5, hi, hK, hd, hq => by
    have hlt : aDeck z i < 32 := aSh_lt z 31 (Nat.le_refl _) i (by omega)
    have e1 : nI i / nI 8 = nI (i / 8) := nI_div8 (by omega)
    have e2 : aAt (M 30) 32 (nI i) = nI (aDeck z i) := by rw [aAt_in (by omega) (by decide)]; exact hd i (by omega)
    refine v_do_97_29 g M P z y (nI i) l4 l5 ⟨fun w => absurd w (nI_ge (by omega) (by decide)), fun _ => ⟨n8, ?_⟩⟩
    rw [e1, e2, aAt_in (by omega) (by decide), nI_add]
    intro M1
    have eM : M1 31 = upd (M 31) (i / 8) (M 31 (i / 8) ||| fBit (nI (aDeck z i))) := by
      show mUp M 31 (aSet (M 31) 4 (nI (i / 8)) _) 31 = _
      rw [mUp_at, aSet_in (by omega) (by decide)]
    refine do_c_29 g P z y M0 hP n (i + 1) M1 _ l5 (by omega) (doK_up_29 hK (Or.inr (Or.inl rfl))) (fun j hj => by rw [show M1 30 = M 30 from mUp_ne (by decide)]; exact hd j hj) (fun q c hq4 hc => ?_)
    rw [eM, List.range_succ, List.any_append]
    by_cases e : q = i / 8
    · rw [← e, upd_s, bt_or, hq q c hq4 hc, bt_fBit _ hlt c hc]
      simp [e, eq_comm]
    · rw [upd_n e, hq q c hq4 hc]
      simp [Ne.symm e]
theorem do_b_29 (g : mG) (P : mP) (z : Int32) (M0 : mM) (hP : ∀ M', RpP 29 M' aX0 (aDl0 z) 0 0 [] → FrP 29 M0 M' → P none M') :
    ∀ (m n : Nat) (M : mM) (l4 l5 : Option mV), n + m = 31 → doK_29 M0 M → (∀ j, j < 32 → M 30 j = nI ((aSh z n).2 j)) → (∀ q, q < 4 → M 31 q = 0) → mRun (mSx g) (f_X2_dealOut g) P (32, [some (.inr (some 29)), some (.inl z), some (.inl (aSh z n).1), some (.inl (nI (31 - n))), l4, l5], [], M)
  | 0, n, M, l4, l5, hn, hK, hd, hq => by
    obtain rfl : n = 31 := by omega
    refine v_do_32_29 g M P z _ (nI (31 - 31)) l4 l5 ⟨fun _ => ?_, fun w => absurd (by decide) w⟩
    exact do_c_29 g P z _ M0 hP 32 0 M l4 l5 rfl hK hd (fun q c hq4 hc => by rw [hq q hq4, bt_0]; rfl)
  | m + 1, n, M, l4, l5, hn, hK, hd, hq => by
    have hy : (aSh z (n + 1)).1 = fNext (aSh z n).1 := rfl
    have hf : (aSh z (n + 1)).2 = aSw (aSh z n).2 (31 - n) (ub (fNext (aSh z n).1) / 512 % (32 - n)) := rfl
    have hj := Nat.mod_lt (ub (fNext (aSh z n).1) / 512) (show 0 < 32 - n by omega)
    have hub := ub_lt (fNext (aSh z n).1)
    refine v_do_32_29 g M P z _ (nI (31 - n)) l4 l5 ⟨fun w => absurd w (nI_nle (by omega) (by omega)), fun _ => ⟨by rw [nI_add]; exact nI_ne0 (by omega) (by omega), ?_⟩⟩
    rw [nI_add, show 31 - n + 1 = 32 - n by omega, pcS9, pk_rem (by omega) (by omega) (by omega), ← hy]
    rw [hy]
    generalize hjj : ub (fNext (aSh z n).1) / 512 % (32 - n) = jj at *
    intro v1 M2 M3
    have hv1 : v1 = nI jj := rfl
    have r1 : M2 30 = upd (M 30) (31 - n) (M 30 jj) := by
      show mUp M 30 (aSet (M 30) 32 (nI (31 - n)) (aAt (M 30) 32 v1)) 30 = _
      rw [mUp_at, hv1, aSet_in (by omega) (by decide), aAt_in (by omega) (by decide)]
    have r2 : M3 30 = upd (M2 30) jj (M 30 (31 - n)) := by
      show mUp M2 30 (aSet (M2 30) 32 v1 (aAt (M 30) 32 (nI (31 - n)))) 30 = _
      rw [mUp_at, hv1, aSet_in (by omega) (by decide), aAt_in (by omega) (by decide)]
    have hK3 : doK_29 M0 M3 := doK_up_29 (doK_up_29 hK (Or.inl rfl)) (Or.inl rfl)
    have := do_b_29 g P z M0 hP m (n + 1) M3 (some (.inl v1)) (some (.inl (aAt (M 30) 32 (nI (31 - n))))) (by omega) hK3 (fun j hj2 => by
      rw [r2, r1, hf]
      unfold aSw
      by_cases e1 : j = jj
      · rw [e1, upd_s, if_pos rfl, hd _ (by omega)]
      · rw [upd_n e1, if_neg e1]
        by_cases e2 : j = 31 - n
        · rw [e2, upd_s, if_pos rfl, hd _ (by omega)]
        · rw [upd_n e2, if_neg e2]
          exact hd j hj2) (fun q hq4 => by rw [show M3 31 = M 31 from by show mUp (mUp M 30 _) 30 _ 31 = _; rw [mUp_ne (by decide), mUp_ne (by decide)]]; exact hq q hq4)
    rw [nI_s1 (by omega), show 31 - n - 1 = 31 - (n + 1) by omega]
    exact this
theorem do_a_29 (g : mG) (P : mP) (z : Int32) (M0 : mM) (hP : ∀ M', RpP 29 M' aX0 (aDl0 z) 0 0 [] → FrP 29 M0 M' → P none M') :
    ∀ (m i : Nat) (M : mM) (l3 l4 l5 : Option mV), i + m = 32 → doK_29 M0 M → (∀ j, j < i → M 30 j = nI j) → (∀ q, q < 4 → M 31 q = 0) → mRun (mSx g) (f_X2_dealOut g) P (6, [some (.inr (some 29)), some (.inl z), some (.inl (nI i)), l3, l4, l5], [], M)
  | 0, i, M, l3, l4, l5, hi, hK, hd, hq => by
    obtain rfl : i = 32 := by omega
    refine v_do_6_29 g M P z (nI 32) l3 l4 l5 ⟨fun _ => ?_, fun w => absurd (nI_le (Nat.le_refl _) (by decide)) w⟩
    exact do_b_29 g P z M0 hP 31 0 M l4 l5 rfl hK hd hq
  | m + 1, i, M, l3, l4, l5, hi, hK, hd, hq => by
    refine v_do_6_29 g M P z (nI i) l3 l4 l5 ⟨fun w => absurd w (nI_ge (by omega) (by decide)), fun _ => ?_⟩
    rw [nI_add]
    intro M1
    have r1 : M1 30 = upd (M 30) i (nI i) := by
      show mUp M 30 (aSet (M 30) 32 (nI i) (nI i)) 30 = _
      rw [mUp_at, aSet_in (by omega) (by decide)]
    refine do_a_29 g P z M0 hP m (i + 1) M1 l3 l4 l5 (by omega) (doK_up_29 hK (Or.inl rfl)) (fun j hj => ?_) (fun q hq4 => by rw [show M1 31 = M 31 from mUp_ne (by decide)]; exact hq q hq4)
    rw [r1]
    by_cases e : j = i
    · rw [e, upd_s]
    · rw [upd_n e]
      exact hd j (by omega)
theorem do_run_29 (g : mG) (M : mM) (P : mP) (z : Int32) (hP : ∀ M', RpP 29 M' aX0 (aDl0 z) 0 0 [] → FrP 29 M M' → P none M') : mRun (mSx g) (f_X2_dealOut g) P (0, [some (.inr (some 29)), some (.inl z), none, none, none, none], [], M) := by
  refine v_do_0_29 g M P z ?_
  intro M1 M2 M3 M4 M5 M6 M7 M8
  have f8 : ∀ d, d ≠ 29 → M8 d = M3 d := fun d h => by
    show mW1 (mW1 (mW1 (mW1 (mW1 M3 29 7 _) 29 8 _) 29 9 _) 29 10 _) 29 11 _ d = _
    rw [mW1_c h, mW1_c h, mW1_c h, mW1_c h, mW1_c h]
  have e2 : M8 31 = aFill (M 31) 4 (nI 0) := by
    rw [f8 _ (by decide)]
    show mUp (mUp M1 32 _) 36 _ 31 = _
    rw [mUp_ne (by decide), mUp_ne (by decide)]
    exact mUp_at
  have e7 : M8 36 = aFill (M 36) 2 (nI 0) := by
    rw [f8 _ (by decide)]
    exact mUp_at
  refine do_a_29 g P z M hP 32 0 M8 none none none rfl ⟨?_, ?_, ?_, ?_, mW1_s, ?_, ?_, fun d hd => ?_⟩ (fun j hj => absurd hj (Nat.not_lt_zero _)) (fun q hq => ?_)
  · show mW1 (mW1 (mW1 (mW1 (mW1 M3 29 7 _) 29 8 _) 29 9 _) 29 10 _) 29 11 _ 29 7 = _
    rw [mW1_k (by decide), mW1_k (by decide), mW1_k (by decide), mW1_k (by decide), mW1_s]
  · show mW1 (mW1 (mW1 (mW1 M4 29 8 _) 29 9 _) 29 10 _) 29 11 _ 29 8 = _
    rw [mW1_k (by decide), mW1_k (by decide), mW1_k (by decide), mW1_s]
  · show mW1 (mW1 (mW1 M5 29 9 _) 29 10 _) 29 11 _ 29 9 = _
    rw [mW1_k (by decide), mW1_k (by decide), mW1_s]
  · show mW1 (mW1 M6 29 10 _) 29 11 _ 29 10 = _
    rw [mW1_k (by decide), mW1_s]
  · rw [e7]
    rfl
  · rw [e7]
    rfl
  · rw [f8 d (by omega)]
    show mUp (mUp (mUp M 31 _) 32 _) 36 _ d = _
    rw [mUp_ne (by omega), mUp_ne (by omega), mUp_ne (by omega)]
  · rw [e2]
    unfold aFill
    rw [if_pos hq]
    rfl
theorem run_X2_dealOut : mRunOf 6 t_X2_dealOut f_X2_dealOut := fun g as M P hT => by
  obtain ⟨⟨p, z⟩, ⟨h1, rfl⟩, hP⟩ := hT
  refine ⟨Nat.le_of_ble_eq_true rfl, ?_⟩
  dsimp only at h1
  rcases pl_two h1 with rfl | rfl
  · exact do_run_16 g M P z (fun M' h8 h9 => hP M' ⟨h8, h9⟩)
  · exact do_run_29 g M P z (fun M' h8 h9 => hP M' ⟨h8, h9⟩)
theorem ok_X2_dealOut : mOK yX2_dealOut cX2_dealOut 6 (none) 3 t_X2_dealOut := mOK.of f_X2_dealOut (by decide) (fun _ => rfl) (fun g => mCodeOK kk_X2_dealOut) (fun g => mFldL fk_RX2 rfl) (fun g idx v h => by cases h) (fun g idx v h => by cases h) (mCalL (l := l_X2_dealOut) (List.forall_mem_cons.mpr ⟨mSite.V (idx := 45) ok_X2_clear (by decide) (by decide) rv_X2_clear wc_X2_clear wk_RX2_45 wi_X2_clear wl_X2_clear wn_RX2 wd_X2_clear, List.forall_mem_cons.mpr ⟨mSite.SN (idx := 48) ok_X7_set (by decide) (by decide) wc_X7_set wm_RX2_48 wt_X7_set wn_RX7 wd_X7_set, List.forall_mem_cons.mpr ⟨mSite.SN (idx := 52) ok_X7_nextSeed (by decide) (by decide) wc_X7_nextSeed wm_RX2_52 wt_X7_nextSeed wn_RX7 wd_X7_nextSeed, List.forall_mem_cons.mpr ⟨mSite.SN (idx := 56) ok_X7_at (by decide) (by decide) wc_X7_at wm_RX2_56 wt_X7_at wn_RX7 wd_X7_at, List.forall_mem_cons.mpr ⟨mSite.SN (idx := 60) ok_X7_bitOf (by decide) (by decide) wc_X7_bitOf wm_RX2_60 wt_X7_bitOf wn_RX7 wd_X7_bitOf, List.forall_mem_cons.mpr ⟨mSite.SN (idx := 63) ok_X7_take (by decide) (by decide) wc_X7_take wm_RX2_63 wt_X7_take wn_RX7 wd_X7_take, fun _ h => absurd h List.not_mem_nil⟩⟩⟩⟩⟩⟩) (fun _ => rfl)) run_X2_dealOut
end
section
/-! ===== HOW MANY CARDS: hands, and the end ===== -/
theorem ctb_set {X c : Nat} (hc : X.testBit c = false) : ∀ n, ctb (X ||| 2 ^ c) n = ctb X n + (if c < n then 1 else 0)
  | 0 => rfl
  | n + 1 => by
    rw [ctb, ctb, ctb_set hc n, Nat.testBit_or, Nat.testBit_two_pow]
    by_cases e : c = n
    · subst e
      rw [hc, if_neg (show ¬ c < c by omega), if_pos (show c < c + 1 by omega)]
      simp
    · have e1 : (c < n ↔ c < n + 1) := by omega
      simp only [e, decide_false, Bool.or_false, e1]
      omega
theorem ctb_full {X : Nat} : ∀ {n : Nat}, ctb X n = n → ∀ j, j < n → X.testBit j = true
  | 0, _, j, hj => absurd hj (Nat.not_lt_zero _)
  | n + 1, h, j, hj => by
    have hle := ctb_le X n
    rw [ctb] at h
    have h1 : X.testBit n = true := by
      cases q : X.testBit n with
      | true => rfl
      | false => rw [q] at h; simp at h; omega
    rw [h1] at h
    have h2 : ctb X n = n := by simpa using h
    by_cases e : j = n
    · rw [e]
      exact h1
    · exact ctb_full h2 j (by omega)
theorem ctb_pos {X : Nat} : ∀ {n : Nat}, 0 < ctb X n → ∃ j, j < n ∧ X.testBit j = true
  | 0, h => absurd h (Nat.lt_irrefl 0)
  | n + 1, h => by
    cases q : X.testBit n with
    | true => exact ⟨n, by omega, q⟩
    | false =>
      rw [ctb, q] at h
      obtain ⟨j, h1, h2⟩ := ctb_pos (X := X) (n := n) (by simpa using h)
      exact ⟨j, by omega, h2⟩
theorem ub_fBit : ∀ c, c < 32 → ub (fBit (nI c)) = 2 ^ c := by decide +kernel
/-- cards in a set -/
def pop (x : Int32) : Nat := ctb (ub x) 32
theorem pop_or {x : Int32} {c : Nat} (hc : c < 32) (h : bt x c = false) : pop (x ||| fBit (nI c)) = pop x + 1 := by
  unfold pop
  rw [ub_or, ub_fBit c hc, ctb_set h, if_pos hc]
theorem pop_not {x : Int32} {c : Nat} (hc : c < 32) (h : bt x c = true) : pop (x &&& (fBit (nI c) ^^^ (-1))) + 1 = pop x := by
  have e : (x &&& (fBit (nI c) ^^^ (-1))) ||| fBit (nI c) = x := bt_ext (fun i hi => by
    rw [bt_or, bt_and, bt_not hi, bt_fBit c hc i hi]
    by_cases q : i = c
    · subst q
      simp [h]
    · simp [q])
  have h2 : bt (x &&& (fBit (nI c) ^^^ (-1))) c = false := by
    rw [bt_and, bt_not hc, bt_fBit c hc c hc]
    simp
  rw [← pop_or hc h2, e]
/-- how often player q played among the first n cards -/
def aNp (x : aX) (cs : List Nat) (q : Nat) : Nat → Nat
  | 0 => 0
  | n + 1 => aNp x cs q n + (if aTn x cs n = q then 1 else 0)
theorem aNp_old {x : aX} {cs : List Nat} {c q : Nat} : ∀ {n : Nat}, n ≤ cs.length + 1 → aNp x (cs ++ [c]) q n = aNp x cs q n
  | 0, _ => rfl
  | n + 1, h => by rw [aNp, aNp, aNp_old (n := n) (by omega), aTn_old (by omega)]
theorem aNp_trick {x : aX} {cs : List Nat} {q : Nat} (hq : q < 4) : ∀ i, aNp x cs q (4 * i) = i
  | 0 => rfl
  | i + 1 => by
    have e : 4 * (i + 1) = 4 * i + 1 + 1 + 1 + 1 := by omega
    rw [e, aNp, aNp, aNp, aNp, aNp_trick hq i]
    have t : ∀ k, k < 4 → aTn x cs (4 * i + k) = (aLd x cs i + k) % 4 := fun k hk => by
      unfold aTn
      rw [show (4 * i + k) / 4 = i by omega, show (4 * i + k) % 4 = k by omega]
    have t0 := t 0 (by omega)
    have t1 := t 1 (by omega)
    have t2 := t 2 (by omega)
    have t3 := t 3 (by omega)
    rw [Nat.add_zero] at t0
    rw [show 4 * i + 1 + 1 = 4 * i + 2 by omega, show 4 * i + 2 + 1 = 4 * i + 3 by omega, t0, t1, t2, t3]
    generalize aLd x cs i = l
    have h4 : l % 4 < 4 := Nat.mod_lt _ (by decide)
    (repeat' split) <;> omega
/-- who is in turn has played in the full tricks alone -/
theorem aNp_turn {x : aX} {cs : List Nat} (n : Nat) : aNp x cs (aTn x cs n) n = n / 4 := by
  have hq : aTn x cs n < 4 := aTn_lt
  have tt : aTn x cs n = (aLd x cs (n / 4) + n % 4) % 4 := rfl
  have t : ∀ k, k < 4 → aTn x cs (4 * (n / 4) + k) = (aLd x cs (n / 4) + k) % 4 := fun k hk => by
    unfold aTn
    rw [show (4 * (n / 4) + k) / 4 = n / 4 by omega, show (4 * (n / 4) + k) % 4 = k by omega]
  have b := aNp_trick (x := x) (cs := cs) hq (n / 4)
  have t0 := t 0 (by omega)
  have t1 := t 1 (by omega)
  have t2 := t 2 (by omega)
  rw [Nat.add_zero] at t0
  generalize hp : aTn x cs n = p at *
  generalize aLd x cs (n / 4) = l at *
  have hm : n % 4 < 4 := Nat.mod_lt _ (by decide)
  obtain h | h | h | h : n % 4 = 0 ∨ n % 4 = 1 ∨ n % 4 = 2 ∨ n % 4 = 3 := by omega
  · rw [show n = 4 * (n / 4) by omega, b]
    omega
  · have e : n = 4 * (n / 4) + 1 := by omega
    have : aNp x cs p (4 * (n / 4) + 1) = n / 4 := by
      rw [aNp, b, t0, if_neg (by omega)]
      rfl
    rw [← e] at this
    exact this
  · have e : n = 4 * (n / 4) + 1 + 1 := by omega
    have : aNp x cs p (4 * (n / 4) + 1 + 1) = n / 4 := by
      rw [aNp, aNp, b, t0, t1, if_neg (by omega), if_neg (by omega)]
      rfl
    rw [← e] at this
    exact this
  · have e : n = 4 * (n / 4) + 1 + 1 + 1 := by omega
    have : aNp x cs p (4 * (n / 4) + 1 + 1 + 1) = n / 4 := by
      rw [aNp, aNp, aNp, b, t0, t1, show 4 * (n / 4) + 1 + 1 = 4 * (n / 4) + 2 by omega, t2, if_neg (by omega), if_neg (by omega), if_neg (by omega)]
      rfl
    rw [← e] at this
    exact this
theorem aHd_nil {dl : Nat → Int32} {q : Nat} : aHd dl [] q = dl q := bt_ext (fun i hi => by
  rw [bt_aHd (fun c hc => by cases hc) hi]
  simp)
/-- each has eight cards, less those that they have played -/
theorem pop_aHd {x : aX} {dl : Nat → Int32} : ∀ (n : Nat) (cs : List Nat), cs.length = n → aOk x dl cs → ∀ q, q < 4 → pop (aHd dl cs q) + aNp x cs q n = 8
  | 0, cs, hl, hok, q, hq => by
    obtain rfl : cs = [] := List.eq_nil_of_length_eq_zero hl
    rw [aHd_nil]
    exact hok.2.2.2.1.2 q hq
  | n + 1, cs, hl, hok, q, hq => by
    obtain ⟨cs', c, rfl⟩ : ∃ cs' c, cs = cs' ++ [c] := ⟨cs.dropLast, cs.getLast (fun z => by rw [z] at hl; cases hl), (List.dropLast_concat_getLast _).symm⟩
    rw [List.length_append, List.length_singleton] at hl
    obtain ⟨hok1, hc, hbc, hnm⟩ := hok.old
    have hlt := aOk.lt hok1
    have ih := pop_aHd n cs' (by omega) hok1 q hq
    have hn : cs'.length = n := by omega
    rw [aNp, aNp_old (by omega), aTn_old (by omega)]
    by_cases e : aTn x cs' n = q
    · rw [if_pos e, aMk_in hlt hc]
      have hb : bt (aHd dl cs' q) c = true := by
        rw [bt_aHd hlt hc, ← e, ← hn, hbc]
        simp [hnm]
      have := pop_not hc hb
      omega
    · rw [if_neg e, aHd_other hlt hc hok.2.2.2.1 aTn_lt hq hbc (by rw [hn]; exact Ne.symm e)]
      omega
theorem pop_ne {x : Int32} (h : 0 < pop x) : x ≠ 0 := fun e => by
  rw [e] at h
  exact absurd h (by decide)
theorem bt_ne {x : Int32} {c : Nat} (h : bt x c = true) : x ≠ 0 := fun e => by
  rw [e, bt_0] at h
  cases h
/-- while cards are left, who is in turn may play one -/
theorem hand_ne {x : aX} {dl : Nat → Int32} {cs : List Nat} (hok : aOk x dl cs) (hn : cs.length < 32) : aHd dl cs (aTn x cs cs.length) ≠ 0 := by
  have h := pop_aHd cs.length cs rfl hok (aTn x cs cs.length) aTn_lt
  rw [aNp_turn] at h
  exact pop_ne (by omega)
theorem aAl_sub {x : aX} {dl : Nat → Int32} {cs : List Nat} {j : Nat} (h : bt (aAl x dl cs) j = true) : bt (aHd dl cs (aTn x cs cs.length)) j = true := by
  unfold aAl at h
  split at h
  · exact h
  · split at h
    · rw [bt_and, Bool.and_eq_true] at h
      exact h.1
    · split at h
      · exact h
      · split at h
        · rw [bt_and, bt_and, Bool.and_eq_true, Bool.and_eq_true] at h
          exact h.1.1
        · rw [bt_and, Bool.and_eq_true] at h
          exact h.1
theorem aAl_ne {x : aX} {dl : Nat → Int32} {cs : List Nat} (hok : aOk x dl cs) (hn : cs.length < 32) : aAl x dl cs ≠ 0 := by
  have h := hand_ne hok hn
  unfold aAl
  split
  · exact h
  · split
    · rename_i h1
      exact h1
    · split
      · exact h
      · rename_i h1
        split
        · rename_i h2
          exact h2.2
        · exact fun z => h1 (Or.inr z)
theorem hand_0 {x : aX} {dl : Nat → Int32} {cs : List Nat} (hok : aOk x dl cs) (hn : cs.length = 32) : aHd dl cs (aTn x cs cs.length) = 0 := by
  have h := pop_aHd cs.length cs rfl hok (aTn x cs cs.length) aTn_lt
  rw [aNp_turn, hn] at h
  have h0 : pop (aHd dl cs (aTn x cs 32)) = 0 := by omega
  rw [hn]
  refine bt_ext (fun i hi => ?_)
  rw [bt_0]
  cases q : bt (aHd dl cs (aTn x cs 32)) i with
  | false => rfl
  | true =>
    have := pop_not hi q
    omega
theorem aAl_0 {x : aX} {dl : Nat → Int32} {cs : List Nat} (hok : aOk x dl cs) (hn : cs.length = 32) : aAl x dl cs = 0 := by
  unfold aAl
  rw [if_pos (by omega)]
  exact hand_0 hok hn
end
section
/-! ===== CLASS TrickHouse: the most tricks that a side can still have ===== -/
/-- the best of f over a list: the greatest (b) or the least -/
def fS (b : Bool) (f : Nat → Nat) : List Nat → Nat → Nat
  | [], e => e
  | c :: l, e => fS b f l (bif b then max e (f c) else min e (f c))
theorem fS_bd {b : Bool} {f : Nat → Nat} {A B : Nat} : ∀ {l : List Nat} {e : Nat}, (∀ c ∈ l, A ≤ f c ∧ f c ≤ B) → A ≤ e ∧ e ≤ B → A ≤ fS b f l e ∧ fS b f l e ≤ B
  | [], _, _, h => h
  | c :: l, e, hf, h => by
    have hc := hf c List.mem_cons_self
    refine fS_bd (l := l) (fun d hd => hf d (List.mem_cons_of_mem _ hd)) ?_
    cases b
    · show A ≤ min e (f c) ∧ min e (f c) ≤ B
      omega
    · show A ≤ max e (f c) ∧ max e (f c) ≤ B
      omega
theorem fS_stop {b : Bool} {f : Nat → Nat} {A B : Nat} : ∀ {l : List Nat}, (∀ c ∈ l, A ≤ f c ∧ f c ≤ B) → fS b f l (bif b then B else A) = bif b then B else A
  | [], _ => rfl
  | c :: l, hf => by
    have hc := hf c List.mem_cons_self
    have h := fS_stop (b := b) (l := l) (fun d hd => hf d (List.mem_cons_of_mem _ hd))
    rw [fS]
    cases b
    · show fS false f l (min A (f c)) = A
      rw [show min A (f c) = A by omega]
      exact h
    · show fS true f l (max B (f c)) = B
      rw [show max B (f c) = B by omega]
      exact h
theorem fS_congr {b : Bool} {f h : Nat → Nat} : ∀ {l : List Nat} {e : Nat}, (∀ c ∈ l, f c = h c) → fS b f l e = fS b h l e
  | [], _, _ => rfl
  | c :: l, e, hf => by
    rw [fS, fS, hf c List.mem_cons_self]
    exact fS_congr (fun d hd => hf d (List.mem_cons_of_mem _ hd))
/-- how many tricks of the side s at the end, after the cards cs, n cards being left -/
def aV (x : aX) (dl : Nat → Int32) (s : Nat) : Nat → List Nat → Nat
  | 0, cs => aWn x cs s (cs.length / 4)
  | n + 1, cs => fS (decide (aTn x cs cs.length % 2 = s)) (fun c => aV x dl s n (cs ++ [c])) (bts (ub (aAl x dl cs)) 32) (bif decide (aTn x cs cs.length % 2 = s) then aWn x cs s (cs.length / 4) else aWn x cs s (cs.length / 4) + (8 - cs.length / 4))
theorem al_ok {x : aX} {dl : Nat → Int32} {cs : List Nat} {c : Nat} (hok : aOk x dl cs) (hl : cs.length < 32) (hc : c < 32) (hb : bt (aAl x dl cs) c = true) : aOk x dl (cs ++ [c]) := hok.add hl hc (aAl_sub hb)
theorem aWn_step {x : aX} {cs : List Nat} {c s : Nat} (hl : cs.length < 32) : aWn x cs s (cs.length / 4) ≤ aWn x (cs ++ [c]) s ((cs ++ [c]).length / 4) ∧ aWn x (cs ++ [c]) s ((cs ++ [c]).length / 4) + (8 - (cs ++ [c]).length / 4) ≤ aWn x cs s (cs.length / 4) + (8 - cs.length / 4) := by
  rw [List.length_append, List.length_singleton]
  by_cases h : (cs.length + 1) / 4 = cs.length / 4
  · rw [h, aWn_old (by omega)]
    exact ⟨Nat.le_refl _, Nat.le_refl _⟩
  · rw [show (cs.length + 1) / 4 = cs.length / 4 + 1 by omega, aWn, aWn_old (by omega)]
    generalize aWn x cs s (cs.length / 4) = W
    split <;> omega
theorem aV_bd {x : aX} {dl : Nat → Int32} {s : Nat} : ∀ (n : Nat) (cs : List Nat), n + cs.length = 32 → aOk x dl cs → aWn x cs s (cs.length / 4) ≤ aV x dl s n cs ∧ aV x dl s n cs ≤ aWn x cs s (cs.length / 4) + (8 - cs.length / 4)
  | 0, cs, _, _ => ⟨Nat.le_refl _, Nat.le_add_right _ _⟩
  | n + 1, cs, hn, hok => by
    rw [aV]
    refine fS_bd (fun c hc => ?_) ?_
    · have h := bts_lt hc
      have h2 := aV_bd (s := s) n (cs ++ [c]) (by rw [List.length_append, List.length_singleton]; omega) (al_ok hok (by omega) h.1 h.2)
      have h3 := aWn_step (x := x) (cs := cs) (c := c) (s := s) (by omega)
      exact ⟨Nat.le_trans h3.1 h2.1, Nat.le_trans h2.2 h3.2⟩
    · cases decide (aTn x cs cs.length % 2 = s)
      · exact ⟨Nat.le_add_right _ _, Nat.le_refl _⟩
      · exact ⟨Nat.le_refl _, Nat.le_add_right _ _⟩
theorem FrP.trans {p : Nat} {M M1 M2 : mM} (h : FrP p M M1) (k : FrP p M1 M2) : FrP p M M2 := fun c hc => (k c hc).trans (h c hc)
theorem FrP.refl {p : Nat} {M : mM} : FrP p M M := fun _ _ => rfl
def pre_X7_mostMade (r : Nat) (q : Nat × aX × (Nat → Int32) × List Nat) (as : List mV) (M : mM) : Prop := ∃ d, d + r = 13 ∧ d ≤ 12 ∧ as = [.inr (some 29), .inl (nI q.1), .inl (nI d)] ∧ q.1 < 2 ∧ RpP 29 M q.2.1 q.2.2.1 0 0 q.2.2.2 ∧ aOk q.2.1 q.2.2.1 q.2.2.2 ∧ 20 + d ≤ q.2.2.2.length
def post_X7_mostMade (_ : Nat) (q : Nat × aX × (Nat → Int32) × List Nat) (_ : List mV) (M : mM) (v : Int32) (M' : mM) : Prop := v = nI (aV q.2.1 q.2.2.1 q.1 (32 - q.2.2.2.length) q.2.2.2) ∧ RpP 29 M' q.2.1 q.2.2.1 0 0 q.2.2.2 ∧ FrP 29 M M'
abbrev t_X7_mostMade (r : Nat) : mG → mT := mRi (pre_X7_mostMade r) (post_X7_mostMade r)
theorem mo_X7_mostMade (r : Nat) : mMn (t_X7_mostMade r) := mRi_mono
def k_X7_mostMade : List (Nat × mI) := [(0, .aload_n 0, 1, 0, 0, []),
  (1, .invokevirtual 152, 3, 0, 0, []),
  (4, .istore_n 3, 1, 3, 0, []),
  (5, .aload_n 0, 1, 0, 0, []),
  (6, .getfield 352, 3, 0, 0, []),
  (9, .iload_n 1, 1, 1, 0, []),
  (10, .invokestatic 107, 3, 0, 0, []),
  (13, .istore 4, 2, 4, 0, []),
  (15, .iload_n 3, 1, 3, 0, []),
  (16, .ifCond .eq 9, 3, 25, 0, []),
  (19, .iload_n 2, 1, 2, 0, []),
  (20, .bipush 12, 2, 0, nI 12, []),
  (22, .if_icmp .lt 6, 3, 28, 0, []),
  (25, .iload 4, 2, 4, 0, []),
  (27, .ireturn, 1, 0, 0, []),
  (28, .aload_n 0, 1, 0, 0, []),
  (29, .getfield 149, 3, 0, 0, []),
  (32, .iconst 1, 1, 0, nI 1, []),
  (33, .iand, 1, 0, 0, []),
  (34, .iload_n 1, 1, 1, 0, []),
  (35, .if_icmp .ne 7, 3, 42, 0, []),
  (38, .iconst 1, 1, 0, nI 1, []),
  (39, .goto 4, 3, 43, 0, []),
  (42, .iconst 0, 1, 0, nI 0, []),
  (43, .istore 5, 2, 5, 0, []),
  (45, .iload 4, 2, 4, 0, []),
  (47, .aload_n 0, 1, 0, 0, []),
  (48, .invokevirtual 358, 3, 0, 0, []),
  (51, .iadd, 1, 0, 0, []),
  (52, .istore 6, 2, 6, 0, []),
  (54, .iload 5, 2, 5, 0, []),
  (56, .ifCond .eq 8, 3, 64, 0, []),
  (59, .iload 4, 2, 4, 0, []),
  (61, .goto 5, 3, 66, 0, []),
  (64, .iload 6, 2, 6, 0, []),
  (66, .istore 7, 2, 7, 0, []),
  (68, .iload 5, 2, 5, 0, []),
  (70, .ifCond .eq 8, 3, 78, 0, []),
  (73, .iload 6, 2, 6, 0, []),
  (75, .goto 5, 3, 80, 0, []),
  (78, .iload 4, 2, 4, 0, []),
  (80, .istore 8, 2, 8, 0, []),
  (82, .iload_n 3, 1, 3, 0, []),
  (83, .invokestatic 231, 3, 0, 0, []),
  (86, .istore 9, 2, 9, 0, []),
  (88, .iload 9, 2, 9, 0, []),
  (90, .ifCond .le 72, 3, 162, 0, []),
  (93, .iload 7, 2, 7, 0, []),
  (95, .iload 8, 2, 8, 0, []),
  (97, .if_icmp .eq 65, 3, 162, 0, []),
  (100, .iload_n 3, 1, 3, 0, []),
  (101, .invokestatic 236, 3, 0, 0, []),
  (104, .istore 10, 2, 10, 0, []),
  (106, .iload_n 3, 1, 3, 0, []),
  (107, .iload_n 3, 1, 3, 0, []),
  (108, .iconst 1, 1, 0, nI 1, []),
  (109, .isub, 1, 0, 0, []),
  (110, .iand, 1, 0, 0, []),
  (111, .istore_n 3, 1, 3, 0, []),
  (112, .aload_n 0, 1, 0, 0, []),
  (113, .iload 10, 2, 10, 0, []),
  (115, .invokevirtual 355, 3, 0, 0, []),
  (118, .aload_n 0, 1, 0, 0, []),
  (119, .iload_n 1, 1, 1, 0, []),
  (120, .iload_n 2, 1, 2, 0, []),
  (121, .iconst 1, 1, 0, nI 1, []),
  (122, .iadd, 1, 0, 0, []),
  (123, .invokestatic 348, 3, 0, 0, []),
  (126, .istore 11, 2, 11, 0, []),
  (128, .aload_n 0, 1, 0, 0, []),
  (129, .invokevirtual 361, 3, 0, 0, []),
  (132, .iload 5, 2, 5, 0, []),
  (134, .ifCond .eq 13, 3, 147, 0, []),
  (137, .iload 7, 2, 7, 0, []),
  (139, .iload 11, 2, 11, 0, []),
  (141, .invokestatic 364, 3, 0, 0, []),
  (144, .goto 10, 3, 154, 0, []),
  (147, .iload 7, 2, 7, 0, []),
  (149, .iload 11, 2, 11, 0, []),
  (151, .invokestatic 369, 3, 0, 0, []),
  (154, .istore 7, 2, 7, 0, []),
  (156, .iinc 9 (-1), 3, 9, -1, []),
  (159, .goto (-71), 3, 88, 0, []),
  (162, .iload 7, 2, 7, 0, []),
  (164, .ireturn, 1, 0, 0, [])]
theorem kk_X7_mostMade : (k_X7_mostMade.all fun e => mChk cX7_mostMade e.1 e.2) = true := by decide +kernel
def l_X7_mostMade (r : Nat) : List (Nat × Nat × (mG → mT)) := [(3 * 152, 0 + 1, t_X2_allowed), (3 * 107 + 1, 2, t_X7_at), (3 * 358, 0 + 1, t_X2_left), (3 * 231 + 1, 1, t_J6_bitCount_0f7a4), (3 * 236 + 1, 1, t_X7_lowestCard), (3 * 355, 1 + 1, t_X2_lay), (3 * 348 + 1, 3, (t_X7_mostMade r)), (3 * 361, 0 + 1, t_X2_lift), (3 * 364 + 1, 2, tMax), (3 * 369 + 1, 2, tMin)]
def f_X7_mostMade (r : Nat) (g : mG) : mF := (mLk k_X7_mostMade, mLk fl_RX7, mLk ((l_X7_mostMade r).map fun e => (e.1, e.2.1, e.2.2 g)), mLk ([] : List (Nat × mV)), mLk ([] : List (Nat × mV)), some .int)
theorem m_X7_mostMade (r : Nat) (g : mG) : mMono (f_X7_mostMade r g) := mMonoL (g := g) (l := l_X7_mostMade r) (List.forall_mem_cons.mpr ⟨mo_X2_allowed, List.forall_mem_cons.mpr ⟨mo_X7_at, List.forall_mem_cons.mpr ⟨mo_X2_left, List.forall_mem_cons.mpr ⟨mo_J6_bitCount_0f7a4, List.forall_mem_cons.mpr ⟨mo_X7_lowestCard, List.forall_mem_cons.mpr ⟨mo_X2_lay, List.forall_mem_cons.mpr ⟨(mo_X7_mostMade r), List.forall_mem_cons.mpr ⟨mo_X2_lift, List.forall_mem_cons.mpr ⟨tMax_mono, List.forall_mem_cons.mpr ⟨tMin_mono, fun _ h => absurd h List.not_mem_nil⟩⟩⟩⟩⟩⟩⟩⟩⟩⟩) rfl

theorem v_mm_0 (r : Nat) (g : mG) (M : mM) (P : mP) (y z : Int32)
    (h : ∃ x1 : Nat × aP, pre_X2_allowed x1 [.inr (some 29)] M ∧ ∀ (r3 : Int32) (M2 : mM), post_X2_allowed x1 [.inr (some 29)] M r3 M2 → ((r3 = 0 → P (some (.inl (aAt (M2 36) 2 y))) M2) ∧ (¬ r3 = 0 → (z < (nI 12) → (¬ ((M2 29 8) &&& (nI 1)) = y → mRun (mSx g) (f_X7_mostMade r g) P (43, [some (.inr (some 29)), some (.inl y), some (.inl z), some (.inl r3), some (.inl (aAt (M2 36) 2 y)), none, none, none, none, none, none, none], [.inl (nI 0)], M2)) ∧ (¬ (¬ ((M2 29 8) &&& (nI 1)) = y) → mRun (mSx g) (f_X7_mostMade r g) P (43, [some (.inr (some 29)), some (.inl y), some (.inl z), some (.inl r3), some (.inl (aAt (M2 36) 2 y)), none, none, none, none, none, none, none], [.inl (nI 1)], M2))) ∧ (¬ z < (nI 12) → P (some (.inl (aAt (M2 36) 2 y))) M2)))) :
    mRun (mSx g) (f_X7_mostMade r g) P (0, [some (.inr (some 29)), some (.inl y), some (.inl z), none, none, none, none, none, none, none, none, none], [], M) := mRun.vc (m_X7_mostMade r g) [43] 22 h

theorem v_mm_43 (r : Nat) (g : mG) (M : mM) (P : mP) (y z u w q : Int32)
    (h : ¬ (nI 4) = 0 ∧ ((((q = 0 → (q = 0 → mRun (mSx g) (f_X7_mostMade r g) P (88, [some (.inr (some 29)), some (.inl y), some (.inl z), some (.inl u), some (.inl w), some (.inl q), some (.inl (w + ((nI 8) - ((M 29 7) / (nI 4))))), some (.inl (w + ((nI 8) - ((M 29 7) / (nI 4))))), some (.inl w), some (.inl (popC u)), none, none], [], M)) ∧ (¬ q = 0 → mRun (mSx g) (f_X7_mostMade r g) P (88, [some (.inr (some 29)), some (.inl y), some (.inl z), some (.inl u), some (.inl w), some (.inl q), some (.inl (w + ((nI 8) - ((M 29 7) / (nI 4))))), some (.inl (w + ((nI 8) - ((M 29 7) / (nI 4))))), some (.inl (w + ((nI 8) - ((M 29 7) / (nI 4))))), some (.inl (popC u)), none, none], [], M))) ∧ (¬ q = 0 → (q = 0 → mRun (mSx g) (f_X7_mostMade r g) P (88, [some (.inr (some 29)), some (.inl y), some (.inl z), some (.inl u), some (.inl w), some (.inl q), some (.inl (w + ((nI 8) - ((M 29 7) / (nI 4))))), some (.inl w), some (.inl w), some (.inl (popC u)), none, none], [], M)) ∧ (¬ q = 0 → mRun (mSx g) (f_X7_mostMade r g) P (88, [some (.inr (some 29)), some (.inl y), some (.inl z), some (.inl u), some (.inl w), some (.inl q), some (.inl (w + ((nI 8) - ((M 29 7) / (nI 4))))), some (.inl w), some (.inl (w + ((nI 8) - ((M 29 7) / (nI 4))))), some (.inl (popC u)), none, none], [], M))))))) :
    mRun (mSx g) (f_X7_mostMade r g) P (43, [some (.inr (some 29)), some (.inl y), some (.inl z), some (.inl u), some (.inl w), none, none, none, none, none, none, none], [.inl q], M) := mRun.vc (m_X7_mostMade r g) [88] 20 h

theorem v_mm_88 (r : Nat) (g : mG) (M : mM) (P : mP) (y z u w q m e d k : Int32) (l10 l11 : Option mV)
    (h : (k ≤ 0 → P (some (.inl e)) M) ∧ (¬ k ≤ 0 → (e = d → P (some (.inl e)) M) ∧ (¬ e = d → ∃ x1 : Nat × aP × Nat, pre_X2_lay x1 [.inr (some 29), .inl (fLow u)] M ∧ ∀ M2 : mM, post_X2_lay x1 [.inr (some 29), .inl (fLow u)] M M2 → (∃ x3 : Nat × aX × (Nat → Int32) × List Nat, pre_X7_mostMade r x3 [.inr (some 29), .inl y, .inl (z + (nI 1))] M2 ∧ ∀ (r5 : Int32) (M4 : mM), post_X7_mostMade r x3 [.inr (some 29), .inl y, .inl (z + (nI 1))] M2 r5 M4 → (∃ x6 : Nat × aP × Nat, pre_X2_lift x6 [.inr (some 29)] M4 ∧ ∀ M7 : mM, post_X2_lift x6 [.inr (some 29)] M4 M7 → ((q = 0 → mRun (mSx g) (f_X7_mostMade r g) P (88, [some (.inr (some 29)), some (.inl y), some (.inl z), some (.inl (u &&& (u - (nI 1)))), some (.inl w), some (.inl q), some (.inl m), some (.inl (if r5 < e then r5 else e)), some (.inl d), some (.inl (k + (-1))), some (.inl (fLow u)), some (.inl r5)], [], M7)) ∧ (¬ q = 0 → mRun (mSx g) (f_X7_mostMade r g) P (88, [some (.inr (some 29)), some (.inl y), some (.inl z), some (.inl (u &&& (u - (nI 1)))), some (.inl w), some (.inl q), some (.inl m), some (.inl (if e < r5 then r5 else e)), some (.inl d), some (.inl (k + (-1))), some (.inl (fLow u)), some (.inl r5)], [], M7)))))))) :
    mRun (mSx g) (f_X7_mostMade r g) P (88, [some (.inr (some 29)), some (.inl y), some (.inl z), some (.inl u), some (.inl w), some (.inl q), some (.inl m), some (.inl e), some (.inl d), some (.inl k), l10, l11], [], M) := mRun.vc (m_X7_mostMade r g) [88] 36 h

theorem nI_max {a b : Nat} (ha : a < 100) (hb : b < 100) : (if nI a < nI b then nI b else nI a) = nI (max a b) := by
  split
  · rename_i h
    simp (disch := omega) only [fa_lt, nI_toInt] at h
    rw [show max a b = b by omega]
  · rename_i h
    simp (disch := omega) only [fa_lt, nI_toInt] at h
    rw [show max a b = a by omega]
theorem nI_min {a b : Nat} (ha : a < 100) (hb : b < 100) : (if nI b < nI a then nI b else nI a) = nI (min a b) := by
  split
  · rename_i h
    simp (disch := omega) only [fa_lt, nI_toInt] at h
    rw [show min a b = b by omega]
  · rename_i h
    simp (disch := omega) only [fa_lt, nI_toInt] at h
    rw [show min a b = a by omega]
theorem mm_loop (r : Nat) (g : mG) (P : mP) (M0 : mM) (x : aX) (dl : Nat → Int32) (s d : Nat) (cs : List Nat) (hs : s < 2) (hd : d + (r + 1) = 13) (hdl : 20 + d ≤ cs.length) (hn : cs.length < 32) (hok : aOk x dl cs) (b : Bool) (w m : Int32)
    (hP : ∀ (v : Nat) (M' : mM), v = aV x dl s (32 - cs.length) cs → RpP 29 M' x dl 0 0 cs → FrP 29 M0 M' → P (some (.inl (nI v))) M') :
    ∀ (l : List Nat) (u : Int32) (e : Nat) (M : mM) (l10 l11 : Option mV), bts (ub u) 32 = l → l.length ≤ 32 → (∀ c ∈ l, c < 32 ∧ bt (aAl x dl cs) c = true) → (aWn x cs s (cs.length / 4) ≤ e ∧ e ≤ aWn x cs s (cs.length / 4) + (8 - cs.length / 4)) → fS b (fun c => aV x dl s (31 - cs.length) (cs ++ [c])) l e = aV x dl s (32 - cs.length) cs → RpP 29 M x dl 0 0 cs → FrP 29 M0 M →
    mRun (mSx g) (f_X7_mostMade r g) P (88, [some (.inr (some 29)), some (.inl (nI s)), some (.inl (nI d)), some (.inl u), some (.inl w), some (.inl (bif b then nI 1 else nI 0)), some (.inl m), some (.inl (nI e)), some (.inl (nI (bif b then aWn x cs s (cs.length / 4) + (8 - cs.length / 4) else aWn x cs s (cs.length / 4)))), some (.inl (nI l.length)), l10, l11], [], M) := by
  intro l
  induction l with
  | nil =>
    intro u e M l10 l11 _ _ _ _ hv hR hF
    exact v_mm_88 r g M P _ _ _ _ _ _ _ _ _ _ _ ⟨fun _ => hP e M hv hR hF, fun z => absurd (Int32.le_refl 0) z⟩
  | cons c l ih =>
    intro u e M l10 l11 hu hll hl he hv hR hF
    have hW := aWn_le (x := x) (cs := cs) (s := s) (cs.length / 4)
    have hbd : ∀ k ∈ c :: l, aWn x cs s (cs.length / 4) ≤ aV x dl s (31 - cs.length) (cs ++ [k]) ∧ aV x dl s (31 - cs.length) (cs ++ [k]) ≤ aWn x cs s (cs.length / 4) + (8 - cs.length / 4) := fun k hk => by
      have h := hl k hk
      have h2 := aV_bd (x := x) (dl := dl) (s := s) (31 - cs.length) (cs ++ [k]) (by rw [List.length_append, List.length_singleton]; omega) (al_ok hok (by omega) h.1 h.2)
      have h3 := aWn_step (x := x) (cs := cs) (c := k) (s := s) (by omega)
      exact ⟨Nat.le_trans h3.1 h2.1, Nat.le_trans h2.2 h3.2⟩
    have hc := hl c List.mem_cons_self
    have hne : u ≠ 0 := fun z => by
      rw [z, bts_zero] at hu
      exact absurd hu (List.cons_ne_nil c l).symm
    obtain ⟨k, -, hk1, hk2, -⟩ := low_of hne
    rw [hu] at hk2
    generalize hu2 : bts (ub (u &&& (u - nI 1))) 32 = l2 at hk2
    obtain ⟨h1, h2⟩ := List.cons.inj hk2
    rw [← h1] at hk1
    rw [← h2] at hu2
    have hok2 := al_ok hok hn hc.1 hc.2
    have hvb := hbd c List.mem_cons_self
    refine v_mm_88 r g M P _ _ _ _ _ _ _ _ _ _ _ ⟨fun z => ?_, fun _ => ⟨fun z => ?_, fun _ => ?_⟩⟩
    · rw [List.length_cons] at z hll
      simp (disch := omega) only [fa_le, nI_toInt, Int32.toInt_zero] at z
      omega
    · have z := (nI_eq (by omega) (by cases b <;> simp <;> omega)).mp z
      refine hP e M ?_ hR hF
      rw [← hv, z]
      exact (fS_stop hbd).symm
    · rw [hk1]
      refine ⟨(29, (x, dl, 0, 0, cs), c), ⟨rfl, rfl, hR, hok, hn, hc.1, aAl_sub hc.2⟩, fun M2 h2 => ?_⟩
      refine ⟨(s, x, dl, cs ++ [c]), ⟨d + 1, by omega, by omega, by rw [nI_add], hs, h2.1, hok2, by rw [List.length_append, List.length_singleton]; omega⟩, fun r5 M4 h4 => ?_⟩
      refine ⟨(29, (x, dl, 0, 0, cs), c), ⟨rfl, rfl, h4.2.1, hok2⟩, fun M7 h7 => ?_⟩
      have hF7 : FrP 29 M0 M7 := ((hF.trans h2.2).trans h4.2.2).trans h7.2
      have h41 := h4.1
      dsimp only at h41
      rw [show 32 - (cs ++ [c]).length = 31 - cs.length by rw [List.length_append, List.length_singleton]; omega] at h41
      rw [h41, show nI (c :: l).length + (-1) = nI l.length by rw [List.length_cons, nI_s1 (by omega)]; rfl]
      cases b
      · rw [fS, cond_false] at hv
        refine ⟨fun _ => ?_, fun z => absurd rfl z⟩
        rw [nI_min (by omega) (by omega)]
        exact ih (u &&& (u - nI 1)) _ M7 _ _ hu2 (by rw [List.length_cons] at hll; omega) (fun c hc => hl c (List.mem_cons_of_mem _ hc)) (by omega) hv h7.1 hF7
      · rw [fS, cond_true] at hv
        refine ⟨fun z => absurd z (by decide), fun _ => ?_⟩
        rw [nI_max (by omega) (by omega)]
        exact ih (u &&& (u - nI 1)) _ M7 _ _ hu2 (by rw [List.length_cons] at hll; omega) (fun c hc => hl c (List.mem_cons_of_mem _ hc)) (by omega) hv h7.1 hF7
theorem mm_run (r : Nat) (g : mG) (P : mP) (M : mM) (x : aX) (dl : Nat → Int32) (s d : Nat) (cs : List Nat) (hs : s < 2) (hd : d + (r + 1) = 13) (hdl : 20 + d ≤ cs.length) (hR : RpP 29 M x dl 0 0 cs) (hok : aOk x dl cs)
    (hP : ∀ (v : Nat) (M' : mM), v = aV x dl s (32 - cs.length) cs → RpP 29 M' x dl 0 0 cs → FrP 29 M M' → P (some (.inl (nI v))) M') :
    mRun (mSx g) (f_X7_mostMade r g) P (0, [some (.inr (some 29)), some (.inl (nI s)), some (.inl (nI d)), none, none, none, none, none, none, none, none, none], [], M) := by
  obtain ⟨r1, r2⟩ := hR.1
  have hlen := hok.2.2.1
  have hW := aWn_le (x := x) (cs := cs) (s := s) (cs.length / 4)
  have hw : aAt (M 36) 2 (nI s) = nI (aWn x cs s (cs.length / 4)) := by
    rw [aAt_in hs (by decide)]
    obtain ⟨-, -, -, -, -, -, h0, h1⟩ := hR
    rcases (by omega : s = 0 ∨ s = 1) with rfl | rfl
    · exact h0.trans (Int32.add_zero _)
    · exact h1.trans (Int32.add_zero _)
  refine v_mm_0 r g M P _ _ ⟨(29, (x, dl, 0, 0, cs)), ⟨rfl, rfl, hR, hok⟩, fun r3 M2 h3 => ?_⟩
  obtain ⟨rfl, rfl⟩ := h3
  dsimp only
  rw [hw]
  refine ⟨fun z => ?_, fun z => ?_⟩
  · refine hP _ _ ?_ hR FrP.refl
    have : cs.length = 32 := by
      rcases Nat.lt_or_ge cs.length 32 with h | h
      · exact absurd z (aAl_ne hok h)
      · omega
    rw [this, Nat.sub_self, aV, this]
  · have hn : cs.length < 32 := by
      rcases Nat.lt_or_ge cs.length 32 with h | h
      · exact h
      · exact absurd (aAl_0 hok (by omega)) z
    refine ⟨fun _ => ?_, fun z => absurd (by simp (disch := omega) only [fa_lt, nI_toInt]; omega) z⟩
    have e8 : (M2 29 8 &&& nI 1 = nI s) ↔ aTn x cs cs.length % 2 = s := by
      rw [r2.1, nI_and1 _ (by have := aTn_lt (x := x) (cs := cs) (j := cs.length); omega)]
      exact nI_eq (by omega) (by omega)
    have e7 : nI (aWn x cs s (cs.length / 4)) + (nI 8 - M2 29 7 / nI 4) = nI (aWn x cs s (cs.length / 4) + (8 - cs.length / 4)) := by
      rw [r1, nI_div4 (by omega), pk_sub (by omega), nI_add]
    have hv : ∀ b, decide (aTn x cs cs.length % 2 = s) = b → fS b (fun c => aV x dl s (31 - cs.length) (cs ++ [c])) (bts (ub (aAl x dl cs)) 32) (bif b then aWn x cs s (cs.length / 4) else aWn x cs s (cs.length / 4) + (8 - cs.length / 4)) = aV x dl s (32 - cs.length) cs := fun b hb => by
      rw [show 32 - cs.length = 31 - cs.length + 1 by omega, aV, hb]
    rw [e8]
    refine ⟨fun h => ?_, fun h => ?_⟩
    · refine v_mm_43 r g M2 P _ _ _ _ _ ⟨n4, ⟨fun _ => ⟨fun _ => ?_, fun z => absurd rfl z⟩, fun z => absurd rfl z⟩⟩
      rw [e7, pop_len]
      exact mm_loop r g P M2 x dl s d cs hs hd hdl hn hok false _ _ hP _ _ _ M2 _ _ rfl (bts_32 _) (fun c hc => bts_lt hc) (by omega) (hv false (decide_eq_false h)) hR FrP.refl
    · refine v_mm_43 r g M2 P _ _ _ _ _ ⟨n4, ⟨fun z => absurd z (by decide), fun _ => ⟨fun z => absurd z (by decide), fun _ => ?_⟩⟩⟩
      rw [e7, pop_len]
      exact mm_loop r g P M2 x dl s d cs hs hd hdl hn hok true _ _ hP _ _ _ M2 _ _ rfl (bts_32 _) (fun c hc => bts_lt hc) (by omega) (hv true (decide_eq_true (Classical.not_not.mp h))) hR FrP.refl
theorem run_X7_mostMade (r : Nat) : mRunOf 12 (t_X7_mostMade (r + 1)) (f_X7_mostMade r) := fun g as M P hT => by
  obtain ⟨⟨s, x, dl, cs⟩, ⟨d, h1, h2, rfl, h3, h4, h5, h6⟩, hP⟩ := hT
  exact ⟨Nat.le_of_ble_eq_true rfl, mm_run r g P M x dl s d cs h3 h1 h6 h4 h5 (fun v M' k1 k2 k3 => hP _ _ ⟨congrArg nI k1, k2, k3⟩)⟩
theorem ok_X7_mostMade : ∀ r, mOK yX7_mostMade cX7_mostMade 12 (some .int) (4 + r) (t_X7_mostMade r)
  | 0 => fun l g sz as M P hT => by
    obtain ⟨q, ⟨d, h1, h2, -⟩, -⟩ := hT
    omega
  | r + 1 => mOK.of (f_X7_mostMade r) (by decide) (fun _ => rfl) (fun g => mCodeOK kk_X7_mostMade) (fun g => mFldL fk_RX7 rfl) (fun g idx v h => by cases h) (fun g idx v h => by cases h) (mCalL (l := l_X7_mostMade r) (List.forall_mem_cons.mpr ⟨mSite.V (idx := 152) ok_X2_allowed (by omega) (by decide) rv_X2_allowed wc_X2_allowed wk_RX7_152 wi_X2_allowed wl_X2_allowed wn_RX2 wd_X2_allowed, List.forall_mem_cons.mpr ⟨mSite.S (idx := 107) ok_X7_at (by omega) (by decide) wc_X7_at wk_RX7_107 wt_X7_at wn_RX7 wd_X7_at, List.forall_mem_cons.mpr ⟨mSite.V (idx := 358) ok_X2_left (by omega) (by decide) rv_X2_left wc_X2_left wk_RX7_358 wi_X2_left wl_X2_left wn_RX2 wd_X2_left, List.forall_mem_cons.mpr ⟨mSite.S (idx := 231) ok_J6_bitCount_0f7a4 (by omega) (by decide) wc_J6_bitCount_0f7a4 wk_RX7_231 wt_J6_bitCount_0f7a4 wn_RJ6 wd_J6_bitCount_0f7a4, List.forall_mem_cons.mpr ⟨mSite.S (idx := 236) ok_X7_lowestCard (by omega) (by decide) wc_X7_lowestCard wk_RX7_236 wt_X7_lowestCard wn_RX7 wd_X7_lowestCard, List.forall_mem_cons.mpr ⟨mSite.V (idx := 355) ok_X2_lay (by omega) (by decide) rv_X2_lay wc_X2_lay wk_RX7_355 wi_X2_lay wl_X2_lay wn_RX2 wd_X2_lay, List.forall_mem_cons.mpr ⟨mSite.S (idx := 348) (ok_X7_mostMade r) (by omega) (by decide) wc_X7_mostMade wk_RX7_348 wt_X7_mostMade wn_RX7 wd_X7_mostMade, List.forall_mem_cons.mpr ⟨mSite.V (idx := 361) ok_X2_lift (by omega) (by decide) rv_X2_lift wc_X2_lift wk_RX7_361 wi_X2_lift wl_X2_lift wn_RX2 wd_X2_lift, List.forall_mem_cons.mpr ⟨mSite.max (idx := 364) (by omega) wc_J9_max_7cf53 wk_RX7_364 wt_J9_max_7cf53 wn_RJ9, List.forall_mem_cons.mpr ⟨mSite.min (idx := 369) (by omega) wc_J9_min_7cf53 wk_RX7_369 wt_J9_min_7cf53 wn_RJ9, fun _ h => absurd h List.not_mem_nil⟩⟩⟩⟩⟩⟩⟩⟩⟩⟩) (fun _ => rfl)) (run_X7_mostMade r)
end
section
/-! ===== CLASS TrickHouse: open, gains, best ===== -/
def aSd (x : aX) (cs : List Nat) : Nat := aTn x cs cs.length % 2
def aO (x : aX) (dl : Nat → Int32) (cs : List Nat) : Nat := aV x dl (aSd x cs) (32 - cs.length) cs - aWn x cs (aSd x cs) (cs.length / 4)
def aG (x : aX) (dl : Nat → Int32) (cs : List Nat) (c : Nat) : Nat := aV x dl (aSd x cs) (31 - cs.length) (cs ++ [c]) - aWn x cs (aSd x cs) (cs.length / 4)
theorem won_at {p : Nat} {M : mM} {x : aX} {dl : Nat → Int32} {cs : List Nat} (hR : RpP p M x dl 0 0 cs) {s : Nat} (hs : s < 2) : aAt (M (p + 7)) 2 (nI s) = nI (aWn x cs s (cs.length / 4)) := by
  rw [aAt_in hs (by decide)]
  obtain ⟨-, -, -, -, -, -, h0, h1⟩ := hR
  rcases (by omega : s = 0 ∨ s = 1) with rfl | rfl
  · exact h0.trans (Int32.add_zero _)
  · exact h1.trans (Int32.add_zero _)
theorem aSd_lt {x : aX} {cs : List Nat} : aSd x cs < 2 := Nat.mod_lt _ (by decide)
theorem sd_at {p : Nat} {M : mM} {x : aX} {dl : Nat → Int32} {cs : List Nat} (hR : RpP p M x dl 0 0 cs) : M p 8 &&& nI 1 = nI (aSd x cs) := by
  rw [hR.1.2.1, nI_and1 _ (by have := aTn_lt (x := x) (cs := cs) (j := cs.length); omega)]
  rfl
def pre_X7_openNow (q : aX × (Nat → Int32) × List Nat) (as : List mV) (M : mM) : Prop := as = [.inr (some 0)] ∧ RpP 16 M q.1 q.2.1 0 0 q.2.2 ∧ aOk q.1 q.2.1 q.2.2 ∧ 20 ≤ q.2.2.length
def post_X7_openNow (q : aX × (Nat → Int32) × List Nat) (_ : List mV) (M : mM) (v : Int32) (M' : mM) : Prop := v = nI (aO q.1 q.2.1 q.2.2) ∧ FrP 29 M M'
abbrev t_X7_openNow : mG → mT := mRi pre_X7_openNow post_X7_openNow
theorem mo_X7_openNow : mMn t_X7_openNow := mRi_mono
theorem rv_X7_openNow : mHasR yX7_openNow 0 t_X7_openNow := by
  intro g as M P hT hl
  obtain ⟨q, ⟨h2, -⟩, -⟩ := hT
  exact ⟨_, _, h2, is_X7 g _ rfl⟩
def k_X7_openNow : List (Nat × mI) := [(0, .aload_n 0, 1, 0, 0, []),
  (1, .getfield 29, 3, 0, 0, []),
  (4, .getfield 134, 3, 0, 0, []),
  (7, .getfield 149, 3, 0, 0, []),
  (10, .iconst 1, 1, 0, nI 1, []),
  (11, .iand, 1, 0, 0, []),
  (12, .istore_n 1, 1, 1, 0, []),
  (13, .aload_n 0, 1, 0, 0, []),
  (14, .getfield 33, 3, 0, 0, []),
  (17, .getfield 134, 3, 0, 0, []),
  (20, .aload_n 0, 1, 0, 0, []),
  (21, .getfield 29, 3, 0, 0, []),
  (24, .getfield 134, 3, 0, 0, []),
  (27, .invokevirtual 345, 3, 0, 0, []),
  (30, .aload_n 0, 1, 0, 0, []),
  (31, .getfield 33, 3, 0, 0, []),
  (34, .getfield 134, 3, 0, 0, []),
  (37, .iload_n 1, 1, 1, 0, []),
  (38, .iconst 0, 1, 0, nI 0, []),
  (39, .invokestatic 348, 3, 0, 0, []),
  (42, .aload_n 0, 1, 0, 0, []),
  (43, .getfield 29, 3, 0, 0, []),
  (46, .getfield 134, 3, 0, 0, []),
  (49, .getfield 352, 3, 0, 0, []),
  (52, .iload_n 1, 1, 1, 0, []),
  (53, .invokestatic 107, 3, 0, 0, []),
  (56, .isub, 1, 0, 0, []),
  (57, .ireturn, 1, 0, 0, [])]
theorem kk_X7_openNow : (k_X7_openNow.all fun e => mChk cX7_openNow e.1 e.2) = true := by decide +kernel
def l_X7_openNow : List (Nat × Nat × (mG → mT)) := [(3 * 345, 1 + 1, t_X2_become), (3 * 348 + 1, 3, (t_X7_mostMade 13)), (3 * 107 + 1, 2, t_X7_at)]
def f_X7_openNow (g : mG) : mF := (mLk k_X7_openNow, mLk fl_RX7, mLk (l_X7_openNow.map fun e => (e.1, e.2.1, e.2.2 g)), mLk ([] : List (Nat × mV)), mLk ([] : List (Nat × mV)), some .int)
theorem m_X7_openNow (g : mG) : mMono (f_X7_openNow g) := mMonoL (g := g) (l := l_X7_openNow) (List.forall_mem_cons.mpr ⟨mo_X2_become, List.forall_mem_cons.mpr ⟨(mo_X7_mostMade 13), List.forall_mem_cons.mpr ⟨mo_X7_at, fun _ h => absurd h List.not_mem_nil⟩⟩⟩) rfl

theorem v_on_0 (g : mG) (M : mM) (P : mP) 
    (h : ∃ x1 : aP, pre_X2_become x1 [.inr (some 29), .inr (some 16)] M ∧ ∀ M2 : mM, post_X2_become x1 [.inr (some 29), .inr (some 16)] M M2 → (∃ x3 : Nat × aX × (Nat → Int32) × List Nat, pre_X7_mostMade 13 x3 [.inr (some 29), .inl ((M 16 8) &&& (nI 1)), .inl (nI 0)] M2 ∧ ∀ (r5 : Int32) (M4 : mM), post_X7_mostMade 13 x3 [.inr (some 29), .inl ((M 16 8) &&& (nI 1)), .inl (nI 0)] M2 r5 M4 → (P (some (.inl (r5 - (aAt (M4 23) 2 ((M 16 8) &&& (nI 1)))))) M4))) :
    mRun (mSx g) (f_X7_openNow g) P (0, [some (.inr (some 0)), none], [], M) := mRun.vc (m_X7_openNow g) [] 28 h

theorem run_X7_openNow : mRunOf 2 t_X7_openNow f_X7_openNow := fun g as M P hT => by
  obtain ⟨⟨x, dl, cs⟩, ⟨rfl, h1, h2, h3⟩, hP⟩ := hT
  dsimp only at h1 h2 h3
  refine ⟨Nat.le_of_ble_eq_true rfl, v_on_0 g M P ?_⟩
  rw [sd_at h1]
  refine ⟨(x, dl, 0, 0, cs), ⟨rfl, h1, h2.2.2.1⟩, fun M2 k2 => ?_⟩
  refine ⟨(aSd x cs, x, dl, cs), ⟨0, rfl, by decide, rfl, aSd_lt, k2.1, h2, h3⟩, fun r5 M4 k4 => ?_⟩
  have hF : FrP 29 M M4 := k2.2.trans k4.2.2
  have e1 : r5 = nI (aV x dl (aSd x cs) (32 - cs.length) cs) := k4.1
  have hlen := h2.2.2.1
  have hb := aV_bd (s := aSd x cs) (32 - cs.length) cs (by omega) h2
  have hW := aWn_le (x := x) (cs := cs) (s := aSd x cs) (cs.length / 4)
  rw [hF 23 (by decide), won_at (p := 16) h1 aSd_lt, e1, pk_sub (by omega)]
  exact hP _ _ ⟨rfl, hF⟩
theorem ok_X7_openNow : mOK yX7_openNow cX7_openNow 2 (some .int) 18 t_X7_openNow := mOK.of f_X7_openNow (by decide) (fun _ => rfl) (fun g => mCodeOK kk_X7_openNow) (fun g => mFldL fk_RX7 rfl) (fun g idx v h => by cases h) (fun g idx v h => by cases h) (mCalL (l := l_X7_openNow) (List.forall_mem_cons.mpr ⟨mSite.V (idx := 345) ok_X2_become (by decide) (by decide) rv_X2_become wc_X2_become wk_RX7_345 wi_X2_become wl_X2_become wn_RX2 wd_X2_become, List.forall_mem_cons.mpr ⟨mSite.S (idx := 348) (ok_X7_mostMade 13) (by decide) (by decide) wc_X7_mostMade wk_RX7_348 wt_X7_mostMade wn_RX7 wd_X7_mostMade, List.forall_mem_cons.mpr ⟨mSite.S (idx := 107) ok_X7_at (by decide) (by decide) wc_X7_at wk_RX7_107 wt_X7_at wn_RX7 wd_X7_at, fun _ h => absurd h List.not_mem_nil⟩⟩⟩) (fun _ => rfl)) run_X7_openNow

def pre_X7_gainsOf (q : aX × (Nat → Int32) × List Nat × Nat) (as : List mV) (M : mM) : Prop := as = [.inr (some 0), .inl (nI q.2.2.2)] ∧ RpP 16 M q.1 q.2.1 0 0 q.2.2.1 ∧ aOk q.1 q.2.1 q.2.2.1 ∧ 20 ≤ q.2.2.1.length ∧ q.2.2.1.length < 32 ∧ q.2.2.2 < 32 ∧ bt (aAl q.1 q.2.1 q.2.2.1) q.2.2.2 = true
def post_X7_gainsOf (q : aX × (Nat → Int32) × List Nat × Nat) (_ : List mV) (M : mM) (v : Int32) (M' : mM) : Prop := v = nI (aG q.1 q.2.1 q.2.2.1 q.2.2.2) ∧ FrP 29 M M'
abbrev t_X7_gainsOf : mG → mT := mRi pre_X7_gainsOf post_X7_gainsOf
theorem mo_X7_gainsOf : mMn t_X7_gainsOf := mRi_mono
theorem rv_X7_gainsOf : mHasR yX7_gainsOf 1 t_X7_gainsOf := by
  intro g as M P hT hl
  obtain ⟨q, ⟨h2, -⟩, -⟩ := hT
  exact ⟨_, _, h2, is_X7 g _ rfl⟩
def k_X7_gainsOf : List (Nat × mI) := [(0, .aload_n 0, 1, 0, 0, []),
  (1, .getfield 29, 3, 0, 0, []),
  (4, .getfield 134, 3, 0, 0, []),
  (7, .getfield 149, 3, 0, 0, []),
  (10, .iconst 1, 1, 0, nI 1, []),
  (11, .iand, 1, 0, 0, []),
  (12, .istore_n 2, 1, 2, 0, []),
  (13, .aload_n 0, 1, 0, 0, []),
  (14, .getfield 33, 3, 0, 0, []),
  (17, .getfield 134, 3, 0, 0, []),
  (20, .aload_n 0, 1, 0, 0, []),
  (21, .getfield 29, 3, 0, 0, []),
  (24, .getfield 134, 3, 0, 0, []),
  (27, .invokevirtual 345, 3, 0, 0, []),
  (30, .aload_n 0, 1, 0, 0, []),
  (31, .getfield 33, 3, 0, 0, []),
  (34, .getfield 134, 3, 0, 0, []),
  (37, .iload_n 1, 1, 1, 0, []),
  (38, .invokevirtual 355, 3, 0, 0, []),
  (41, .aload_n 0, 1, 0, 0, []),
  (42, .getfield 33, 3, 0, 0, []),
  (45, .getfield 134, 3, 0, 0, []),
  (48, .iload_n 2, 1, 2, 0, []),
  (49, .iconst 1, 1, 0, nI 1, []),
  (50, .invokestatic 348, 3, 0, 0, []),
  (53, .aload_n 0, 1, 0, 0, []),
  (54, .getfield 29, 3, 0, 0, []),
  (57, .getfield 134, 3, 0, 0, []),
  (60, .getfield 352, 3, 0, 0, []),
  (63, .iload_n 2, 1, 2, 0, []),
  (64, .invokestatic 107, 3, 0, 0, []),
  (67, .isub, 1, 0, 0, []),
  (68, .ireturn, 1, 0, 0, [])]
theorem kk_X7_gainsOf : (k_X7_gainsOf.all fun e => mChk cX7_gainsOf e.1 e.2) = true := by decide +kernel
def l_X7_gainsOf : List (Nat × Nat × (mG → mT)) := [(3 * 345, 1 + 1, t_X2_become), (3 * 355, 1 + 1, t_X2_lay), (3 * 348 + 1, 3, (t_X7_mostMade 12)), (3 * 107 + 1, 2, t_X7_at)]
def f_X7_gainsOf (g : mG) : mF := (mLk k_X7_gainsOf, mLk fl_RX7, mLk (l_X7_gainsOf.map fun e => (e.1, e.2.1, e.2.2 g)), mLk ([] : List (Nat × mV)), mLk ([] : List (Nat × mV)), some .int)
theorem m_X7_gainsOf (g : mG) : mMono (f_X7_gainsOf g) := mMonoL (g := g) (l := l_X7_gainsOf) (List.forall_mem_cons.mpr ⟨mo_X2_become, List.forall_mem_cons.mpr ⟨mo_X2_lay, List.forall_mem_cons.mpr ⟨(mo_X7_mostMade 12), List.forall_mem_cons.mpr ⟨mo_X7_at, fun _ h => absurd h List.not_mem_nil⟩⟩⟩⟩) rfl

theorem v_go_0 (g : mG) (M : mM) (P : mP) (y : Int32)
    (h : ∃ x1 : aP, pre_X2_become x1 [.inr (some 29), .inr (some 16)] M ∧ ∀ M2 : mM, post_X2_become x1 [.inr (some 29), .inr (some 16)] M M2 → (∃ x3 : Nat × aP × Nat, pre_X2_lay x3 [.inr (some 29), .inl y] M2 ∧ ∀ M4 : mM, post_X2_lay x3 [.inr (some 29), .inl y] M2 M4 → (∃ x5 : Nat × aX × (Nat → Int32) × List Nat, pre_X7_mostMade 12 x5 [.inr (some 29), .inl ((M 16 8) &&& (nI 1)), .inl (nI 1)] M4 ∧ ∀ (r7 : Int32) (M6 : mM), post_X7_mostMade 12 x5 [.inr (some 29), .inl ((M 16 8) &&& (nI 1)), .inl (nI 1)] M4 r7 M6 → (P (some (.inl (r7 - (aAt (M6 23) 2 ((M 16 8) &&& (nI 1)))))) M6)))) :
    mRun (mSx g) (f_X7_gainsOf g) P (0, [some (.inr (some 0)), some (.inl y), none], [], M) := mRun.vc (m_X7_gainsOf g) [] 33 h

theorem aG_le {x : aX} {dl : Nat → Int32} {cs : List Nat} {c : Nat} (hok : aOk x dl cs) (hn : cs.length < 32) (hc : c < 32) (hb : bt (aAl x dl cs) c = true) : aWn x cs (aSd x cs) (cs.length / 4) ≤ aV x dl (aSd x cs) (31 - cs.length) (cs ++ [c]) ∧ aG x dl cs c ≤ 8 := by
  have h2 := aV_bd (x := x) (dl := dl) (s := aSd x cs) (31 - cs.length) (cs ++ [c]) (by rw [List.length_append, List.length_singleton]; omega) (al_ok hok hn hc hb)
  have h3 := aWn_step (x := x) (cs := cs) (c := c) (s := aSd x cs) hn
  unfold aG
  exact ⟨by omega, by omega⟩
theorem run_X7_gainsOf : mRunOf 3 t_X7_gainsOf f_X7_gainsOf := fun g as M P hT => by
  obtain ⟨⟨x, dl, cs, c⟩, ⟨rfl, h1, h2, h3, h4, h5, h6⟩, hP⟩ := hT
  dsimp only at h1 h2 h3 h4 h5 h6
  refine ⟨Nat.le_of_ble_eq_true rfl, v_go_0 g M P _ ?_⟩
  rw [sd_at h1]
  have hok2 := al_ok h2 h4 h5 h6
  have hl2 : (cs ++ [c]).length = cs.length + 1 := by rw [List.length_append, List.length_singleton]
  refine ⟨(x, dl, 0, 0, cs), ⟨rfl, h1, h2.2.2.1⟩, fun M2 k2 => ?_⟩
  refine ⟨(29, (x, dl, 0, 0, cs), c), ⟨rfl, rfl, k2.1, h2, h4, h5, aAl_sub h6⟩, fun M4 k4 => ?_⟩
  refine ⟨(aSd x cs, x, dl, cs ++ [c]), ⟨1, rfl, by decide, rfl, aSd_lt, k4.1, hok2, by rw [hl2]; omega⟩, fun r7 M6 k6 => ?_⟩
  have hF : FrP 29 M M6 := (k2.2.trans k4.2).trans k6.2.2
  have e1 : r7 = nI (aV x dl (aSd x cs) (31 - cs.length) (cs ++ [c])) := by
    rw [show 31 - cs.length = 32 - (cs ++ [c]).length by rw [hl2]; omega]
    exact k6.1
  have hb := (aG_le h2 h4 h5 h6).1
  rw [hF 23 (by decide), won_at (p := 16) h1 aSd_lt, e1, pk_sub hb]
  exact hP _ _ ⟨rfl, hF⟩
theorem ok_X7_gainsOf : mOK yX7_gainsOf cX7_gainsOf 3 (some .int) 18 t_X7_gainsOf := mOK.of f_X7_gainsOf (by decide) (fun _ => rfl) (fun g => mCodeOK kk_X7_gainsOf) (fun g => mFldL fk_RX7 rfl) (fun g idx v h => by cases h) (fun g idx v h => by cases h) (mCalL (l := l_X7_gainsOf) (List.forall_mem_cons.mpr ⟨mSite.V (idx := 345) ok_X2_become (by decide) (by decide) rv_X2_become wc_X2_become wk_RX7_345 wi_X2_become wl_X2_become wn_RX2 wd_X2_become, List.forall_mem_cons.mpr ⟨mSite.V (idx := 355) ok_X2_lay (by decide) (by decide) rv_X2_lay wc_X2_lay wk_RX7_355 wi_X2_lay wl_X2_lay wn_RX2 wd_X2_lay, List.forall_mem_cons.mpr ⟨mSite.S (idx := 348) (ok_X7_mostMade 12) (by decide) (by decide) wc_X7_mostMade wk_RX7_348 wt_X7_mostMade wn_RX7 wd_X7_mostMade, List.forall_mem_cons.mpr ⟨mSite.S (idx := 107) ok_X7_at (by decide) (by decide) wc_X7_at wk_RX7_107 wt_X7_at wn_RX7 wd_X7_at, fun _ h => absurd h List.not_mem_nil⟩⟩⟩⟩) (fun _ => rfl)) run_X7_gainsOf
end
section
/-! ===== CLASS TrickHouse: a draw; lowest terms ===== -/
/-- the card that the seed z draws -/
def aCh (x : aX) (dl : Nat → Int32) (z : Int32) (cs : List Nat) : Nat := (bts (ub (aAl x dl cs)) 32).getD (ub z / 512 % (bts (ub (aAl x dl cs)) 32).length) 0
/-- the cards after n more draws -/
def aDr (x : aX) (dl : Nat → Int32) : Nat → Int32 → List Nat → List Nat
  | 0, _, cs => cs
  | n + 1, z, cs => aDr x dl n (fNext z) (cs ++ [aCh x dl (fNext z) cs])
theorem al_pos {x : aX} {dl : Nat → Int32} {cs : List Nat} (hok : aOk x dl cs) (hn : cs.length < 32) : 0 < (bts (ub (aAl x dl cs)) 32).length := by
  have h := aAl_ne hok hn
  rcases Nat.eq_zero_or_pos (bts (ub (aAl x dl cs)) 32).length with h0 | h0
  · exact absurd (bts_nil (List.eq_nil_of_length_eq_zero h0)) h
  · exact h0
theorem aCh_in {x : aX} {dl : Nat → Int32} {cs : List Nat} (z : Int32) (hok : aOk x dl cs) (hn : cs.length < 32) : aCh x dl z cs < 32 ∧ bt (aAl x dl cs) (aCh x dl z cs) = true := by
  have h0 := al_pos hok hn
  refine bts_lt ?_
  unfold aCh
  generalize bts (ub (aAl x dl cs)) 32 = l at *
  rw [List.getD_eq_getElem?_getD, List.getElem?_eq_getElem (Nat.mod_lt _ h0)]
  exact List.getElem_mem _
theorem aDr_ok {x : aX} {dl : Nat → Int32} : ∀ (n : Nat) (z : Int32) (cs : List Nat), n + cs.length = 32 → aOk x dl cs → aOk x dl (aDr x dl n z cs) ∧ (aDr x dl n z cs).length = 32
  | 0, _, cs, hn, hok => ⟨hok, (Nat.zero_add _).symm.trans hn⟩
  | n + 1, z, cs, hn, hok => by
    have h := aCh_in (fNext z) hok (by omega)
    exact aDr_ok n (fNext z) (cs ++ [aCh x dl (fNext z) cs]) (by rw [List.length_append, List.length_singleton]; omega) (al_ok hok (by omega) h.1 h.2)
def pre_X7_drawnMade (q : (aX × (Nat → Int32) × List Nat) × Int32 × Nat) (as : List mV) (M : mM) : Prop := as = [.inr (some 0), .inl q.2.1] ∧ RpP 16 M q.1.1 q.1.2.1 0 0 q.1.2.2 ∧ aOk q.1.1 q.1.2.1 q.1.2.2 ∧ M 14 7 = nI q.2.2 ∧ q.2.2 < 4
def post_X7_drawnMade (q : (aX × (Nat → Int32) × List Nat) × Int32 × Nat) (_ : List mV) (M : mM) (v : Int32) (M' : mM) : Prop := v = nI (aWn q.1.1 (aDr q.1.1 q.1.2.1 (32 - q.1.2.2.length) q.2.1 q.1.2.2) (q.2.2 % 2) 8) ∧ FrP 29 M M'
abbrev t_X7_drawnMade : mG → mT := mRi pre_X7_drawnMade post_X7_drawnMade
theorem mo_X7_drawnMade : mMn t_X7_drawnMade := mRi_mono
theorem rv_X7_drawnMade : mHasR yX7_drawnMade 1 t_X7_drawnMade := by
  intro g as M P hT hl
  obtain ⟨q, ⟨h2, -⟩, -⟩ := hT
  exact ⟨_, _, h2, is_X7 g _ rfl⟩
def k_X7_drawnMade : List (Nat × mI) := [(0, .aload_n 0, 1, 0, 0, []),
  (1, .getfield 33, 3, 0, 0, []),
  (4, .getfield 134, 3, 0, 0, []),
  (7, .astore_n 2, 1, 2, 0, []),
  (8, .aload_n 2, 1, 2, 0, []),
  (9, .aload_n 0, 1, 0, 0, []),
  (10, .getfield 29, 3, 0, 0, []),
  (13, .getfield 134, 3, 0, 0, []),
  (16, .invokevirtual 345, 3, 0, 0, []),
  (19, .iload_n 1, 1, 1, 0, []),
  (20, .istore_n 3, 1, 3, 0, []),
  (21, .iconst 0, 1, 0, nI 0, []),
  (22, .istore 4, 2, 4, 0, []),
  (24, .iload 4, 2, 4, 0, []),
  (26, .bipush 32, 2, 0, nI 32, []),
  (28, .if_icmp .ge 51, 3, 79, 0, []),
  (31, .aload_n 2, 1, 2, 0, []),
  (32, .invokevirtual 152, 3, 0, 0, []),
  (35, .istore 5, 2, 5, 0, []),
  (37, .iload 5, 2, 5, 0, []),
  (39, .invokestatic 231, 3, 0, 0, []),
  (42, .istore 6, 2, 6, 0, []),
  (44, .iload 6, 2, 6, 0, []),
  (46, .ifCond .ne 6, 3, 52, 0, []),
  (49, .goto 30, 3, 79, 0, []),
  (52, .iload_n 3, 1, 3, 0, []),
  (53, .invokestatic 372, 3, 0, 0, []),
  (56, .istore_n 3, 1, 3, 0, []),
  (57, .aload_n 2, 1, 2, 0, []),
  (58, .iload 5, 2, 5, 0, []),
  (60, .iload_n 3, 1, 3, 0, []),
  (61, .bipush 9, 2, 0, nI 9, []),
  (63, .iushr, 1, 0, 0, []),
  (64, .iload 6, 2, 6, 0, []),
  (66, .irem, 1, 0, 0, []),
  (67, .invokestatic 375, 3, 0, 0, []),
  (70, .invokevirtual 355, 3, 0, 0, []),
  (73, .iinc 4 1, 3, 4, nI 1, []),
  (76, .goto (-52), 3, 24, 0, []),
  (79, .aload_n 2, 1, 2, 0, []),
  (80, .getfield 352, 3, 0, 0, []),
  (83, .aload_n 0, 1, 0, 0, []),
  (84, .getfield 29, 3, 0, 0, []),
  (87, .getfield 181, 3, 0, 0, []),
  (90, .getfield 378, 3, 0, 0, []),
  (93, .iconst 1, 1, 0, nI 1, []),
  (94, .iand, 1, 0, 0, []),
  (95, .invokestatic 107, 3, 0, 0, []),
  (98, .ireturn, 1, 0, 0, [])]
theorem kk_X7_drawnMade : (k_X7_drawnMade.all fun e => mChk cX7_drawnMade e.1 e.2) = true := by decide +kernel
def l_X7_drawnMade : List (Nat × Nat × (mG → mT)) := [(3 * 345, 1 + 1, t_X2_become), (3 * 152, 0 + 1, t_X2_allowed), (3 * 231 + 1, 1, t_J6_bitCount_0f7a4), (3 * 372 + 1, 1, t_X7_nextSeed), (3 * 375 + 1, 2, t_X7_cardByNumber), (3 * 355, 1 + 1, t_X2_lay), (3 * 107 + 1, 2, t_X7_at)]
def f_X7_drawnMade (g : mG) : mF := (mLk k_X7_drawnMade, mLk fl_RX7, mLk (l_X7_drawnMade.map fun e => (e.1, e.2.1, e.2.2 g)), mLk ([] : List (Nat × mV)), mLk ([] : List (Nat × mV)), some .int)
theorem m_X7_drawnMade (g : mG) : mMono (f_X7_drawnMade g) := mMonoL (g := g) (l := l_X7_drawnMade) (List.forall_mem_cons.mpr ⟨mo_X2_become, List.forall_mem_cons.mpr ⟨mo_X2_allowed, List.forall_mem_cons.mpr ⟨mo_J6_bitCount_0f7a4, List.forall_mem_cons.mpr ⟨mo_X7_nextSeed, List.forall_mem_cons.mpr ⟨mo_X7_cardByNumber, List.forall_mem_cons.mpr ⟨mo_X2_lay, List.forall_mem_cons.mpr ⟨mo_X7_at, fun _ h => absurd h List.not_mem_nil⟩⟩⟩⟩⟩⟩⟩) rfl

theorem v_dm_0 (g : mG) (M : mM) (P : mP) (y : Int32)
    (h : ∃ x1 : aP, pre_X2_become x1 [.inr (some 29), .inr (some 16)] M ∧ ∀ M2 : mM, post_X2_become x1 [.inr (some 29), .inr (some 16)] M M2 → (mRun (mSx g) (f_X7_drawnMade g) P (24, [some (.inr (some 0)), some (.inl y), some (.inr (some 29)), some (.inl y), some (.inl (nI 0)), none, none], [], M2))) :
    mRun (mSx g) (f_X7_drawnMade g) P (0, [some (.inr (some 0)), some (.inl y), none, none, none, none, none], [], M) := mRun.vc (m_X7_drawnMade g) [24] 14 h

theorem v_dm_24 (g : mG) (M : mM) (P : mP) (y z k : Int32) (l5 l6 : Option mV)
    (h : ((nI 32) ≤ k → P (some (.inl (aAt (M 36) 2 ((M 14 7) &&& (nI 1))))) M) ∧ (¬ (nI 32) ≤ k → ∃ x1 : Nat × aP, pre_X2_allowed x1 [.inr (some 29)] M ∧ ∀ (r3 : Int32) (M2 : mM), post_X2_allowed x1 [.inr (some 29)] M r3 M2 → ((¬ (popC r3) = 0 → ¬ (popC r3) = 0 ∧ (∃ x4 : Nat × Int32, pre_X7_cardByNumber x4 [.inl r3, .inl ((((fNext z).toUInt32 >>> ((nI 9).toUInt32 &&& Int32.toUInt32 31)).toInt32) - (((fNext z).toUInt32 >>> ((nI 9).toUInt32 &&& Int32.toUInt32 31)).toInt32) / (popC r3) * (popC r3))] M2 ∧ ∀ (r6 : Int32) (M5 : mM), post_X7_cardByNumber x4 [.inl r3, .inl ((((fNext z).toUInt32 >>> ((nI 9).toUInt32 &&& Int32.toUInt32 31)).toInt32) - (((fNext z).toUInt32 >>> ((nI 9).toUInt32 &&& Int32.toUInt32 31)).toInt32) / (popC r3) * (popC r3))] M2 r6 M5 → (∃ x7 : Nat × aP × Nat, pre_X2_lay x7 [.inr (some 29), .inl r6] M5 ∧ ∀ M8 : mM, post_X2_lay x7 [.inr (some 29), .inl r6] M5 M8 → (mRun (mSx g) (f_X7_drawnMade g) P (24, [some (.inr (some 0)), some (.inl y), some (.inr (some 29)), some (.inl (fNext z)), some (.inl (k + (nI 1))), some (.inl r3), some (.inl (popC r3))], [], M8))))) ∧ (¬ (¬ (popC r3) = 0) → P (some (.inl (aAt (M2 36) 2 ((M2 14 7) &&& (nI 1))))) M2)))) :
    mRun (mSx g) (f_X7_drawnMade g) P (24, [some (.inr (some 0)), some (.inl y), some (.inr (some 29)), some (.inl z), some (.inl k), l5, l6], [], M) := mRun.vc (m_X7_drawnMade g) [24] 26 h

theorem dm_loop (g : mG) (P : mP) (M0 : mM) (x : aX) (dl : Nat → Int32) (d : Nat) (y : Int32) (hd : M0 14 7 = nI d) (hd4 : d < 4) :
    ∀ (n : Nat) (cs : List Nat) (z : Int32) (j : Nat) (M : mM) (l5 l6 : Option mV), n + cs.length = 32 → j ≤ cs.length → aOk x dl cs → RpP 29 M x dl 0 0 cs → FrP 29 M0 M → (∀ M', FrP 29 M0 M' → P (some (.inl (nI (aWn x (aDr x dl n z cs) (d % 2) 8)))) M') →
    mRun (mSx g) (f_X7_drawnMade g) P (24, [some (.inr (some 0)), some (.inl y), some (.inr (some 29)), some (.inl z), some (.inl (nI j)), l5, l6], [], M) := by
  intro n
  induction n with
  | zero =>
    intro cs z j M l5 l6 hn hj hok hR hF hP
    have hl : cs.length = 32 := by omega
    have e : aAt (M 36) 2 (M 14 7 &&& nI 1) = nI (aWn x cs (d % 2) 8) := by
      rw [hF 14 (by decide), hd, nI_and1 _ (by omega), won_at (p := 29) hR (by omega), hl]
    refine v_dm_24 g M P _ _ _ _ _ ⟨fun _ => ?_, fun _ => ?_⟩
    · rw [e]
      exact hP M hF
    · refine ⟨(29, (x, dl, 0, 0, cs)), ⟨rfl, rfl, hR, hok⟩, fun r3 M2 h3 => ?_⟩
      obtain ⟨rfl, rfl⟩ := h3
      dsimp only
      rw [aAl_0 hok hl]
      refine ⟨fun w => absurd (by decide) w, fun _ => ?_⟩
      rw [e]
      exact hP _ hF
  | succ n ih =>
    intro cs z j M l5 l6 hn hj hok hR hF hP
    have hl : cs.length < 32 := by omega
    refine v_dm_24 g M P _ _ _ _ _ ⟨fun w => absurd w (nI_ge (by omega) (by omega)), fun _ => ?_⟩
    refine ⟨(29, (x, dl, 0, 0, cs)), ⟨rfl, rfl, hR, hok⟩, fun r3 M2 h3 => ?_⟩
    obtain ⟨rfl, rfl⟩ := h3
    dsimp only
    have hp := al_pos hok hl
    have h32 := bts_32 (aAl x dl cs)
    have hlow := rmv_low (x := aAl x dl cs) (n := ub (fNext z) / 512 % (bts (ub (aAl x dl cs)) 32).length) (Nat.mod_lt _ hp)
    have hch := aCh_in (fNext z) hok hl
    have hlow2 : fLow (rmv (aAl x dl cs) (ub (fNext z) / 512 % (bts (ub (aAl x dl cs)) 32).length)) = nI (aCh x dl (fNext z) cs) := hlow
    have hk := Nat.mod_lt (ub (fNext z) / 512) hp
    rw [aDr] at hP
    rw [pop_len, pcS9]
    clear hlow
    generalize aCh x dl (fNext z) cs = c at hlow2 hch hP
    generalize (bts (ub (aAl x dl cs)) 32).length = L at hp h32 hlow2 hk ⊢
    have hu := ub_lt (fNext z)
    have hne : nI L ≠ 0 := nI_ne0 hp (by omega)
    refine ⟨fun _ => ⟨hne, ?_⟩, fun w => absurd hne w⟩
    rw [pk_rem (by omega) hp (by omega)]
    refine ⟨(ub (fNext z) / 512 % L, aAl x dl cs), ⟨rfl, by omega⟩, fun r6 M5 h6 => ?_⟩
    obtain ⟨rfl, rfl⟩ := h6
    dsimp only
    rw [hlow2]
    refine ⟨(29, (x, dl, 0, 0, cs), c), ⟨rfl, rfl, hR, hok, hl, hch.1, aAl_sub hch.2⟩, fun M8 h8 => ?_⟩
    rw [nI_add]
    exact ih _ _ _ M8 _ _ (by rw [List.length_append, List.length_singleton]; omega) (by rw [List.length_append, List.length_singleton]; omega) (al_ok hok hl hch.1 hch.2) h8.1 (hF.trans h8.2) hP
theorem run_X7_drawnMade : mRunOf 7 t_X7_drawnMade f_X7_drawnMade := fun g as M P hT => by
  obtain ⟨⟨⟨x, dl, cs⟩, y, d⟩, ⟨rfl, h1, h2, h3, h4⟩, hP⟩ := hT
  dsimp only at h1 h2 h3 h4
  have hlen := h2.2.2.1
  refine ⟨Nat.le_of_ble_eq_true rfl, v_dm_0 g M P _ ?_⟩
  refine ⟨(x, dl, 0, 0, cs), ⟨rfl, h1, hlen⟩, fun M2 k2 => ?_⟩
  exact dm_loop g P M x dl d y h3 h4 (32 - cs.length) cs y 0 M2 _ _ (by omega) (by omega) h2 k2.1 k2.2 (fun M' hF => hP _ _ ⟨rfl, hF⟩)
theorem ok_X7_drawnMade : mOK yX7_drawnMade cX7_drawnMade 7 (some .int) 4 t_X7_drawnMade := mOK.of f_X7_drawnMade (by decide) (fun _ => rfl) (fun g => mCodeOK kk_X7_drawnMade) (fun g => mFldL fk_RX7 rfl) (fun g idx v h => by cases h) (fun g idx v h => by cases h) (mCalL (l := l_X7_drawnMade) (List.forall_mem_cons.mpr ⟨mSite.V (idx := 345) ok_X2_become (by decide) (by decide) rv_X2_become wc_X2_become wk_RX7_345 wi_X2_become wl_X2_become wn_RX2 wd_X2_become, List.forall_mem_cons.mpr ⟨mSite.V (idx := 152) ok_X2_allowed (by decide) (by decide) rv_X2_allowed wc_X2_allowed wk_RX7_152 wi_X2_allowed wl_X2_allowed wn_RX2 wd_X2_allowed, List.forall_mem_cons.mpr ⟨mSite.S (idx := 231) ok_J6_bitCount_0f7a4 (by decide) (by decide) wc_J6_bitCount_0f7a4 wk_RX7_231 wt_J6_bitCount_0f7a4 wn_RJ6 wd_J6_bitCount_0f7a4, List.forall_mem_cons.mpr ⟨mSite.S (idx := 372) ok_X7_nextSeed (by decide) (by decide) wc_X7_nextSeed wk_RX7_372 wt_X7_nextSeed wn_RX7 wd_X7_nextSeed, List.forall_mem_cons.mpr ⟨mSite.S (idx := 375) ok_X7_cardByNumber (by decide) (by decide) wc_X7_cardByNumber wk_RX7_375 wt_X7_cardByNumber wn_RX7 wd_X7_cardByNumber, List.forall_mem_cons.mpr ⟨mSite.V (idx := 355) ok_X2_lay (by decide) (by decide) rv_X2_lay wc_X2_lay wk_RX7_355 wi_X2_lay wl_X2_lay wn_RX2 wd_X2_lay, List.forall_mem_cons.mpr ⟨mSite.S (idx := 107) ok_X7_at (by decide) (by decide) wc_X7_at wk_RX7_107 wt_X7_at wn_RX7 wd_X7_at, fun _ h => absurd h List.not_mem_nil⟩⟩⟩⟩⟩⟩⟩) (fun _ => rfl)) run_X7_drawnMade

/-- v divided by the greatest d that divides both a and b -/
def aLt (v a b : Nat) : Nat → Nat
  | 0 => v
  | d + 1 => if d = 0 then v else if a % (d + 1) = 0 ∧ b % (d + 1) = 0 then v / (d + 1) else aLt v a b d
def pre_X7_inLowestTerms (q : Nat × Nat × Nat) (as : List mV) (_ : mM) : Prop := as = [.inl (nI q.1), .inl (nI q.2.1), .inl (nI q.2.2)] ∧ q.1 < 2 ^ 31 ∧ q.2.1 < 2 ^ 31 ∧ q.2.2 < 2 ^ 31
def post_X7_inLowestTerms (q : Nat × Nat × Nat) (_ : List mV) (M : mM) (v : Int32) (M' : mM) : Prop := v = nI (aLt q.1 q.2.1 q.2.2 q.2.2) ∧ M' = M
abbrev t_X7_inLowestTerms : mG → mT := mRi pre_X7_inLowestTerms post_X7_inLowestTerms
theorem mo_X7_inLowestTerms : mMn t_X7_inLowestTerms := mRi_mono
theorem v_il_0 (g : mG) (M : mM) (P : mP) (v a b : Int32)
    (h : mRun (mSx g) (f_X7_inLowestTerms g) P (2, [some (.inl v), some (.inl a), some (.inl b), some (.inl b)], [], M)) :
    mRun (mSx g) (f_X7_inLowestTerms g) P (0, [some (.inl v), some (.inl a), some (.inl b), none], [], M) := mRun.vc (m_X7_inLowestTerms g) [2] 3 h

theorem v_il_2 (g : mG) (M : mM) (P : mP) (v a b d : Int32)
    (h : (d ≤ (nI 1) → P (some (.inl v)) M) ∧ (¬ d ≤ (nI 1) → ¬ d = 0 ∧ ((¬ (a - a / d * d) = 0 → mRun (mSx g) (f_X7_inLowestTerms g) P (2, [some (.inl v), some (.inl a), some (.inl b), some (.inl (d + (-1)))], [], M)) ∧ (¬ (¬ (a - a / d * d) = 0) → ¬ d = 0 ∧ ((¬ (b - b / d * d) = 0 → mRun (mSx g) (f_X7_inLowestTerms g) P (2, [some (.inl v), some (.inl a), some (.inl b), some (.inl (d + (-1)))], [], M)) ∧ (¬ (¬ (b - b / d * d) = 0) → ¬ d = 0 ∧ (P (some (.inl (v / d))) M))))))) :
    mRun (mSx g) (f_X7_inLowestTerms g) P (2, [some (.inl v), some (.inl a), some (.inl b), some (.inl d)], [], M) := mRun.vc (m_X7_inLowestTerms g) [2] 15 h

theorem il_loop (g : mG) (M : mM) (P : mP) (v a b : Nat) (hv : v < 2 ^ 31) (ha : a < 2 ^ 31) (hb : b < 2 ^ 31) : ∀ (d : Nat), d < 2 ^ 31 → P (some (.inl (nI (aLt v a b d)))) M →
    mRun (mSx g) (f_X7_inLowestTerms g) P (2, [some (.inl (nI v)), some (.inl (nI a)), some (.inl (nI b)), some (.inl (nI d))], [], M) := by
  intro d
  induction d with
  | zero =>
    intro _ hP
    exact v_il_2 g M P _ _ _ _ ⟨fun _ => hP, fun w => absurd (nI_le (by decide) (by decide)) w⟩
  | succ d ih =>
    intro hd hP
    rw [aLt] at hP
    by_cases h0 : d = 0
    · rw [if_pos h0] at hP
      exact v_il_2 g M P _ _ _ _ ⟨fun _ => hP, fun w => absurd (nI_le (by omega) (by decide)) w⟩
    · rw [if_neg h0] at hP
      have hne : nI (d + 1) ≠ 0 := nI_ne0 (by omega) hd
      have hs : nI (d + 1) + (-1) = nI d := by rw [nI_s1 (by omega)]; rfl
      refine v_il_2 g M P _ _ _ _ ⟨fun w => absurd w (nI_ge (by omega) hd), fun _ => ⟨hne, ?_⟩⟩
      rw [pk_rem ha (by omega) hd, pk_rem hb (by omega) hd, pk_div hv (by omega) hd, hs]
      have hma := Nat.mod_lt a (show 0 < d + 1 by omega)
      have hmb := Nat.mod_lt b (show 0 < d + 1 by omega)
      refine ⟨fun w => ?_, fun w => ⟨hne, fun w2 => ?_, fun w2 => ⟨hne, ?_⟩⟩⟩
      · rw [if_neg (fun z => w (by rw [z.1]; rfl))] at hP
        exact ih (by omega) hP
      · rw [if_neg (fun z => w2 (by rw [z.2]; rfl))] at hP
        exact ih (by omega) hP
      · have e1 := (nI_eq (b := 0) (by omega) (by decide)).mp (Classical.not_not.mp w)
        have e2 := (nI_eq (b := 0) (by omega) (by decide)).mp (Classical.not_not.mp w2)
        rw [if_pos ⟨e1, e2⟩] at hP
        exact hP
theorem run_X7_inLowestTerms : mRunOf 4 t_X7_inLowestTerms f_X7_inLowestTerms := fun g as M P hT => by
  obtain ⟨⟨v, a, b⟩, ⟨rfl, h1, h2, h3⟩, hP⟩ := hT
  exact ⟨Nat.le_of_ble_eq_true rfl, v_il_0 g M P _ _ _ (il_loop g M P v a b h1 h2 h3 b h3 (hP _ _ ⟨rfl, rfl⟩))⟩
theorem ok_X7_inLowestTerms : mOK yX7_inLowestTerms cX7_inLowestTerms 4 (some .int) 1 t_X7_inLowestTerms := mOK.of f_X7_inLowestTerms (by decide) (fun _ => rfl) (fun g => mCodeOK kk_X7_inLowestTerms) (fun g => mFldL fk_RX7 rfl) (fun g idx v h => by cases h) (fun g idx v h => by cases h) (mCalL (l := l_X7_inLowestTerms) (fun _ h => absurd h List.not_mem_nil) (fun _ => rfl)) run_X7_inLowestTerms
end
section
/-! ===== the abstract table: (phase, dealer, ranking, rule), bids, play, scores ===== -/
def oI : Option Nat → Int32
  | none => -1
  | some n => nI n
/-- (turn, doubles, passes), (number, trump, bidder), declarer, who first named (5 * side + trump) -/
abbrev aBd : Type := (Nat × Nat × Nat) × Option (Nat × Nat × Nat) × Option Nat × (Nat → Option Nat)
/-- (made, number, trump, doubles) of the last deal that was scored; the totals (6 * side + house) -/
abbrev aSc : Type := Option (Nat × Nat × Nat × Nat) × (Nat → Int32)
abbrev aT : Type := (Nat × Nat × Nat × Nat) × aBd × aP × aSc
def RpB (c : Nat) (M : mM) (b : aBd) : Prop := M c 1 = nI b.1.1 ∧ M c 5 = nI b.1.2.1 ∧ M c 6 = nI b.1.2.2 ∧ M c 2 = oI (b.2.1.map fun q => q.1) ∧ M c 3 = oI (b.2.1.map fun q => q.2.1) ∧ M c 4 = oI (b.2.1.map fun q => q.2.2 % 2) ∧ M c 7 = oI b.2.2.1 ∧ ∀ j, j < 10 → M (c + 1) j = oI (b.2.2.2 j)
def RpSc (c : Nat) (M : mM) (s : aSc) : Prop := M c 1 = (if s.1.isSome then 1 else 0) ∧ (∀ q, s.1 = some q → M c 2 = nI q.1 ∧ M c 3 = nI q.2.1 ∧ M c 4 = nI q.2.2.1 ∧ M c 5 = nI q.2.2.2) ∧ ∀ j, j < 12 → M (c + 1) j = s.2 j
/-- the Table at cell t (13 real, 26 thought) stands for T -/
def RpT (t : Nat) (M : mM) (T : aT) : Prop := (M t 3 = nI T.1.1 ∧ M t 4 = nI T.1.2.1 ∧ M t 5 = nI T.1.2.2.1 ∧ M t 6 = nI T.1.2.2.2) ∧ RpB (t + 1) M T.2.1 ∧ RpS (t + 3) M T.2.2.1 ∧ RpSc (t + 11) M T.2.2.2
def FrT (t : Nat) (M M' : mM) : Prop := ∀ c, (c < t ∨ t + 12 < c) → M' c = M c
theorem FrT.trans {t : Nat} {M M1 M2 : mM} (h : FrT t M M1) (k : FrT t M1 M2) : FrT t M M2 := fun c hc => (k c hc).trans (h c hc)
theorem FrT.refl {t : Nat} {M : mM} : FrT t M M := fun _ _ => rfl
def bd0 (dealer : Nat) : aBd := ((dealer, 0, 0), none, none, fun _ => none)
def pl0 : aP := (aX0, fun _ => 0, 0, 0, [])
def sc0 : aSc := (none, fun _ => 0)
/-- a table at the beginning -/
def tb0 : aT := ((0, 0, 0, 0), bd0 0, pl0, sc0)
def nx (p : Nat) : Nat := (p + 1) % 4
def tEnd (T : aT) : aT := ((0, nx T.1.2.1, T.1.2.2), T.2)
def bBid (b : aBd) (n t : Nat) : aBd := ((nx b.1.1, 0, 0), some (n, t, b.1.1), b.2.2.1, fun j => if j = 5 * (b.1.1 % 2) + t ∧ b.2.2.2 j = none then some b.1.1 else b.2.2.2 j)
def bDbl (b : aBd) : aBd := ((nx b.1.1, b.1.2.1 + 1, 0), b.2)
def bPass (b : aBd) : aBd := ((nx b.1.1, b.1.2.1, b.1.2.2 + 1), b.2)
/-- what the side s has won in the play -/
def pWon (p : aP) (s : Nat) : Int32 := nI (aWn p.1 p.2.2.2.2 s (p.2.2.2.2.length / 4)) + (if s = 0 then p.2.2.1 else p.2.2.2.1)
/-- the deal's score is counted in -/
def sSet (s : aSc) (b : aBd) (m : Nat) : aSc :=
  match b.2.1 with
  | none => s
  | some (n, t, q) => (some (m, n, t, b.1.2.1), fun j => if j / 6 = q % 2 then s.2 j + fScore (nI (j % 6)) (nI m) (nI n) (nI t) (nI b.1.2.1) else s.2 j)
def pMade (p : aP) (b : aBd) : Nat :=
  match b.2.1 with
  | none => 0
  | some (_, _, q) => ub (pWon p (q % 2))
def tSet (T : aT) : aT := tEnd (T.1, T.2.1, T.2.2.1, sSet T.2.2.2 T.2.1 (pMade T.2.2.1 T.2.1))
def tPass (T : aT) : aT :=
  match (bPass T.2.1).2.1 with
  | none => if 4 ≤ (bPass T.2.1).1.2.2 then tEnd (T.1, bPass T.2.1, T.2.2) else (T.1, bPass T.2.1, T.2.2)
  | some (_, t, q) => if 3 ≤ (bPass T.2.1).1.2.2 then ((2, T.1.2), ((bPass T.2.1).1, (bPass T.2.1).2.1, T.2.1.2.2.2 (5 * (q % 2) + t), T.2.1.2.2.2), ((nI t, T.1.2.2.1, nI T.1.2.2.2, nx ((T.2.1.2.2.2 (5 * (q % 2) + t)).getD 0)), T.2.2.1.2.1, 0, 0, []), T.2.2.2) else (T.1, bPass T.2.1, T.2.2)
def pAdd (p : aP) (c : Nat) : aP := (p.1, p.2.1, p.2.2.1, p.2.2.2.1, p.2.2.2.2 ++ [c])
def tPlay (T : aT) (c : Nat) : aT := if T.2.2.1.2.2.2.2.length + 1 = 32 then tSet (T.1, T.2.1, pAdd T.2.2.1 c, T.2.2.2) else (T.1, T.2.1, pAdd T.2.2.1 c, T.2.2.2)
/-- a claim of n of the tricks left, by the side in turn -/
def pClaim (p : aP) (n : Nat) : aP := (p.1, p.2.1, p.2.2.1 + nI (if aSd p.1 p.2.2.2.2 = 0 then n else 8 - p.2.2.2.2.length / 4 - n), p.2.2.2.1 + nI (if aSd p.1 p.2.2.2.2 = 1 then n else 8 - p.2.2.2.2.length / 4 - n), p.2.2.2.2)
def tClaim (T : aT) (n : Nat) : aT := tSet (T.1, T.2.1, pClaim T.2.2.1 n, T.2.2.2)
/-- an act: (word, number, suit) as the log keeps it -/
def tStep (T : aT) (a : Nat × Int32 × Int32) : aT :=
  if a.1 = 0 then ((1, T.1.2), bd0 T.1.2.1, (aX0, aDl0 a.2.1, 0, 0, []), T.2.2.2)
  else if a.1 = 1 then (T.1, bBid T.2.1 (ub a.2.1) (ub a.2.2), T.2.2)
  else if a.1 = 2 then tPass T
  else if a.1 = 3 ∨ a.1 = 4 then (T.1, bDbl T.2.1, T.2.2)
  else if a.1 = 5 then tPlay T (8 * ub a.2.2 + ub a.2.1)
  else if a.1 = 6 then tClaim T (ub a.2.1)
  else if a.1 = 7 then ((T.1.1, T.1.2.1, ub a.2.1, T.1.2.2.2), T.2)
  else ((T.1.1, T.1.2.1, T.1.2.2.1, ub a.2.1), T.2)
/-- the table after the acts of a log -/
def tFold : List (Nat × Int32 × Int32) → aT → aT
  | [], T => T
  | a :: l, T => tFold l (tStep T a)
end
section
/-! ===== CLASS Scores: a deal is scored ===== -/
def pre_X3_settle (q : Nat × aBd × aSc × Nat) (as : List mV) (M : mM) : Prop := (q.1 = 13 ∨ q.1 = 26) ∧ as = [.inr (some (q.1 + 11)), .inr (some (q.1 + 1)), .inl (nI q.2.2.2)] ∧ RpB (q.1 + 1) M q.2.1 ∧ RpSc (q.1 + 11) M q.2.2.1 ∧ q.2.1.2.1.isSome = true
def post_X3_settle (q : Nat × aBd × aSc × Nat) (_ : List mV) (M : mM) (M' : mM) : Prop := RpSc (q.1 + 11) M' (sSet q.2.2.1 q.2.1 q.2.2.2) ∧ ∀ c, c ≠ q.1 + 11 → c ≠ q.1 + 12 → M' c = M c
abbrev t_X3_settle : mG → mT := mRv pre_X3_settle post_X3_settle
theorem mo_X3_settle : mMn t_X3_settle := mRv_mono
theorem rv_X3_settle : mHasR yX3_settle 2 t_X3_settle := by
  intro g as M P hT hl
  obtain ⟨q, ⟨h1, h2, -⟩, -⟩ := hT
  refine ⟨_, _, h2, is_X3 g _ ?_⟩
  rcases h1 with h1 | h1 <;> rw [h1] <;> rfl
def k_X3_settle : List (Nat × mI) := [(0, .aload_n 0, 1, 0, 0, []),
  (1, .iconst 1, 1, 0, nI 1, []),
  (2, .putfield 19, 3, 0, 0, []),
  (5, .aload_n 0, 1, 0, 0, []),
  (6, .iload_n 2, 1, 2, 0, []),
  (7, .putfield 23, 3, 0, 0, []),
  (10, .aload_n 0, 1, 0, 0, []),
  (11, .aload_n 1, 1, 1, 0, []),
  (12, .getfield 27, 3, 0, 0, []),
  (15, .putfield 32, 3, 0, 0, []),
  (18, .aload_n 0, 1, 0, 0, []),
  (19, .aload_n 1, 1, 1, 0, []),
  (20, .getfield 33, 3, 0, 0, []),
  (23, .putfield 36, 3, 0, 0, []),
  (26, .aload_n 0, 1, 0, 0, []),
  (27, .aload_n 1, 1, 1, 0, []),
  (28, .getfield 37, 3, 0, 0, []),
  (31, .putfield 40, 3, 0, 0, []),
  (34, .iconst 0, 1, 0, nI 0, []),
  (35, .istore_n 3, 1, 3, 0, []),
  (36, .iload_n 3, 1, 3, 0, []),
  (37, .bipush 6, 2, 0, nI 6, []),
  (39, .if_icmp .ge 59, 3, 98, 0, []),
  (42, .aload_n 1, 1, 1, 0, []),
  (43, .getfield 41, 3, 0, 0, []),
  (46, .bipush 6, 2, 0, nI 6, []),
  (48, .imul, 1, 0, 0, []),
  (49, .iload_n 3, 1, 3, 0, []),
  (50, .iadd, 1, 0, 0, []),
  (51, .istore 4, 2, 4, 0, []),
  (53, .aload_n 0, 1, 0, 0, []),
  (54, .getfield 9, 3, 0, 0, []),
  (57, .iload 4, 2, 4, 0, []),
  (59, .aload_n 0, 1, 0, 0, []),
  (60, .getfield 9, 3, 0, 0, []),
  (63, .iload 4, 2, 4, 0, []),
  (65, .invokestatic 44, 3, 0, 0, []),
  (68, .iload_n 3, 1, 3, 0, []),
  (69, .aload_n 0, 1, 0, 0, []),
  (70, .getfield 23, 3, 0, 0, []),
  (73, .aload_n 0, 1, 0, 0, []),
  (74, .getfield 32, 3, 0, 0, []),
  (77, .aload_n 0, 1, 0, 0, []),
  (78, .getfield 36, 3, 0, 0, []),
  (81, .aload_n 0, 1, 0, 0, []),
  (82, .getfield 40, 3, 0, 0, []),
  (85, .invokestatic 48, 3, 0, 0, []),
  (88, .iadd, 1, 0, 0, []),
  (89, .invokestatic 52, 3, 0, 0, []),
  (92, .iinc 3 1, 3, 3, nI 1, []),
  (95, .goto (-59), 3, 36, 0, []),
  (98, .return_, 1, 0, 0, [])]
theorem kk_X3_settle : (k_X3_settle.all fun e => mChk cX3_settle e.1 e.2) = true := by decide +kernel
def l_X3_settle : List (Nat × Nat × (mG → mT)) := [(3 * 44 + 1, 2, t_X7_at), (3 * 48 + 1, 5, t_X7_scoreBy), (3 * 52 + 1, 3, t_X7_set)]
def f_X3_settle (g : mG) : mF := (mLk k_X3_settle, mLk fl_RX3, mLk (l_X3_settle.map fun e => (e.1, e.2.1, e.2.2 g)), mLk ([] : List (Nat × mV)), mLk ([] : List (Nat × mV)), none)
theorem m_X3_settle (g : mG) : mMono (f_X3_settle g) := mMonoL (g := g) (l := l_X3_settle) (List.forall_mem_cons.mpr ⟨mo_X7_at, List.forall_mem_cons.mpr ⟨mo_X7_scoreBy, List.forall_mem_cons.mpr ⟨mo_X7_set, fun _ h => absurd h List.not_mem_nil⟩⟩⟩) rfl

theorem v_se_0_13 (g : mG) (M : mM) (P : mP) (m : Int32)
    (h : ((nI 1) = 0 ∨ (nI 1) = 1) ∧ (let M1 : mM := mW1 M 24 1 (nI 1); let M2 : mM := mW1 M1 24 2 m; let M3 : mM := mW1 M2 24 3 (M 14 2); let M4 : mM := mW1 M3 24 4 (M 14 3); let M5 : mM := mW1 M4 24 5 (M 14 5); mRun (mSx g) (f_X3_settle g) P (36, [some (.inr (some 24)), some (.inr (some 14)), some (.inl m), some (.inl (nI 0)), none], [], M5))) :
    mRun (mSx g) (f_X3_settle g) P (0, [some (.inr (some 24)), some (.inr (some 14)), some (.inl m), none, none], [], M) := mRun.vc (m_X3_settle g) [36] 21 h

theorem v_se_36_13 (g : mG) (M : mM) (P : mP) (m k : Int32) (l4 : Option mV)
    (h : ((nI 6) ≤ k → P none M) ∧ (¬ (nI 6) ≤ k → let M1 : mM := mUp M 25 (aSet (M 25) 12 (((M 14 4) * (nI 6)) + k) ((aAt (M 25) 12 (((M 14 4) * (nI 6)) + k)) + (fScore k (M 24 2) (M 24 3) (M 24 4) (M 24 5)))); mRun (mSx g) (f_X3_settle g) P (36, [some (.inr (some 24)), some (.inr (some 14)), some (.inl m), some (.inl (k + (nI 1))), some (.inl (((M 14 4) * (nI 6)) + k))], [], M1))) :
    mRun (mSx g) (f_X3_settle g) P (36, [some (.inr (some 24)), some (.inr (some 14)), some (.inl m), some (.inl k), l4], [], M) := mRun.vc (m_X3_settle g) [36] 32 h

theorem se_loop_13 (g : mG) (P : mP) (M0 : mM) (s0 : Nat → Int32) (y : Int32) (m n u e sd : Nat) (hsd : sd < 2) (h1 : M0 14 4 = nI sd) (h2 : M0 24 2 = nI m) (h3 : M0 24 3 = nI n) (h4 : M0 24 4 = nI u) (h5 : M0 24 5 = nI e)
    (hP : ∀ M' : mM, (∀ c, c ≠ 25 → M' c = M0 c) → (∀ j, j < 12 → M' 25 j = if j / 6 = sd then s0 j + fScore (nI (j % 6)) (nI m) (nI n) (nI u) (nI e) else s0 j) → P none M') :
    ∀ (i k : Nat) (M : mM) (l4 : Option mV), k + i = 6 → (∀ c, c ≠ 25 → M c = M0 c) → (∀ j, j < 12 → M 25 j = if j / 6 = sd ∧ j % 6 < k then s0 j + fScore (nI (j % 6)) (nI m) (nI n) (nI u) (nI e) else s0 j) →
    mRun (mSx g) (f_X3_settle g) P (36, [some (.inr (some 24)), some (.inr (some 14)), some (.inl y), some (.inl (nI k)), l4], [], M) := by
  intro i
  induction i with
  | zero =>
    intro k M l4 hk hF hA
    obtain rfl : k = 6 := by omega
    refine v_se_36_13 g M P _ _ _ ⟨fun _ => hP M hF (fun j hj => ?_), fun w => absurd (Int32.le_refl _) w⟩
    rw [hA j hj]
    by_cases q : j / 6 = sd
    · rw [if_pos q, if_pos ⟨q, by omega⟩]
    · rw [if_neg q, if_neg (fun z => q z.1)]
  | succ i ih =>
    intro k M l4 hk hF hA
    refine v_se_36_13 g M P _ _ _ ⟨fun w => absurd w (nI_ge (by omega) (by decide)), fun _ => ?_⟩
    rw [hF 14 (by decide), hF 24 (by decide), h1, h2, h3, h4, h5, pk_mul, nI_add, nI_add, aAt_in (by omega) (by decide), aSet_in (by omega) (by decide)]
    intro M1
    refine ih (k + 1) M1 _ (by omega) (fun c hc => (mUp_ne hc).trans (hF c hc)) (fun j hj => ?_)
    show mUp M 25 _ 25 j = _
    rw [mUp_at]
    by_cases q : j = sd * 6 + k
    · rw [q, upd_s, hA _ (by omega), if_neg (fun z => by have := z.2; omega), if_pos ⟨by omega, by omega⟩, show (sd * 6 + k) % 6 = k by omega]
    · rw [upd_n q, hA j hj]
      by_cases r : j / 6 = sd ∧ j % 6 < k
      · rw [if_pos r, if_pos ⟨r.1, by have := r.2; omega⟩]
      · rw [if_neg r, if_neg (fun z => r ⟨z.1, by have := z.1; have := z.2; omega⟩)]
theorem se_run_13 (g : mG) (P : mP) (M : mM) (b : aBd) (s : aSc) (m : Nat) (hB : RpB 14 M b) (hS : RpSc 24 M s) (hq : b.2.1.isSome = true) (hP : ∀ M', post_X3_settle (13, b, s, m) [] M M' → P none M') :
    mRun (mSx g) (f_X3_settle g) P (0, [some (.inr (some 24)), some (.inr (some 14)), some (.inl (nI m)), none, none], [], M) := by
  obtain ⟨⟨tu, db, ps⟩, o, dc, nm⟩ := b
  cases o with
  | none => exact absurd (show false = true from hq) (by decide)
  | some w =>
  obtain ⟨n, u, q⟩ := w
  obtain ⟨s1, s0⟩ := s
  obtain ⟨b1, b5, b6, b2, b3, b4, b7, b8⟩ := hB
  obtain ⟨-, -, k3⟩ := hS
  dsimp only [Option.map, oI] at b2 b3 b4 b5 k3
  refine v_se_0_13 g M P _ ⟨Or.inr rfl, ?_⟩
  rw [b2, b3, b5]
  intro M1 M2 M3 M4 M5
  have f : ∀ c, c ≠ 24 → M5 c = M c := fun c h => by
    show mW1 (mW1 (mW1 (mW1 (mW1 M 24 1 _) 24 2 _) 24 3 _) 24 4 _) 24 5 _ c = _
    rw [mW1_c h, mW1_c h, mW1_c h, mW1_c h, mW1_c h]
  have g1 : M5 24 1 = 1 := by
    show mW1 (mW1 (mW1 (mW1 (mW1 M 24 1 _) 24 2 _) 24 3 _) 24 4 _) 24 5 _ 24 1 = _
    rw [mW1_k (by decide), mW1_k (by decide), mW1_k (by decide), mW1_k (by decide), mW1_s]
    rfl
  have g2 : M5 24 2 = nI m := by
    show mW1 (mW1 (mW1 (mW1 (mW1 M 24 1 _) 24 2 _) 24 3 _) 24 4 _) 24 5 _ 24 2 = _
    rw [mW1_k (by decide), mW1_k (by decide), mW1_k (by decide), mW1_s]
  have g3 : M5 24 3 = nI n := by
    show mW1 (mW1 (mW1 (mW1 (mW1 M 24 1 _) 24 2 _) 24 3 _) 24 4 _) 24 5 _ 24 3 = _
    rw [mW1_k (by decide), mW1_k (by decide), mW1_s]
  have g4 : M5 24 4 = nI u := by
    show mW1 (mW1 (mW1 (mW1 (mW1 M 24 1 _) 24 2 _) 24 3 _) 24 4 _) 24 5 _ 24 4 = _
    rw [mW1_k (by decide), mW1_s]
  have g5 : M5 24 5 = nI db := mW1_s
  refine se_loop_13 g P M5 s0 (nI m) m n u db (q % 2) (Nat.mod_lt _ (by decide)) ((congrFun (f 14 (by decide)) 4).trans b4) g2 g3 g4 g5 (fun M' hF hA => hP M' ?_) 6 0 M5 none rfl (fun _ _ => rfl) (fun j hj => ?_)
  · refine ⟨⟨?_, fun w hw => ?_, fun j hj => hA j hj⟩, fun c h1 h2 => (hF c h2).trans (f c h1)⟩
    · exact (congrFun (hF 24 (by decide)) 1).trans g1
    · obtain rfl : (m, n, u, db) = w := Option.some.inj hw
      show M' 24 2 = nI m ∧ M' 24 3 = nI n ∧ M' 24 4 = nI u ∧ M' 24 5 = nI db
      rw [hF 24 (by decide)]
      exact ⟨g2, g3, g4, g5⟩
  · rw [if_neg (fun z => absurd z.2 (Nat.not_lt_zero _)), f 25 (by decide)]
    exact k3 j hj
theorem v_se_0_26 (g : mG) (M : mM) (P : mP) (m : Int32)
    (h : ((nI 1) = 0 ∨ (nI 1) = 1) ∧ (let M1 : mM := mW1 M 37 1 (nI 1); let M2 : mM := mW1 M1 37 2 m; let M3 : mM := mW1 M2 37 3 (M 27 2); let M4 : mM := mW1 M3 37 4 (M 27 3); let M5 : mM := mW1 M4 37 5 (M 27 5); mRun (mSx g) (f_X3_settle g) P (36, [some (.inr (some 37)), some (.inr (some 27)), some (.inl m), some (.inl (nI 0)), none], [], M5))) :
    mRun (mSx g) (f_X3_settle g) P (0, [some (.inr (some 37)), some (.inr (some 27)), some (.inl m), none, none], [], M) := mRun.vc (m_X3_settle g) [36] 21 h

theorem v_se_36_26 (g : mG) (M : mM) (P : mP) (m k : Int32) (l4 : Option mV)
    (h : ((nI 6) ≤ k → P none M) ∧ (¬ (nI 6) ≤ k → let M1 : mM := mUp M 38 (aSet (M 38) 12 (((M 27 4) * (nI 6)) + k) ((aAt (M 38) 12 (((M 27 4) * (nI 6)) + k)) + (fScore k (M 37 2) (M 37 3) (M 37 4) (M 37 5)))); mRun (mSx g) (f_X3_settle g) P (36, [some (.inr (some 37)), some (.inr (some 27)), some (.inl m), some (.inl (k + (nI 1))), some (.inl (((M 27 4) * (nI 6)) + k))], [], M1))) :
    mRun (mSx g) (f_X3_settle g) P (36, [some (.inr (some 37)), some (.inr (some 27)), some (.inl m), some (.inl k), l4], [], M) := mRun.vc (m_X3_settle g) [36] 32 h

theorem se_loop_26 (g : mG) (P : mP) (M0 : mM) (s0 : Nat → Int32) (y : Int32) (m n u e sd : Nat) (hsd : sd < 2) (h1 : M0 27 4 = nI sd) (h2 : M0 37 2 = nI m) (h3 : M0 37 3 = nI n) (h4 : M0 37 4 = nI u) (h5 : M0 37 5 = nI e)
    (hP : ∀ M' : mM, (∀ c, c ≠ 38 → M' c = M0 c) → (∀ j, j < 12 → M' 38 j = if j / 6 = sd then s0 j + fScore (nI (j % 6)) (nI m) (nI n) (nI u) (nI e) else s0 j) → P none M') :
    ∀ (i k : Nat) (M : mM) (l4 : Option mV), k + i = 6 → (∀ c, c ≠ 38 → M c = M0 c) → (∀ j, j < 12 → M 38 j = if j / 6 = sd ∧ j % 6 < k then s0 j + fScore (nI (j % 6)) (nI m) (nI n) (nI u) (nI e) else s0 j) →
    mRun (mSx g) (f_X3_settle g) P (36, [some (.inr (some 37)), some (.inr (some 27)), some (.inl y), some (.inl (nI k)), l4], [], M) := by
  intro i
  induction i with
  | zero =>
    intro k M l4 hk hF hA
    obtain rfl : k = 6 := by omega
    refine v_se_36_26 g M P _ _ _ ⟨fun _ => hP M hF (fun j hj => ?_), fun w => absurd (Int32.le_refl _) w⟩
    rw [hA j hj]
    by_cases q : j / 6 = sd
    · rw [if_pos q, if_pos ⟨q, by omega⟩]
    · rw [if_neg q, if_neg (fun z => q z.1)]
  | succ i ih =>
    intro k M l4 hk hF hA
    refine v_se_36_26 g M P _ _ _ ⟨fun w => absurd w (nI_ge (by omega) (by decide)), fun _ => ?_⟩
    rw [hF 27 (by decide), hF 37 (by decide), h1, h2, h3, h4, h5, pk_mul, nI_add, nI_add, aAt_in (by omega) (by decide), aSet_in (by omega) (by decide)]
    intro M1
    refine ih (k + 1) M1 _ (by omega) (fun c hc => (mUp_ne hc).trans (hF c hc)) (fun j hj => ?_)
    show mUp M 38 _ 38 j = _
    rw [mUp_at]
    by_cases q : j = sd * 6 + k
    · rw [q, upd_s, hA _ (by omega), if_neg (fun z => by have := z.2; omega), if_pos ⟨by omega, by omega⟩, show (sd * 6 + k) % 6 = k by omega]
    · rw [upd_n q, hA j hj]
      by_cases r : j / 6 = sd ∧ j % 6 < k
      · rw [if_pos r, if_pos ⟨r.1, by have := r.2; omega⟩]
      · rw [if_neg r, if_neg (fun z => r ⟨z.1, by have := z.1; have := z.2; omega⟩)]
theorem se_run_26 (g : mG) (P : mP) (M : mM) (b : aBd) (s : aSc) (m : Nat) (hB : RpB 27 M b) (hS : RpSc 37 M s) (hq : b.2.1.isSome = true) (hP : ∀ M', post_X3_settle (26, b, s, m) [] M M' → P none M') :
    mRun (mSx g) (f_X3_settle g) P (0, [some (.inr (some 37)), some (.inr (some 27)), some (.inl (nI m)), none, none], [], M) := by
  obtain ⟨⟨tu, db, ps⟩, o, dc, nm⟩ := b
  cases o with
  | none => exact absurd (show false = true from hq) (by decide)
  | some w =>
  obtain ⟨n, u, q⟩ := w
  obtain ⟨s1, s0⟩ := s
  obtain ⟨b1, b5, b6, b2, b3, b4, b7, b8⟩ := hB
  obtain ⟨-, -, k3⟩ := hS
  dsimp only [Option.map, oI] at b2 b3 b4 b5 k3
  refine v_se_0_26 g M P _ ⟨Or.inr rfl, ?_⟩
  rw [b2, b3, b5]
  intro M1 M2 M3 M4 M5
  have f : ∀ c, c ≠ 37 → M5 c = M c := fun c h => by
    show mW1 (mW1 (mW1 (mW1 (mW1 M 37 1 _) 37 2 _) 37 3 _) 37 4 _) 37 5 _ c = _
    rw [mW1_c h, mW1_c h, mW1_c h, mW1_c h, mW1_c h]
  have g1 : M5 37 1 = 1 := by
    show mW1 (mW1 (mW1 (mW1 (mW1 M 37 1 _) 37 2 _) 37 3 _) 37 4 _) 37 5 _ 37 1 = _
    rw [mW1_k (by decide), mW1_k (by decide), mW1_k (by decide), mW1_k (by decide), mW1_s]
    rfl
  have g2 : M5 37 2 = nI m := by
    show mW1 (mW1 (mW1 (mW1 (mW1 M 37 1 _) 37 2 _) 37 3 _) 37 4 _) 37 5 _ 37 2 = _
    rw [mW1_k (by decide), mW1_k (by decide), mW1_k (by decide), mW1_s]
  have g3 : M5 37 3 = nI n := by
    show mW1 (mW1 (mW1 (mW1 (mW1 M 37 1 _) 37 2 _) 37 3 _) 37 4 _) 37 5 _ 37 3 = _
    rw [mW1_k (by decide), mW1_k (by decide), mW1_s]
  have g4 : M5 37 4 = nI u := by
    show mW1 (mW1 (mW1 (mW1 (mW1 M 37 1 _) 37 2 _) 37 3 _) 37 4 _) 37 5 _ 37 4 = _
    rw [mW1_k (by decide), mW1_s]
  have g5 : M5 37 5 = nI db := mW1_s
  refine se_loop_26 g P M5 s0 (nI m) m n u db (q % 2) (Nat.mod_lt _ (by decide)) ((congrFun (f 27 (by decide)) 4).trans b4) g2 g3 g4 g5 (fun M' hF hA => hP M' ?_) 6 0 M5 none rfl (fun _ _ => rfl) (fun j hj => ?_)
  · refine ⟨⟨?_, fun w hw => ?_, fun j hj => hA j hj⟩, fun c h1 h2 => (hF c h2).trans (f c h1)⟩
    · exact (congrFun (hF 37 (by decide)) 1).trans g1
    · obtain rfl : (m, n, u, db) = w := Option.some.inj hw
      show M' 37 2 = nI m ∧ M' 37 3 = nI n ∧ M' 37 4 = nI u ∧ M' 37 5 = nI db
      rw [hF 37 (by decide)]
      exact ⟨g2, g3, g4, g5⟩
  · rw [if_neg (fun z => absurd z.2 (Nat.not_lt_zero _)), f 38 (by decide)]
    exact k3 j hj
theorem run_X3_settle : mRunOf 5 t_X3_settle f_X3_settle := fun g as M P hT => by
  obtain ⟨⟨t, b, s, m⟩, ⟨h1, rfl, h3, h4, h5⟩, hP⟩ := hT
  refine ⟨Nat.le_of_ble_eq_true rfl, ?_⟩
  dsimp only at h1 h3 h4 h5
  rcases h1 with rfl | rfl
  · exact se_run_13 g P M b s m h3 h4 h5 (fun M' h => hP M' h)
  · exact se_run_26 g P M b s m h3 h4 h5 (fun M' h => hP M' h)
theorem ok_X3_settle : mOK yX3_settle cX3_settle 5 (none) 2 t_X3_settle := mOK.of f_X3_settle (by decide) (fun _ => rfl) (fun g => mCodeOK kk_X3_settle) (fun g => mFldL fk_RX3 rfl) (fun g idx v h => by cases h) (fun g idx v h => by cases h) (mCalL (l := l_X3_settle) (List.forall_mem_cons.mpr ⟨mSite.SN (idx := 44) ok_X7_at (by decide) (by decide) wc_X7_at wm_RX3_44 wt_X7_at wn_RX7 wd_X7_at, List.forall_mem_cons.mpr ⟨mSite.SN (idx := 48) ok_X7_scoreBy (by decide) (by decide) wc_X7_scoreBy wm_RX3_48 wt_X7_scoreBy wn_RX7 wd_X7_scoreBy, List.forall_mem_cons.mpr ⟨mSite.SN (idx := 52) ok_X7_set (by decide) (by decide) wc_X7_set wm_RX3_52 wt_X7_set wn_RX7 wd_X7_set, fun _ h => absurd h List.not_mem_nil⟩⟩⟩) (fun _ => rfl)) run_X3_settle
end
section
/-! ===== CLASS Table: a deal begins; a card is played ===== -/
def pre_X5_beginDeal (q : Nat × aT × Int32) (as : List mV) (M : mM) : Prop := (q.1 = 13 ∨ q.1 = 26) ∧ as = [.inr (some q.1), .inl q.2.2] ∧ RpT q.1 M q.2.1
def post_X5_beginDeal (q : Nat × aT × Int32) (_ : List mV) (M : mM) (M' : mM) : Prop := RpT q.1 M' ((1, q.2.1.1.2), bd0 q.2.1.1.2.1, (aX0, aDl0 q.2.2, 0, 0, []), q.2.1.2.2.2) ∧ FrT q.1 M M'
abbrev t_X5_beginDeal : mG → mT := mRv pre_X5_beginDeal post_X5_beginDeal
theorem mo_X5_beginDeal : mMn t_X5_beginDeal := mRv_mono
theorem rv_X5_beginDeal : mHasR yX5_beginDeal 1 t_X5_beginDeal := by
  intro g as M P hT hl
  obtain ⟨q, ⟨h1, h2, -⟩, -⟩ := hT
  refine ⟨_, _, h2, is_X5 g _ ?_⟩
  rcases h1 with h1 | h1 <;> rw [h1] <;> rfl
def k_X5_beginDeal : List (Nat × mI) := [(0, .aload_n 0, 1, 0, 0, []),
  (1, .iconst 1, 1, 0, nI 1, []),
  (2, .putfield 35, 3, 0, 0, []),
  (5, .aload_n 0, 1, 0, 0, []),
  (6, .getfield 12, 3, 0, 0, []),
  (9, .aload_n 0, 1, 0, 0, []),
  (10, .getfield 39, 3, 0, 0, []),
  (13, .invokevirtual 48, 3, 0, 0, []),
  (16, .aload_n 0, 1, 0, 0, []),
  (17, .getfield 21, 3, 0, 0, []),
  (20, .iload_n 1, 1, 1, 0, []),
  (21, .invokevirtual 91, 3, 0, 0, []),
  (24, .return_, 1, 0, 0, [])]
theorem kk_X5_beginDeal : (k_X5_beginDeal.all fun e => mChk cX5_beginDeal e.1 e.2) = true := by decide +kernel
def l_X5_beginDeal : List (Nat × Nat × (mG → mT)) := [(3 * 48, 1 + 1, t_X1_begin), (3 * 91, 1 + 1, t_X2_dealOut)]
def f_X5_beginDeal (g : mG) : mF := (mLk k_X5_beginDeal, mLk fl_RX5, mLk (l_X5_beginDeal.map fun e => (e.1, e.2.1, e.2.2 g)), mLk ([] : List (Nat × mV)), mLk ([] : List (Nat × mV)), none)
theorem m_X5_beginDeal (g : mG) : mMono (f_X5_beginDeal g) := mMonoL (g := g) (l := l_X5_beginDeal) (List.forall_mem_cons.mpr ⟨mo_X1_begin, List.forall_mem_cons.mpr ⟨mo_X2_dealOut, fun _ h => absurd h List.not_mem_nil⟩⟩) rfl

theorem v_bd_0_13 (g : mG) (M : mM) (P : mP) (y : Int32)
    (h : let M1 : mM := mW1 M 13 3 (nI 1); let M2 : mM := mUp M1 15 (aFill (M 15) 10 (-1)); let M3 : mM := mW1 M2 14 1 (M 13 4); let M4 : mM := mW1 M3 14 2 (-1); let M5 : mM := mW1 M4 14 3 (-1); let M6 : mM := mW1 M5 14 4 (-1); let M7 : mM := mW1 M6 14 5 (nI 0); let M8 : mM := mW1 M7 14 6 (nI 0); let M9 : mM := mW1 M8 14 7 (-1); ∃ x10 : Nat × Int32, pre_X2_dealOut x10 [.inr (some 16), .inl y] M9 ∧ ∀ M11 : mM, post_X2_dealOut x10 [.inr (some 16), .inl y] M9 M11 → (P none M11)) :
    mRun (mSx g) (f_X5_beginDeal g) P (0, [some (.inr (some 13)), some (.inl y)], [], M) := mRun.vc (m_X5_beginDeal g) [] 13 h

theorem bd_run_13 (g : mG) (P : mP) (M : mM) (T : aT) (y : Int32) (hR : RpT 13 M T) (hP : ∀ M', post_X5_beginDeal (13, T, y) [] M M' → P none M') :
    mRun (mSx g) (f_X5_beginDeal g) P (0, [some (.inr (some 13)), some (.inl y)], [], M) := by
  obtain ⟨⟨ph, de, ra, ru⟩, B, Pl, S⟩ := T
  obtain ⟨⟨-, r4, r5, r6⟩, -, -, hS⟩ := hR
  dsimp only at r4 r5 r6 hS
  refine v_bd_0_13 g M P _ ?_
  intro M1 M2 M3 M4 M5 M6 M7 M8 M9
  have f : ∀ c, c ≠ 14 → c ≠ 15 → c ≠ 13 → M9 c = M c := fun c h1 h2 h3 => by
    show (mW1 (mW1 (mW1 (mW1 (mW1 (mW1 (mW1 (mUp (mW1 M 13 3 (nI 1)) 15 _) 14 1 _) 14 2 _) 14 3 _) 14 4 _) 14 5 _) 14 6 _) 14 7 _) c = _
    rw [mW1_c h1, mW1_c h1, mW1_c h1, mW1_c h1, mW1_c h1, mW1_c h1, mW1_c h1, mUp_ne h2, mW1_c h3]
  have f13 : M9 13 = mW1 M 13 3 (nI 1) 13 := by
    show (mW1 (mW1 (mW1 (mW1 (mW1 (mW1 (mW1 (mUp (mW1 M 13 3 (nI 1)) 15 _) 14 1 _) 14 2 _) 14 3 _) 14 4 _) 14 5 _) 14 6 _) 14 7 _) 13 = _
    rw [mW1_c (by decide), mW1_c (by decide), mW1_c (by decide), mW1_c (by decide), mW1_c (by decide), mW1_c (by decide), mW1_c (by decide), mUp_ne (by decide)]
  have f15 : M9 15 = aFill (M 15) 10 (-1) := by
    show (mW1 (mW1 (mW1 (mW1 (mW1 (mW1 (mW1 (mUp (mW1 M 13 3 (nI 1)) 15 _) 14 1 _) 14 2 _) 14 3 _) 14 4 _) 14 5 _) 14 6 _) 14 7 _) 15 = _
    rw [mW1_c (by decide), mW1_c (by decide), mW1_c (by decide), mW1_c (by decide), mW1_c (by decide), mW1_c (by decide), mW1_c (by decide), mUp_at]
  have b1 : M9 14 1 = M 13 4 := by
    show (mW1 (mW1 (mW1 (mW1 (mW1 (mW1 (mW1 (mUp (mW1 M 13 3 (nI 1)) 15 _) 14 1 _) 14 2 _) 14 3 _) 14 4 _) 14 5 _) 14 6 _) 14 7 _) 14 1 = _
    rw [mW1_k (by decide), mW1_k (by decide), mW1_k (by decide), mW1_k (by decide), mW1_k (by decide), mW1_k (by decide), mW1_s]
  have b2 : M9 14 2 = -1 := by
    show (mW1 (mW1 (mW1 (mW1 (mW1 (mW1 (mW1 (mUp (mW1 M 13 3 (nI 1)) 15 _) 14 1 _) 14 2 _) 14 3 _) 14 4 _) 14 5 _) 14 6 _) 14 7 _) 14 2 = _
    rw [mW1_k (by decide), mW1_k (by decide), mW1_k (by decide), mW1_k (by decide), mW1_k (by decide), mW1_s]
  have b3 : M9 14 3 = -1 := by
    show (mW1 (mW1 (mW1 (mW1 (mW1 (mW1 (mW1 (mUp (mW1 M 13 3 (nI 1)) 15 _) 14 1 _) 14 2 _) 14 3 _) 14 4 _) 14 5 _) 14 6 _) 14 7 _) 14 3 = _
    rw [mW1_k (by decide), mW1_k (by decide), mW1_k (by decide), mW1_k (by decide), mW1_s]
  have b4 : M9 14 4 = -1 := by
    show (mW1 (mW1 (mW1 (mW1 (mW1 (mW1 (mW1 (mUp (mW1 M 13 3 (nI 1)) 15 _) 14 1 _) 14 2 _) 14 3 _) 14 4 _) 14 5 _) 14 6 _) 14 7 _) 14 4 = _
    rw [mW1_k (by decide), mW1_k (by decide), mW1_k (by decide), mW1_s]
  have b5 : M9 14 5 = nI 0 := by
    show (mW1 (mW1 (mW1 (mW1 (mW1 (mW1 (mW1 (mUp (mW1 M 13 3 (nI 1)) 15 _) 14 1 _) 14 2 _) 14 3 _) 14 4 _) 14 5 _) 14 6 _) 14 7 _) 14 5 = _
    rw [mW1_k (by decide), mW1_k (by decide), mW1_s]
  have b6 : M9 14 6 = nI 0 := by
    show (mW1 (mW1 (mW1 (mW1 (mW1 (mW1 (mW1 (mUp (mW1 M 13 3 (nI 1)) 15 _) 14 1 _) 14 2 _) 14 3 _) 14 4 _) 14 5 _) 14 6 _) 14 7 _) 14 6 = _
    rw [mW1_k (by decide), mW1_s]
  have b7 : M9 14 7 = -1 := by
    show (mW1 (mW1 (mW1 (mW1 (mW1 (mW1 (mW1 (mUp (mW1 M 13 3 (nI 1)) 15 _) 14 1 _) 14 2 _) 14 3 _) 14 4 _) 14 5 _) 14 6 _) 14 7 _) 14 7 = _
    rw [mW1_s]
  refine ⟨(16, y), ⟨rfl, rfl⟩, fun M11 k => hP M11 ?_⟩
  obtain ⟨kR, kF⟩ := k
  dsimp only at kR kF
  refine ⟨⟨⟨?_, ?_, ?_, ?_⟩, ⟨?_, ?_, ?_, ?_, ?_, ?_, ?_, fun j hj => ?_⟩, kR, ?_⟩, fun c hc => (kF c (by dsimp only at hc; omega)).trans (f c (by dsimp only at hc; omega) (by dsimp only at hc; omega) (by dsimp only at hc; omega))⟩
  · show M11 13 3 = nI 1
    rw [kF 13 (by decide), f13, mW1_s]
  · show M11 13 4 = nI de
    rw [kF 13 (by decide), f13, mW1_k (by decide)]
    exact r4
  · show M11 13 5 = nI ra
    rw [kF 13 (by decide), f13, mW1_k (by decide)]
    exact r5
  · show M11 13 6 = nI ru
    rw [kF 13 (by decide), f13, mW1_k (by decide)]
    exact r6
  · show M11 14 1 = nI de
    rw [kF 14 (by decide), b1]
    exact r4
  · show M11 14 5 = nI 0
    rw [kF 14 (by decide), b5]
  · show M11 14 6 = nI 0
    rw [kF 14 (by decide), b6]
  · show M11 14 2 = -1
    rw [kF 14 (by decide), b2]
  · show M11 14 3 = -1
    rw [kF 14 (by decide), b3]
  · show M11 14 4 = -1
    rw [kF 14 (by decide), b4]
  · show M11 14 7 = -1
    rw [kF 14 (by decide), b7]
  · show M11 15 j = -1
    rw [kF 15 (by decide), f15]
    exact if_pos hj
  · obtain ⟨h1, h2, h3⟩ := hS
    have e1 : M11 24 = M 24 := (kF 24 (by decide)).trans (f 24 (by decide) (by decide) (by decide))
    have e2 : M11 25 = M 25 := (kF 25 (by decide)).trans (f 25 (by decide) (by decide) (by decide))
    refine ⟨?_, fun q hq => ?_, fun j hj => ?_⟩
    · show M11 24 1 = _
      rw [e1]
      exact h1
    · show M11 24 2 = _ ∧ M11 24 3 = _ ∧ M11 24 4 = _ ∧ M11 24 5 = _
      rw [e1]
      exact h2 q hq
    · show M11 25 j = _
      rw [e2]
      exact h3 j hj
theorem v_bd_0_26 (g : mG) (M : mM) (P : mP) (y : Int32)
    (h : let M1 : mM := mW1 M 26 3 (nI 1); let M2 : mM := mUp M1 28 (aFill (M 28) 10 (-1)); let M3 : mM := mW1 M2 27 1 (M 26 4); let M4 : mM := mW1 M3 27 2 (-1); let M5 : mM := mW1 M4 27 3 (-1); let M6 : mM := mW1 M5 27 4 (-1); let M7 : mM := mW1 M6 27 5 (nI 0); let M8 : mM := mW1 M7 27 6 (nI 0); let M9 : mM := mW1 M8 27 7 (-1); ∃ x10 : Nat × Int32, pre_X2_dealOut x10 [.inr (some 29), .inl y] M9 ∧ ∀ M11 : mM, post_X2_dealOut x10 [.inr (some 29), .inl y] M9 M11 → (P none M11)) :
    mRun (mSx g) (f_X5_beginDeal g) P (0, [some (.inr (some 26)), some (.inl y)], [], M) := mRun.vc (m_X5_beginDeal g) [] 13 h

theorem bd_run_26 (g : mG) (P : mP) (M : mM) (T : aT) (y : Int32) (hR : RpT 26 M T) (hP : ∀ M', post_X5_beginDeal (26, T, y) [] M M' → P none M') :
    mRun (mSx g) (f_X5_beginDeal g) P (0, [some (.inr (some 26)), some (.inl y)], [], M) := by
  obtain ⟨⟨ph, de, ra, ru⟩, B, Pl, S⟩ := T
  obtain ⟨⟨-, r4, r5, r6⟩, -, -, hS⟩ := hR
  dsimp only at r4 r5 r6 hS
  refine v_bd_0_26 g M P _ ?_
  intro M1 M2 M3 M4 M5 M6 M7 M8 M9
  have f : ∀ c, c ≠ 27 → c ≠ 28 → c ≠ 26 → M9 c = M c := fun c h1 h2 h3 => by
    show (mW1 (mW1 (mW1 (mW1 (mW1 (mW1 (mW1 (mUp (mW1 M 26 3 (nI 1)) 28 _) 27 1 _) 27 2 _) 27 3 _) 27 4 _) 27 5 _) 27 6 _) 27 7 _) c = _
    rw [mW1_c h1, mW1_c h1, mW1_c h1, mW1_c h1, mW1_c h1, mW1_c h1, mW1_c h1, mUp_ne h2, mW1_c h3]
  have f13 : M9 26 = mW1 M 26 3 (nI 1) 26 := by
    show (mW1 (mW1 (mW1 (mW1 (mW1 (mW1 (mW1 (mUp (mW1 M 26 3 (nI 1)) 28 _) 27 1 _) 27 2 _) 27 3 _) 27 4 _) 27 5 _) 27 6 _) 27 7 _) 26 = _
    rw [mW1_c (by decide), mW1_c (by decide), mW1_c (by decide), mW1_c (by decide), mW1_c (by decide), mW1_c (by decide), mW1_c (by decide), mUp_ne (by decide)]
  have f15 : M9 28 = aFill (M 28) 10 (-1) := by
    show (mW1 (mW1 (mW1 (mW1 (mW1 (mW1 (mW1 (mUp (mW1 M 26 3 (nI 1)) 28 _) 27 1 _) 27 2 _) 27 3 _) 27 4 _) 27 5 _) 27 6 _) 27 7 _) 28 = _
    rw [mW1_c (by decide), mW1_c (by decide), mW1_c (by decide), mW1_c (by decide), mW1_c (by decide), mW1_c (by decide), mW1_c (by decide), mUp_at]
  have b1 : M9 27 1 = M 26 4 := by
    show (mW1 (mW1 (mW1 (mW1 (mW1 (mW1 (mW1 (mUp (mW1 M 26 3 (nI 1)) 28 _) 27 1 _) 27 2 _) 27 3 _) 27 4 _) 27 5 _) 27 6 _) 27 7 _) 27 1 = _
    rw [mW1_k (by decide), mW1_k (by decide), mW1_k (by decide), mW1_k (by decide), mW1_k (by decide), mW1_k (by decide), mW1_s]
  have b2 : M9 27 2 = -1 := by
    show (mW1 (mW1 (mW1 (mW1 (mW1 (mW1 (mW1 (mUp (mW1 M 26 3 (nI 1)) 28 _) 27 1 _) 27 2 _) 27 3 _) 27 4 _) 27 5 _) 27 6 _) 27 7 _) 27 2 = _
    rw [mW1_k (by decide), mW1_k (by decide), mW1_k (by decide), mW1_k (by decide), mW1_k (by decide), mW1_s]
  have b3 : M9 27 3 = -1 := by
    show (mW1 (mW1 (mW1 (mW1 (mW1 (mW1 (mW1 (mUp (mW1 M 26 3 (nI 1)) 28 _) 27 1 _) 27 2 _) 27 3 _) 27 4 _) 27 5 _) 27 6 _) 27 7 _) 27 3 = _
    rw [mW1_k (by decide), mW1_k (by decide), mW1_k (by decide), mW1_k (by decide), mW1_s]
  have b4 : M9 27 4 = -1 := by
    show (mW1 (mW1 (mW1 (mW1 (mW1 (mW1 (mW1 (mUp (mW1 M 26 3 (nI 1)) 28 _) 27 1 _) 27 2 _) 27 3 _) 27 4 _) 27 5 _) 27 6 _) 27 7 _) 27 4 = _
    rw [mW1_k (by decide), mW1_k (by decide), mW1_k (by decide), mW1_s]
  have b5 : M9 27 5 = nI 0 := by
    show (mW1 (mW1 (mW1 (mW1 (mW1 (mW1 (mW1 (mUp (mW1 M 26 3 (nI 1)) 28 _) 27 1 _) 27 2 _) 27 3 _) 27 4 _) 27 5 _) 27 6 _) 27 7 _) 27 5 = _
    rw [mW1_k (by decide), mW1_k (by decide), mW1_s]
  have b6 : M9 27 6 = nI 0 := by
    show (mW1 (mW1 (mW1 (mW1 (mW1 (mW1 (mW1 (mUp (mW1 M 26 3 (nI 1)) 28 _) 27 1 _) 27 2 _) 27 3 _) 27 4 _) 27 5 _) 27 6 _) 27 7 _) 27 6 = _
    rw [mW1_k (by decide), mW1_s]
  have b7 : M9 27 7 = -1 := by
    show (mW1 (mW1 (mW1 (mW1 (mW1 (mW1 (mW1 (mUp (mW1 M 26 3 (nI 1)) 28 _) 27 1 _) 27 2 _) 27 3 _) 27 4 _) 27 5 _) 27 6 _) 27 7 _) 27 7 = _
    rw [mW1_s]
  refine ⟨(29, y), ⟨rfl, rfl⟩, fun M11 k => hP M11 ?_⟩
  obtain ⟨kR, kF⟩ := k
  dsimp only at kR kF
  refine ⟨⟨⟨?_, ?_, ?_, ?_⟩, ⟨?_, ?_, ?_, ?_, ?_, ?_, ?_, fun j hj => ?_⟩, kR, ?_⟩, fun c hc => (kF c (by dsimp only at hc; omega)).trans (f c (by dsimp only at hc; omega) (by dsimp only at hc; omega) (by dsimp only at hc; omega))⟩
  · show M11 26 3 = nI 1
    rw [kF 26 (by decide), f13, mW1_s]
  · show M11 26 4 = nI de
    rw [kF 26 (by decide), f13, mW1_k (by decide)]
    exact r4
  · show M11 26 5 = nI ra
    rw [kF 26 (by decide), f13, mW1_k (by decide)]
    exact r5
  · show M11 26 6 = nI ru
    rw [kF 26 (by decide), f13, mW1_k (by decide)]
    exact r6
  · show M11 27 1 = nI de
    rw [kF 27 (by decide), b1]
    exact r4
  · show M11 27 5 = nI 0
    rw [kF 27 (by decide), b5]
  · show M11 27 6 = nI 0
    rw [kF 27 (by decide), b6]
  · show M11 27 2 = -1
    rw [kF 27 (by decide), b2]
  · show M11 27 3 = -1
    rw [kF 27 (by decide), b3]
  · show M11 27 4 = -1
    rw [kF 27 (by decide), b4]
  · show M11 27 7 = -1
    rw [kF 27 (by decide), b7]
  · show M11 28 j = -1
    rw [kF 28 (by decide), f15]
    exact if_pos hj
  · obtain ⟨h1, h2, h3⟩ := hS
    have e1 : M11 37 = M 37 := (kF 37 (by decide)).trans (f 37 (by decide) (by decide) (by decide))
    have e2 : M11 38 = M 38 := (kF 38 (by decide)).trans (f 38 (by decide) (by decide) (by decide))
    refine ⟨?_, fun q hq => ?_, fun j hj => ?_⟩
    · show M11 37 1 = _
      rw [e1]
      exact h1
    · show M11 37 2 = _ ∧ M11 37 3 = _ ∧ M11 37 4 = _ ∧ M11 37 5 = _
      rw [e1]
      exact h2 q hq
    · show M11 38 j = _
      rw [e2]
      exact h3 j hj
theorem run_X5_beginDeal : mRunOf 2 t_X5_beginDeal f_X5_beginDeal := fun g as M P hT => by
  obtain ⟨⟨t, T, y⟩, ⟨h1, rfl, h3⟩, hP⟩ := hT
  refine ⟨Nat.le_of_ble_eq_true rfl, ?_⟩
  dsimp only at h1 h3
  rcases h1 with rfl | rfl
  · exact bd_run_13 g P M T y h3 (fun M' h => hP M' h)
  · exact bd_run_26 g P M T y h3 (fun M' h => hP M' h)
theorem ok_X5_beginDeal : mOK yX5_beginDeal cX5_beginDeal 2 (none) 4 t_X5_beginDeal := mOK.of f_X5_beginDeal (by decide) (fun _ => rfl) (fun g => mCodeOK kk_X5_beginDeal) (fun g => mFldL fk_RX5 rfl) (fun g idx v h => by cases h) (fun g idx v h => by cases h) (mCalL (l := l_X5_beginDeal) (List.forall_mem_cons.mpr ⟨mSite.V (idx := 48) ok_X1_begin (by decide) (by decide) rv_X1_begin wc_X1_begin wk_RX5_48 wi_X1_begin wl_X1_begin wn_RX1 wd_X1_begin, List.forall_mem_cons.mpr ⟨mSite.V (idx := 91) ok_X2_dealOut (by decide) (by decide) rv_X2_dealOut wc_X2_dealOut wk_RX5_91 wi_X2_dealOut wl_X2_dealOut wn_RX2 wd_X2_dealOut, fun _ h => absurd h List.not_mem_nil⟩⟩) (fun _ => rfl)) run_X5_beginDeal
end
section
/-! ===== CLASS Table: a card is played; a claim ===== -/
theorem RpB_fr {c : Nat} {M M' : mM} {b : aBd} (h : RpB c M b) (e1 : M' c = M c) (e2 : M' (c + 1) = M (c + 1)) : RpB c M' b := by
  unfold RpB
  rw [e1, e2]
  exact h
theorem RpSc_fr {c : Nat} {M M' : mM} {s : aSc} (h : RpSc c M s) (e1 : M' c = M c) (e2 : M' (c + 1) = M (c + 1)) : RpSc c M' s := by
  unfold RpSc
  rw [e1, e2]
  exact h
theorem RpS_fr {c : Nat} {M M' : mM} {a : aP} (h : RpS c M a) (e : ∀ k, k < 8 → M' (c + k) = M (c + k)) : RpS c M' a := by
  unfold RpS RpP
  rw [e 2 (by decide), e 3 (by decide), e 4 (by decide), e 5 (by decide), e 6 (by decide), e 7 (by decide), show M' c = M c from e 0 (by decide)]
  exact h
theorem nI_ub (v : Int32) : nI (ub v) = v := ub_inj (ub_nI (ub_lt v))
theorem end_T {t : Nat} {M : mM} {T : aT} (h : RpT t M T) (hd : T.1.2.1 < 4) : RpT t (mW1 (mW1 M t 3 (nI 0)) t 4 ((M t 4 + nI 1) &&& nI 3)) (tEnd T) ∧ FrT t M (mW1 (mW1 M t 3 (nI 0)) t 4 ((M t 4 + nI 1) &&& nI 3)) := by
  obtain ⟨⟨r3, r4, r5, r6⟩, hB, hP, hS⟩ := h
  have f : ∀ (v : Int32) (c : Nat), c ≠ t → mW1 (mW1 M t 3 (nI 0)) t 4 v c = M c := fun v c h => by rw [mW1_c h, mW1_c h]
  rw [r4, nI_add, nI_and3 _ (by omega)]
  refine ⟨⟨⟨?_, mW1_s, ?_, ?_⟩, RpB_fr hB (f _ _ (by omega)) (f _ _ (by omega)), RpS_fr hP (fun k hk => f _ _ (by omega)), RpSc_fr hS (f _ _ (by omega)) (f _ _ (by omega))⟩, fun c hc => f _ _ (by omega)⟩
  · rw [mW1_k (by decide), mW1_s]
    rfl
  · rw [mW1_k (by decide), mW1_k (by decide)]
    exact r5
  · rw [mW1_k (by decide), mW1_k (by decide)]
    exact r6
/-- what the scores take of the play -/
theorem pWon_at {c : Nat} {M : mM} {a : aP} (h : RpS c M a) {s : Nat} (hs : s < 2) : aAt (M (c + 7)) 2 (nI s) = pWon a s := by
  rw [aAt_in hs (by decide)]
  obtain ⟨-, -, -, -, -, -, h0, h1⟩ := h
  rcases (by omega : s = 0 ∨ s = 1) with rfl | rfl
  · exact h0
  · exact h1
theorem set_T {t : Nat} {M M4 : mM} {T : aT} (ht : t = 13 ∨ t = 26) (h : RpT t M T) (hd : T.1.2.1 < 4) (hq : T.2.1.2.1.isSome = true) (k : post_X3_settle (t, T.2.1, T.2.2.2, pMade T.2.2.1 T.2.1) [] M M4) : RpT t (mW1 (mW1 M4 t 3 (nI 0)) t 4 ((M4 t 4 + nI 1) &&& nI 3)) (tSet T) ∧ FrT t M (mW1 (mW1 M4 t 3 (nI 0)) t 4 ((M4 t 4 + nI 1) &&& nI 3)) := by
  obtain ⟨hT, hB, hP, hS⟩ := h
  obtain ⟨k1, k2⟩ := k
  dsimp only at k1 k2
  have e : RpT t M4 (T.1, T.2.1, T.2.2.1, sSet T.2.2.2 T.2.1 (pMade T.2.2.1 T.2.1)) := by
    refine ⟨?_, RpB_fr hB (k2 _ (by omega) (by omega)) (k2 _ (by omega) (by omega)), RpS_fr hP (fun k hk => k2 _ (by omega) (by omega)), k1⟩
    rw [k2 t (by omega) (by omega)]
    exact hT
  have e2 := end_T e hd
  exact ⟨e2.1, FrT.trans (fun c hc => k2 c (by omega) (by omega)) e2.2⟩
theorem made_at {t : Nat} {M : mM} {T : aT} (h : RpT t M T) (hq : T.2.1.2.1.isSome = true) : aAt (M (t + 3 + 7)) 2 (M (t + 1) 4) = nI (pMade T.2.2.1 T.2.1) := by
  obtain ⟨-, hB, hP, -⟩ := h
  obtain ⟨v1, ⟨v2, o, v3, v4⟩, Pl, v5⟩ := T
  cases o with
  | none => exact absurd (show false = true from hq) (by decide)
  | some w =>
  obtain ⟨n, u, q⟩ := w
  obtain ⟨-, -, -, -, -, h4, -⟩ := hB
  have h4' : M (t + 1) 4 = nI (q % 2) := h4
  rw [h4', pWon_at hP (Nat.mod_lt _ (by decide))]
  exact (nI_ub _).symm
def pre_X5_playCard (q : Nat × aT × Nat) (as : List mV) (M : mM) : Prop := (q.1 = 13 ∨ q.1 = 26) ∧ as = [.inr (some q.1), .inl (nI q.2.2)] ∧ RpT q.1 M q.2.1 ∧ q.2.1.1.2.1 < 4 ∧ q.2.1.2.1.2.1.isSome = true ∧ aOkS q.2.1.2.2.1 ∧ q.2.1.2.2.1.2.2.2.2.length < 32 ∧ q.2.2 < 32 ∧ bt (aHd q.2.1.2.2.1.2.1 q.2.1.2.2.1.2.2.2.2 (aTn q.2.1.2.2.1.1 q.2.1.2.2.1.2.2.2.2 q.2.1.2.2.1.2.2.2.2.length)) q.2.2 = true
def post_X5_playCard (q : Nat × aT × Nat) (_ : List mV) (M : mM) (M' : mM) : Prop := RpT q.1 M' (tPlay q.2.1 q.2.2) ∧ FrT q.1 M M'
abbrev t_X5_playCard : mG → mT := mRv pre_X5_playCard post_X5_playCard
theorem mo_X5_playCard : mMn t_X5_playCard := mRv_mono
theorem rv_X5_playCard : mHasR yX5_playCard 1 t_X5_playCard := by
  intro g as M P hT hl
  obtain ⟨q, ⟨h1, h2, -⟩, -⟩ := hT
  refine ⟨_, _, h2, is_X5 g _ ?_⟩
  rcases h1 with h1 | h1 <;> rw [h1] <;> rfl
def k_X5_playCard : List (Nat × mI) := [(0, .aload_n 0, 1, 0, 0, []),
  (1, .getfield 21, 3, 0, 0, []),
  (4, .iload_n 1, 1, 1, 0, []),
  (5, .invokevirtual 116, 3, 0, 0, []),
  (8, .aload_n 0, 1, 0, 0, []),
  (9, .getfield 21, 3, 0, 0, []),
  (12, .invokevirtual 58, 3, 0, 0, []),
  (15, .ifCond .ne 35, 3, 50, 0, []),
  (18, .aload_n 0, 1, 0, 0, []),
  (19, .getfield 28, 3, 0, 0, []),
  (22, .aload_n 0, 1, 0, 0, []),
  (23, .getfield 12, 3, 0, 0, []),
  (26, .aload_n 0, 1, 0, 0, []),
  (27, .getfield 21, 3, 0, 0, []),
  (30, .getfield 119, 3, 0, 0, []),
  (33, .aload_n 0, 1, 0, 0, []),
  (34, .getfield 12, 3, 0, 0, []),
  (37, .getfield 123, 3, 0, 0, []),
  (40, .invokestatic 126, 3, 0, 0, []),
  (43, .invokevirtual 130, 3, 0, 0, []),
  (46, .aload_n 0, 1, 0, 0, []),
  (47, .invokevirtual 113, 3, 0, 0, []),
  (50, .return_, 1, 0, 0, [])]
theorem kk_X5_playCard : (k_X5_playCard.all fun e => mChk cX5_playCard e.1 e.2) = true := by decide +kernel
def l_X5_playCard : List (Nat × Nat × (mG → mT)) := [(3 * 116, 1 + 1, t_X2_lay), (3 * 58, 0 + 1, t_X2_left), (3 * 126 + 1, 2, t_X7_at), (3 * 130, 2 + 1, t_X3_settle), (3 * 113, 0 + 1, t_X5_endDeal)]
def f_X5_playCard (g : mG) : mF := (mLk k_X5_playCard, mLk fl_RX5, mLk (l_X5_playCard.map fun e => (e.1, e.2.1, e.2.2 g)), mLk ([] : List (Nat × mV)), mLk ([] : List (Nat × mV)), none)
theorem m_X5_playCard (g : mG) : mMono (f_X5_playCard g) := mMonoL (g := g) (l := l_X5_playCard) (List.forall_mem_cons.mpr ⟨mo_X2_lay, List.forall_mem_cons.mpr ⟨mo_X2_left, List.forall_mem_cons.mpr ⟨mo_X7_at, List.forall_mem_cons.mpr ⟨mo_X3_settle, List.forall_mem_cons.mpr ⟨mo_X5_endDeal, fun _ h => absurd h List.not_mem_nil⟩⟩⟩⟩⟩) rfl

theorem v_pc_0_13 (g : mG) (M : mM) (P : mP) (y : Int32)
    (h : ∃ x1 : Nat × aP × Nat, pre_X2_lay x1 [.inr (some 16), .inl y] M ∧ ∀ M2 : mM, post_X2_lay x1 [.inr (some 16), .inl y] M M2 → (¬ (nI 4) = 0 ∧ ((((¬ ((nI 8) - ((M2 16 7) / (nI 4))) = 0 → P none M2) ∧ (¬ (¬ ((nI 8) - ((M2 16 7) / (nI 4))) = 0) → ∃ x3 : Nat × aBd × aSc × Nat, pre_X3_settle x3 [.inr (some 24), .inr (some 14), .inl (aAt (M2 23) 2 (M2 14 4))] M2 ∧ ∀ M4 : mM, post_X3_settle x3 [.inr (some 24), .inr (some 14), .inl (aAt (M2 23) 2 (M2 14 4))] M2 M4 → (let M5 : mM := mW1 M4 13 3 (nI 0); let M6 : mM := mW1 M5 13 4 (((M4 13 4) + (nI 1)) &&& (nI 3)); P none M6))))))) :
    mRun (mSx g) (f_X5_playCard g) P (0, [some (.inr (some 13)), some (.inl y)], [], M) := mRun.vc (m_X5_playCard g) [] 23 h

theorem pc_run_13 (g : mG) (P : mP) (M : mM) (T : aT) (c : Nat) (hR : RpT 13 M T) (hd : T.1.2.1 < 4) (hq : T.2.1.2.1.isSome = true) (hok : aOkS T.2.2.1) (hl : T.2.2.1.2.2.2.2.length < 32) (hc : c < 32) (hb : bt (aHd T.2.2.1.2.1 T.2.2.1.2.2.2.2 (aTn T.2.2.1.1 T.2.2.1.2.2.2.2 T.2.2.1.2.2.2.2.length)) c = true) (hP : ∀ M', post_X5_playCard (13, T, c) [] M M' → P none M') :
    mRun (mSx g) (f_X5_playCard g) P (0, [some (.inr (some 13)), some (.inl (nI c))], [], M) := by
  obtain ⟨hT, hB, hp, hS⟩ := hR
  refine v_pc_0_13 g M P _ ⟨(16, T.2.2.1, c), ⟨rfl, rfl, hp, hok, hl, hc, hb⟩, fun M2 k => ?_⟩
  obtain ⟨kR, kF⟩ := k
  dsimp only at kR kF
  have hR2 : RpT 13 M2 (T.1, T.2.1, pAdd T.2.2.1 c, T.2.2.2) := by
    refine ⟨?_, RpB_fr hB (kF 14 (by decide)) (kF 15 (by decide)), kR, RpSc_fr hS (kF 24 (by decide)) (kF 25 (by decide))⟩
    rw [kF 13 (by decide)]
    exact hT
  have hF2 : FrT 13 M M2 := fun d hd => kF d (by omega)
  have e7 : M2 16 7 = nI (T.2.2.1.2.2.2.2.length + 1) := by
    have := kR.1.1
    rw [List.length_append, List.length_singleton] at this
    exact this
  refine ⟨n4, ?_⟩
  rw [e7, nI_div4 (by omega), pk_sub (by omega)]
  by_cases h : T.2.2.1.2.2.2.2.length + 1 = 32
  · refine ⟨fun z => absurd (by rw [h]; rfl) z, fun _ => ?_⟩
    have hm := made_at hR2 hq
    have hm2 : aAt (M2 23) 2 (M2 14 4) = nI (pMade (pAdd T.2.2.1 c) T.2.1) := hm
    rw [hm2]
    refine ⟨(13, T.2.1, T.2.2.2, pMade (pAdd T.2.2.1 c) T.2.1), ⟨Or.inl rfl, rfl, hR2.2.1, hR2.2.2.2, hq⟩, fun M4 k4 => ?_⟩
    intro M5 M6
    have e := set_T (Or.inl rfl) hR2 hd hq k4
    refine hP M6 ⟨?_, hF2.trans e.2⟩
    show RpT 13 M6 (tPlay T c)
    rw [tPlay, if_pos h]
    exact e.1
  · refine ⟨fun _ => hP M2 ⟨?_, hF2⟩, fun z => absurd (nI_ne0 (by omega) (by omega)) z⟩
    show RpT 13 M2 (tPlay T c)
    rw [tPlay, if_neg h]
    exact hR2
theorem v_pc_0_26 (g : mG) (M : mM) (P : mP) (y : Int32)
    (h : ∃ x1 : Nat × aP × Nat, pre_X2_lay x1 [.inr (some 29), .inl y] M ∧ ∀ M2 : mM, post_X2_lay x1 [.inr (some 29), .inl y] M M2 → (¬ (nI 4) = 0 ∧ ((((¬ ((nI 8) - ((M2 29 7) / (nI 4))) = 0 → P none M2) ∧ (¬ (¬ ((nI 8) - ((M2 29 7) / (nI 4))) = 0) → ∃ x3 : Nat × aBd × aSc × Nat, pre_X3_settle x3 [.inr (some 37), .inr (some 27), .inl (aAt (M2 36) 2 (M2 27 4))] M2 ∧ ∀ M4 : mM, post_X3_settle x3 [.inr (some 37), .inr (some 27), .inl (aAt (M2 36) 2 (M2 27 4))] M2 M4 → (let M5 : mM := mW1 M4 26 3 (nI 0); let M6 : mM := mW1 M5 26 4 (((M4 26 4) + (nI 1)) &&& (nI 3)); P none M6))))))) :
    mRun (mSx g) (f_X5_playCard g) P (0, [some (.inr (some 26)), some (.inl y)], [], M) := mRun.vc (m_X5_playCard g) [] 23 h

theorem pc_run_26 (g : mG) (P : mP) (M : mM) (T : aT) (c : Nat) (hR : RpT 26 M T) (hd : T.1.2.1 < 4) (hq : T.2.1.2.1.isSome = true) (hok : aOkS T.2.2.1) (hl : T.2.2.1.2.2.2.2.length < 32) (hc : c < 32) (hb : bt (aHd T.2.2.1.2.1 T.2.2.1.2.2.2.2 (aTn T.2.2.1.1 T.2.2.1.2.2.2.2 T.2.2.1.2.2.2.2.length)) c = true) (hP : ∀ M', post_X5_playCard (26, T, c) [] M M' → P none M') :
    mRun (mSx g) (f_X5_playCard g) P (0, [some (.inr (some 26)), some (.inl (nI c))], [], M) := by
  obtain ⟨hT, hB, hp, hS⟩ := hR
  refine v_pc_0_26 g M P _ ⟨(29, T.2.2.1, c), ⟨rfl, rfl, hp, hok, hl, hc, hb⟩, fun M2 k => ?_⟩
  obtain ⟨kR, kF⟩ := k
  dsimp only at kR kF
  have hR2 : RpT 26 M2 (T.1, T.2.1, pAdd T.2.2.1 c, T.2.2.2) := by
    refine ⟨?_, RpB_fr hB (kF 27 (by decide)) (kF 28 (by decide)), kR, RpSc_fr hS (kF 37 (by decide)) (kF 38 (by decide))⟩
    rw [kF 26 (by decide)]
    exact hT
  have hF2 : FrT 26 M M2 := fun d hd => kF d (by omega)
  have e7 : M2 29 7 = nI (T.2.2.1.2.2.2.2.length + 1) := by
    have := kR.1.1
    rw [List.length_append, List.length_singleton] at this
    exact this
  refine ⟨n4, ?_⟩
  rw [e7, nI_div4 (by omega), pk_sub (by omega)]
  by_cases h : T.2.2.1.2.2.2.2.length + 1 = 32
  · refine ⟨fun z => absurd (by rw [h]; rfl) z, fun _ => ?_⟩
    have hm := made_at hR2 hq
    have hm2 : aAt (M2 36) 2 (M2 27 4) = nI (pMade (pAdd T.2.2.1 c) T.2.1) := hm
    rw [hm2]
    refine ⟨(26, T.2.1, T.2.2.2, pMade (pAdd T.2.2.1 c) T.2.1), ⟨Or.inr rfl, rfl, hR2.2.1, hR2.2.2.2, hq⟩, fun M4 k4 => ?_⟩
    intro M5 M6
    have e := set_T (Or.inr rfl) hR2 hd hq k4
    refine hP M6 ⟨?_, hF2.trans e.2⟩
    show RpT 26 M6 (tPlay T c)
    rw [tPlay, if_pos h]
    exact e.1
  · refine ⟨fun _ => hP M2 ⟨?_, hF2⟩, fun z => absurd (nI_ne0 (by omega) (by omega)) z⟩
    show RpT 26 M2 (tPlay T c)
    rw [tPlay, if_neg h]
    exact hR2
theorem run_X5_playCard : mRunOf 2 t_X5_playCard f_X5_playCard := fun g as M P hT => by
  obtain ⟨⟨t, T, c⟩, ⟨h1, rfl, h3, h4, h5, h6, h7, h8, h9⟩, hP⟩ := hT
  refine ⟨Nat.le_of_ble_eq_true rfl, ?_⟩
  dsimp only at h1 h3 h4 h5 h6 h7 h8 h9
  rcases h1 with rfl | rfl
  · exact pc_run_13 g P M T c h3 h4 h5 h6 h7 h8 h9 (fun M' h => hP M' h)
  · exact pc_run_26 g P M T c h3 h4 h5 h6 h7 h8 h9 (fun M' h => hP M' h)
theorem ok_X5_playCard : mOK yX5_playCard cX5_playCard 2 (none) 4 t_X5_playCard := mOK.of f_X5_playCard (by decide) (fun _ => rfl) (fun g => mCodeOK kk_X5_playCard) (fun g => mFldL fk_RX5 rfl) (fun g idx v h => by cases h) (fun g idx v h => by cases h) (mCalL (l := l_X5_playCard) (List.forall_mem_cons.mpr ⟨mSite.V (idx := 116) ok_X2_lay (by decide) (by decide) rv_X2_lay wc_X2_lay wk_RX5_116 wi_X2_lay wl_X2_lay wn_RX2 wd_X2_lay, List.forall_mem_cons.mpr ⟨mSite.V (idx := 58) ok_X2_left (by decide) (by decide) rv_X2_left wc_X2_left wk_RX5_58 wi_X2_left wl_X2_left wn_RX2 wd_X2_left, List.forall_mem_cons.mpr ⟨mSite.SN (idx := 126) ok_X7_at (by decide) (by decide) wc_X7_at wm_RX5_126 wt_X7_at wn_RX7 wd_X7_at, List.forall_mem_cons.mpr ⟨mSite.V (idx := 130) ok_X3_settle (by decide) (by decide) rv_X3_settle wc_X3_settle wk_RX5_130 wi_X3_settle wl_X3_settle wn_RX3 wd_X3_settle, List.forall_mem_cons.mpr ⟨mSite.V (idx := 113) ok_X5_endDeal (by decide) (by decide) rv_X5_endDeal wc_X5_endDeal wk_RX5_113 wi_X5_endDeal wl_X5_endDeal wn_RX5 wd_X5_endDeal, fun _ h => absurd h List.not_mem_nil⟩⟩⟩⟩⟩) (fun _ => rfl)) run_X5_playCard
end
section
/-! ===== CLASS Table: a claim ===== -/
theorem cl_w {f : Nat → Int32} {sd : Nat} {W0 W1 a0 a1 : Int32} (n L : Nat) (hs : sd < 2) (h0 : f 0 = W0 + a0) (h1 : f 1 = W1 + a1) : upd (upd f sd (f sd + nI n)) (1 - sd) (upd f sd (f sd + nI n) (1 - sd) + nI L) 0 = W0 + (a0 + nI (if sd = 0 then n else L)) ∧ upd (upd f sd (f sd + nI n)) (1 - sd) (upd f sd (f sd + nI n) (1 - sd) + nI L) 1 = W1 + (a1 + nI (if sd = 1 then n else L)) := by
  rcases (by omega : sd = 0 ∨ sd = 1) with rfl | rfl
  · rw [show 1 - 0 = 1 from rfl, upd_n (by decide), upd_s, upd_s, upd_n (by decide), h0, h1, Int32.add_assoc, Int32.add_assoc, if_pos rfl, if_neg (by decide)]
    exact ⟨rfl, rfl⟩
  · rw [show 1 - 1 = 0 from rfl, upd_s, upd_n (by decide), upd_n (by decide), upd_s, h0, h1, Int32.add_assoc, Int32.add_assoc, if_neg (by decide), if_pos rfl]
    exact ⟨rfl, rfl⟩
def pre_X5_claim (q : Nat × aT × Nat) (as : List mV) (M : mM) : Prop := (q.1 = 13 ∨ q.1 = 26) ∧ as = [.inr (some q.1), .inl (nI q.2.2)] ∧ RpT q.1 M q.2.1 ∧ q.2.1.1.2.1 < 4 ∧ q.2.1.2.1.2.1.isSome = true ∧ q.2.1.2.2.1.2.2.2.2.length < 32 ∧ q.2.2 ≤ 8 - q.2.1.2.2.1.2.2.2.2.length / 4
def post_X5_claim (q : Nat × aT × Nat) (_ : List mV) (M : mM) (M' : mM) : Prop := RpT q.1 M' (tClaim q.2.1 q.2.2) ∧ FrT q.1 M M'
abbrev t_X5_claim : mG → mT := mRv pre_X5_claim post_X5_claim
theorem mo_X5_claim : mMn t_X5_claim := mRv_mono
theorem rv_X5_claim : mHasR yX5_claim 1 t_X5_claim := by
  intro g as M P hT hl
  obtain ⟨q, ⟨h1, h2, -⟩, -⟩ := hT
  refine ⟨_, _, h2, is_X5 g _ ?_⟩
  rcases h1 with h1 | h1 <;> rw [h1] <;> rfl
def k_X5_claim : List (Nat × mI) := [(0, .aload_n 0, 1, 0, 0, []),
  (1, .getfield 21, 3, 0, 0, []),
  (4, .getfield 57, 3, 0, 0, []),
  (7, .iconst 1, 1, 0, nI 1, []),
  (8, .iand, 1, 0, 0, []),
  (9, .istore_n 2, 1, 2, 0, []),
  (10, .aload_n 0, 1, 0, 0, []),
  (11, .getfield 21, 3, 0, 0, []),
  (14, .iload_n 2, 1, 2, 0, []),
  (15, .iload_n 1, 1, 1, 0, []),
  (16, .invokevirtual 134, 3, 0, 0, []),
  (19, .aload_n 0, 1, 0, 0, []),
  (20, .getfield 21, 3, 0, 0, []),
  (23, .iconst 1, 1, 0, nI 1, []),
  (24, .iload_n 2, 1, 2, 0, []),
  (25, .isub, 1, 0, 0, []),
  (26, .aload_n 0, 1, 0, 0, []),
  (27, .getfield 21, 3, 0, 0, []),
  (30, .invokevirtual 58, 3, 0, 0, []),
  (33, .iload_n 1, 1, 1, 0, []),
  (34, .isub, 1, 0, 0, []),
  (35, .invokevirtual 134, 3, 0, 0, []),
  (38, .aload_n 0, 1, 0, 0, []),
  (39, .getfield 28, 3, 0, 0, []),
  (42, .aload_n 0, 1, 0, 0, []),
  (43, .getfield 12, 3, 0, 0, []),
  (46, .aload_n 0, 1, 0, 0, []),
  (47, .getfield 21, 3, 0, 0, []),
  (50, .getfield 119, 3, 0, 0, []),
  (53, .aload_n 0, 1, 0, 0, []),
  (54, .getfield 12, 3, 0, 0, []),
  (57, .getfield 123, 3, 0, 0, []),
  (60, .invokestatic 126, 3, 0, 0, []),
  (63, .invokevirtual 130, 3, 0, 0, []),
  (66, .aload_n 0, 1, 0, 0, []),
  (67, .invokevirtual 113, 3, 0, 0, []),
  (70, .return_, 1, 0, 0, [])]
theorem kk_X5_claim : (k_X5_claim.all fun e => mChk cX5_claim e.1 e.2) = true := by decide +kernel
def l_X5_claim : List (Nat × Nat × (mG → mT)) := [(3 * 134, 2 + 1, t_X2_addWon), (3 * 58, 0 + 1, t_X2_left), (3 * 126 + 1, 2, t_X7_at), (3 * 130, 2 + 1, t_X3_settle), (3 * 113, 0 + 1, t_X5_endDeal)]
def f_X5_claim (g : mG) : mF := (mLk k_X5_claim, mLk fl_RX5, mLk (l_X5_claim.map fun e => (e.1, e.2.1, e.2.2 g)), mLk ([] : List (Nat × mV)), mLk ([] : List (Nat × mV)), none)
theorem m_X5_claim (g : mG) : mMono (f_X5_claim g) := mMonoL (g := g) (l := l_X5_claim) (List.forall_mem_cons.mpr ⟨mo_X2_addWon, List.forall_mem_cons.mpr ⟨mo_X2_left, List.forall_mem_cons.mpr ⟨mo_X7_at, List.forall_mem_cons.mpr ⟨mo_X3_settle, List.forall_mem_cons.mpr ⟨mo_X5_endDeal, fun _ h => absurd h List.not_mem_nil⟩⟩⟩⟩⟩) rfl

set_option maxRecDepth 100000 in
theorem v_cl_0_13 (g : mG) (M : mM) (P : mP) (y : Int32)
    (h : let M1 : mM := mUp M 23 (aSet (M 23) 2 ((M 16 8) &&& (nI 1)) ((aAt (M 23) 2 ((M 16 8) &&& (nI 1))) + y)); ¬ (nI 4) = 0 ∧ (((let M2 : mM := mUp M1 23 (aSet (M1 23) 2 ((nI 1) - ((M 16 8) &&& (nI 1))) ((aAt (M1 23) 2 ((nI 1) - ((M 16 8) &&& (nI 1)))) + (((nI 8) - ((M 16 7) / (nI 4))) - y))); ∃ x3 : Nat × aBd × aSc × Nat, pre_X3_settle x3 [.inr (some 24), .inr (some 14), .inl (aAt (M2 23) 2 (M 14 4))] M2 ∧ ∀ M4 : mM, post_X3_settle x3 [.inr (some 24), .inr (some 14), .inl (aAt (M2 23) 2 (M 14 4))] M2 M4 → (let M5 : mM := mW1 M4 13 3 (nI 0); let M6 : mM := mW1 M5 13 4 (((M4 13 4) + (nI 1)) &&& (nI 3)); P none M6))))) :
    mRun (mSx g) (f_X5_claim g) P (0, [some (.inr (some 13)), some (.inl y), none], [], M) := mRun.vc (m_X5_claim g) [] 37 h

theorem cl_run_13 (g : mG) (P : mP) (M : mM) (T : aT) (n : Nat) (hR : RpT 13 M T) (hd : T.1.2.1 < 4) (hq : T.2.1.2.1.isSome = true) (hl : T.2.2.1.2.2.2.2.length < 32) (hn : n ≤ 8 - T.2.2.1.2.2.2.2.length / 4) (hP : ∀ M', post_X5_claim (13, T, n) [] M M' → P none M') :
    mRun (mSx g) (f_X5_claim g) P (0, [some (.inr (some 13)), some (.inl (nI n)), none], [], M) := by
  obtain ⟨hT, hB, hp, hS⟩ := hR
  obtain ⟨⟨r1, r2, r3⟩, r4, r5, r6, r7, r8, r9, r10⟩ := hp
  have hsd : M 16 8 &&& nI 1 = nI (aSd T.2.2.1.1 T.2.2.1.2.2.2.2) := by
    rw [show M 16 8 = _ from r2, nI_and1 _ (by have := aTn_lt (x := T.2.2.1.1) (cs := T.2.2.1.2.2.2.2) (j := T.2.2.1.2.2.2.2.length); omega)]
    rfl
  have hs2 := aSd_lt (x := T.2.2.1.1) (cs := T.2.2.1.2.2.2.2)
  have e7 : M 16 7 = nI T.2.2.1.2.2.2.2.length := r1
  refine v_cl_0_13 g M P _ ?_
  rw [hsd, e7, nI_div4 (by omega), pk_sub (by omega), pk_sub (by omega), pk_sub (by omega), aAt_in hs2 (by decide), aSet_in hs2 (by decide)]
  intro M1
  refine ⟨n4, ?_⟩
  rw [aAt_in (by omega) (by decide), aSet_in (by omega) (by decide)]
  intro M2
  have f : ∀ c, c ≠ 23 → M2 c = M c := fun c h => by
    show mUp (mUp M 23 _) 23 _ c = _
    rw [mUp_ne h, mUp_ne h]
  have fw : M2 23 = upd (upd (M 23) (aSd T.2.2.1.1 T.2.2.1.2.2.2.2) (M 23 (aSd T.2.2.1.1 T.2.2.1.2.2.2.2) + nI n)) (1 - aSd T.2.2.1.1 T.2.2.1.2.2.2.2) (upd (M 23) (aSd T.2.2.1.1 T.2.2.1.2.2.2.2) (M 23 (aSd T.2.2.1.1 T.2.2.1.2.2.2.2) + nI n) (1 - aSd T.2.2.1.1 T.2.2.1.2.2.2.2) + nI (8 - T.2.2.1.2.2.2.2.length / 4 - n)) := by
    have q1 : M1 23 = upd (M 23) (aSd T.2.2.1.1 T.2.2.1.2.2.2.2) (M 23 (aSd T.2.2.1.1 T.2.2.1.2.2.2.2) + nI n) := mUp_at
    show mUp M1 23 _ 23 = _
    rw [mUp_at, q1]
  have hw := cl_w (f := M 23) n (8 - T.2.2.1.2.2.2.2.length / 4 - n) hs2 r9 r10
  rw [← fw] at hw
  have hR2 : RpT 13 M2 (T.1, T.2.1, pClaim T.2.2.1 n, T.2.2.2) := by
    refine ⟨?_, RpB_fr hB (f 14 (by decide)) (f 15 (by decide)), ⟨?_, ?_, ?_, ?_, ?_, ?_, ?_, ?_⟩, RpSc_fr hS (f 24 (by decide)) (f 25 (by decide))⟩
    · rw [f 13 (by decide)]
      exact hT
    · rw [f 16 (by decide)]
      exact ⟨r1, r2, r3⟩
    · rw [f (16 + 4) (by decide)]
      exact r4
    · rw [f (16 + 2) (by decide)]
      exact r5
    · rw [f (16 + 3) (by decide)]
      exact r6
    · rw [f (16 + 5) (by decide)]
      exact r7
    · rw [f (16 + 6) (by decide)]
      exact r8
    · exact hw.1
    · exact hw.2
  have hF2 : FrT 13 M M2 := fun d hd => f d (by omega)
  have hm : aAt (M2 23) 2 (M2 14 4) = nI (pMade (pClaim T.2.2.1 n) T.2.1) := made_at hR2 hq
  rw [f 14 (by decide)] at hm
  rw [hm]
  refine ⟨(13, T.2.1, T.2.2.2, pMade (pClaim T.2.2.1 n) T.2.1), ⟨Or.inl rfl, rfl, hR2.2.1, hR2.2.2.2, hq⟩, fun M4 k4 => ?_⟩
  intro M5 M6
  have e := set_T (Or.inl rfl) hR2 hd hq k4
  exact hP M6 ⟨e.1, hF2.trans e.2⟩
set_option maxRecDepth 100000 in
theorem v_cl_0_26 (g : mG) (M : mM) (P : mP) (y : Int32)
    (h : let M1 : mM := mUp M 36 (aSet (M 36) 2 ((M 29 8) &&& (nI 1)) ((aAt (M 36) 2 ((M 29 8) &&& (nI 1))) + y)); ¬ (nI 4) = 0 ∧ (((let M2 : mM := mUp M1 36 (aSet (M1 36) 2 ((nI 1) - ((M 29 8) &&& (nI 1))) ((aAt (M1 36) 2 ((nI 1) - ((M 29 8) &&& (nI 1)))) + (((nI 8) - ((M 29 7) / (nI 4))) - y))); ∃ x3 : Nat × aBd × aSc × Nat, pre_X3_settle x3 [.inr (some 37), .inr (some 27), .inl (aAt (M2 36) 2 (M 27 4))] M2 ∧ ∀ M4 : mM, post_X3_settle x3 [.inr (some 37), .inr (some 27), .inl (aAt (M2 36) 2 (M 27 4))] M2 M4 → (let M5 : mM := mW1 M4 26 3 (nI 0); let M6 : mM := mW1 M5 26 4 (((M4 26 4) + (nI 1)) &&& (nI 3)); P none M6))))) :
    mRun (mSx g) (f_X5_claim g) P (0, [some (.inr (some 26)), some (.inl y), none], [], M) := mRun.vc (m_X5_claim g) [] 37 h

theorem cl_run_26 (g : mG) (P : mP) (M : mM) (T : aT) (n : Nat) (hR : RpT 26 M T) (hd : T.1.2.1 < 4) (hq : T.2.1.2.1.isSome = true) (hl : T.2.2.1.2.2.2.2.length < 32) (hn : n ≤ 8 - T.2.2.1.2.2.2.2.length / 4) (hP : ∀ M', post_X5_claim (26, T, n) [] M M' → P none M') :
    mRun (mSx g) (f_X5_claim g) P (0, [some (.inr (some 26)), some (.inl (nI n)), none], [], M) := by
  obtain ⟨hT, hB, hp, hS⟩ := hR
  obtain ⟨⟨r1, r2, r3⟩, r4, r5, r6, r7, r8, r9, r10⟩ := hp
  have hsd : M 29 8 &&& nI 1 = nI (aSd T.2.2.1.1 T.2.2.1.2.2.2.2) := by
    rw [show M 29 8 = _ from r2, nI_and1 _ (by have := aTn_lt (x := T.2.2.1.1) (cs := T.2.2.1.2.2.2.2) (j := T.2.2.1.2.2.2.2.length); omega)]
    rfl
  have hs2 := aSd_lt (x := T.2.2.1.1) (cs := T.2.2.1.2.2.2.2)
  have e7 : M 29 7 = nI T.2.2.1.2.2.2.2.length := r1
  refine v_cl_0_26 g M P _ ?_
  rw [hsd, e7, nI_div4 (by omega), pk_sub (by omega), pk_sub (by omega), pk_sub (by omega), aAt_in hs2 (by decide), aSet_in hs2 (by decide)]
  intro M1
  refine ⟨n4, ?_⟩
  rw [aAt_in (by omega) (by decide), aSet_in (by omega) (by decide)]
  intro M2
  have f : ∀ c, c ≠ 36 → M2 c = M c := fun c h => by
    show mUp (mUp M 36 _) 36 _ c = _
    rw [mUp_ne h, mUp_ne h]
  have fw : M2 36 = upd (upd (M 36) (aSd T.2.2.1.1 T.2.2.1.2.2.2.2) (M 36 (aSd T.2.2.1.1 T.2.2.1.2.2.2.2) + nI n)) (1 - aSd T.2.2.1.1 T.2.2.1.2.2.2.2) (upd (M 36) (aSd T.2.2.1.1 T.2.2.1.2.2.2.2) (M 36 (aSd T.2.2.1.1 T.2.2.1.2.2.2.2) + nI n) (1 - aSd T.2.2.1.1 T.2.2.1.2.2.2.2) + nI (8 - T.2.2.1.2.2.2.2.length / 4 - n)) := by
    have q1 : M1 36 = upd (M 36) (aSd T.2.2.1.1 T.2.2.1.2.2.2.2) (M 36 (aSd T.2.2.1.1 T.2.2.1.2.2.2.2) + nI n) := mUp_at
    show mUp M1 36 _ 36 = _
    rw [mUp_at, q1]
  have hw := cl_w (f := M 36) n (8 - T.2.2.1.2.2.2.2.length / 4 - n) hs2 r9 r10
  rw [← fw] at hw
  have hR2 : RpT 26 M2 (T.1, T.2.1, pClaim T.2.2.1 n, T.2.2.2) := by
    refine ⟨?_, RpB_fr hB (f 27 (by decide)) (f 28 (by decide)), ⟨?_, ?_, ?_, ?_, ?_, ?_, ?_, ?_⟩, RpSc_fr hS (f 37 (by decide)) (f 38 (by decide))⟩
    · rw [f 26 (by decide)]
      exact hT
    · rw [f 29 (by decide)]
      exact ⟨r1, r2, r3⟩
    · rw [f (29 + 4) (by decide)]
      exact r4
    · rw [f (29 + 2) (by decide)]
      exact r5
    · rw [f (29 + 3) (by decide)]
      exact r6
    · rw [f (29 + 5) (by decide)]
      exact r7
    · rw [f (29 + 6) (by decide)]
      exact r8
    · exact hw.1
    · exact hw.2
  have hF2 : FrT 26 M M2 := fun d hd => f d (by omega)
  have hm : aAt (M2 36) 2 (M2 27 4) = nI (pMade (pClaim T.2.2.1 n) T.2.1) := made_at hR2 hq
  rw [f 27 (by decide)] at hm
  rw [hm]
  refine ⟨(26, T.2.1, T.2.2.2, pMade (pClaim T.2.2.1 n) T.2.1), ⟨Or.inr rfl, rfl, hR2.2.1, hR2.2.2.2, hq⟩, fun M4 k4 => ?_⟩
  intro M5 M6
  have e := set_T (Or.inr rfl) hR2 hd hq k4
  exact hP M6 ⟨e.1, hF2.trans e.2⟩
theorem run_X5_claim : mRunOf 3 t_X5_claim f_X5_claim := fun g as M P hT => by
  obtain ⟨⟨t, T, n⟩, ⟨h1, rfl, h3, h4, h5, h6, h7⟩, hP⟩ := hT
  refine ⟨Nat.le_of_ble_eq_true rfl, ?_⟩
  dsimp only at h1 h3 h4 h5 h6 h7
  rcases h1 with rfl | rfl
  · exact cl_run_13 g P M T n h3 h4 h5 h6 h7 (fun M' h => hP M' h)
  · exact cl_run_26 g P M T n h3 h4 h5 h6 h7 (fun M' h => hP M' h)
theorem ok_X5_claim : mOK yX5_claim cX5_claim 3 (none) 3 t_X5_claim := mOK.of f_X5_claim (by decide) (fun _ => rfl) (fun g => mCodeOK kk_X5_claim) (fun g => mFldL fk_RX5 rfl) (fun g idx v h => by cases h) (fun g idx v h => by cases h) (mCalL (l := l_X5_claim) (List.forall_mem_cons.mpr ⟨mSite.V (idx := 134) ok_X2_addWon (by decide) (by decide) rv_X2_addWon wc_X2_addWon wk_RX5_134 wi_X2_addWon wl_X2_addWon wn_RX2 wd_X2_addWon, List.forall_mem_cons.mpr ⟨mSite.V (idx := 58) ok_X2_left (by decide) (by decide) rv_X2_left wc_X2_left wk_RX5_58 wi_X2_left wl_X2_left wn_RX2 wd_X2_left, List.forall_mem_cons.mpr ⟨mSite.SN (idx := 126) ok_X7_at (by decide) (by decide) wc_X7_at wm_RX5_126 wt_X7_at wn_RX7 wd_X7_at, List.forall_mem_cons.mpr ⟨mSite.V (idx := 130) ok_X3_settle (by decide) (by decide) rv_X3_settle wc_X3_settle wk_RX5_130 wi_X3_settle wl_X3_settle wn_RX3 wd_X3_settle, List.forall_mem_cons.mpr ⟨mSite.V (idx := 113) ok_X5_endDeal (by decide) (by decide) rv_X5_endDeal wc_X5_endDeal wk_RX5_113 wi_X5_endDeal wl_X5_endDeal wn_RX5 wd_X5_endDeal, fun _ h => absurd h List.not_mem_nil⟩⟩⟩⟩⟩) (fun _ => rfl)) run_X5_claim
end
section
/-! ===== CLASS Table: a pass ===== -/
theorem aWn_nil {x : aX} {s : Nat} : aWn x [] s (([] : List Nat).length / 4) = 0 := by
  rw [List.length_nil, Nat.zero_div]
  rfl
theorem aTn_nil {x : aX} (h : x.2.2.2 < 4) : aTn x [] ([] : List Nat).length = x.2.2.2 := by
  rw [List.length_nil, aTn_0 (by decide) h]
  rfl
/-- a table in the bidding, as far as a pass asks -/
def okPass (T : aT) : Prop := T.1.2.1 < 4 ∧ T.2.1.1.1 < 4 ∧ T.2.1.1.2.2 < 4 ∧ T.2.2.1.2.2 = (0, 0, []) ∧ ∀ w, T.2.1.2.1 = some w → w.1 < 100 ∧ w.2.1 < 5 ∧ ∃ d, d < 4 ∧ T.2.1.2.2.2 (5 * (w.2.2 % 2) + w.2.1) = some d
def pre_X5_pass (q : Nat × aT × Nat) (as : List mV) (M : mM) : Prop := (q.1 = 13 ∨ q.1 = 26) ∧ as = [.inr (some q.1)] ∧ RpT q.1 M q.2.1 ∧ okPass q.2.1
def post_X5_pass (q : Nat × aT × Nat) (_ : List mV) (M : mM) (M' : mM) : Prop := RpT q.1 M' (tPass q.2.1) ∧ FrT q.1 M M'
abbrev t_X5_pass : mG → mT := mRv pre_X5_pass post_X5_pass
theorem mo_X5_pass : mMn t_X5_pass := mRv_mono
theorem rv_X5_pass : mHasR yX5_pass 0 t_X5_pass := by
  intro g as M P hT hl
  obtain ⟨q, ⟨h1, h2, -⟩, -⟩ := hT
  refine ⟨_, _, h2, is_X5 g _ ?_⟩
  rcases h1 with h1 | h1 <;> rw [h1] <;> rfl
def k_X5_pass : List (Nat × mI) := [(0, .aload_n 0, 1, 0, 0, []),
  (1, .getfield 12, 3, 0, 0, []),
  (4, .invokevirtual 94, 3, 0, 0, []),
  (7, .aload_n 0, 1, 0, 0, []),
  (8, .getfield 12, 3, 0, 0, []),
  (11, .invokevirtual 95, 3, 0, 0, []),
  (14, .ifCond .eq 51, 3, 65, 0, []),
  (17, .aload_n 0, 1, 0, 0, []),
  (18, .getfield 12, 3, 0, 0, []),
  (21, .invokevirtual 98, 3, 0, 0, []),
  (24, .aload_n 0, 1, 0, 0, []),
  (25, .iconst 2, 1, 0, nI 2, []),
  (26, .putfield 35, 3, 0, 0, []),
  (29, .aload_n 0, 1, 0, 0, []),
  (30, .getfield 21, 3, 0, 0, []),
  (33, .aload_n 0, 1, 0, 0, []),
  (34, .getfield 12, 3, 0, 0, []),
  (37, .getfield 101, 3, 0, 0, []),
  (40, .iconst 1, 1, 0, nI 1, []),
  (41, .iadd, 1, 0, 0, []),
  (42, .iconst 3, 1, 0, nI 3, []),
  (43, .iand, 1, 0, 0, []),
  (44, .aload_n 0, 1, 0, 0, []),
  (45, .getfield 12, 3, 0, 0, []),
  (48, .getfield 104, 3, 0, 0, []),
  (51, .aload_n 0, 1, 0, 0, []),
  (52, .getfield 42, 3, 0, 0, []),
  (55, .aload_n 0, 1, 0, 0, []),
  (56, .getfield 45, 3, 0, 0, []),
  (59, .invokevirtual 107, 3, 0, 0, []),
  (62, .goto 18, 3, 80, 0, []),
  (65, .aload_n 0, 1, 0, 0, []),
  (66, .getfield 12, 3, 0, 0, []),
  (69, .getfield 110, 3, 0, 0, []),
  (72, .iconst 4, 1, 0, nI 4, []),
  (73, .if_icmp .lt 7, 3, 80, 0, []),
  (76, .aload_n 0, 1, 0, 0, []),
  (77, .invokevirtual 113, 3, 0, 0, []),
  (80, .return_, 1, 0, 0, [])]
theorem kk_X5_pass : (k_X5_pass.all fun e => mChk cX5_pass e.1 e.2) = true := by decide +kernel
def l_X5_pass : List (Nat × Nat × (mG → mT)) := [(3 * 94, 0 + 1, t_X1_pass), (3 * 95, 0 + 1, t_X1_hasContract), (3 * 98, 0 + 1, t_X1_nameDeclarer), (3 * 107, 4 + 1, t_X2_begin), (3 * 113, 0 + 1, t_X5_endDeal)]
def f_X5_pass (g : mG) : mF := (mLk k_X5_pass, mLk fl_RX5, mLk (l_X5_pass.map fun e => (e.1, e.2.1, e.2.2 g)), mLk ([] : List (Nat × mV)), mLk ([] : List (Nat × mV)), none)
theorem m_X5_pass (g : mG) : mMono (f_X5_pass g) := mMonoL (g := g) (l := l_X5_pass) (List.forall_mem_cons.mpr ⟨mo_X1_pass, List.forall_mem_cons.mpr ⟨mo_X1_hasContract, List.forall_mem_cons.mpr ⟨mo_X1_nameDeclarer, List.forall_mem_cons.mpr ⟨mo_X2_begin, List.forall_mem_cons.mpr ⟨mo_X5_endDeal, fun _ h => absurd h List.not_mem_nil⟩⟩⟩⟩⟩) rfl

set_option maxRecDepth 100000 in
theorem v_pa_0_13 (g : mG) (M : mM) (P : mP) 
    (h : let M1 : mM := mW1 M 14 6 ((M 14 6) + (nI 1)); let M2 : mM := mW1 M1 14 1 (((M 14 1) + (nI 1)) &&& (nI 3)); ((M 14 2) = (-1) → ((nI 0) = 0 ∨ (nI 0) = 1) ∧ (((nI 0) = 0 → (((M 14 6) + (nI 1)) < (nI 4) → P none M2) ∧ (¬ ((M 14 6) + (nI 1)) < (nI 4) → let M3 : mM := mW1 M2 13 3 (nI 0); let M4 : mM := mW1 M3 13 4 (((M 13 4) + (nI 1)) &&& (nI 3)); P none M4)) ∧ (¬ (nI 0) = 0 → let M5 : mM := mW1 M2 14 7 (aAt (M 15) 10 (((M 14 4) * (nI 5)) + (M 14 3))); let M6 : mM := mW1 M5 13 3 (nI 2); let M7 : mM := mW1 M6 16 8 (((aAt (M 15) 10 (((M 14 4) * (nI 5)) + (M 14 3))) + (nI 1)) &&& (nI 3)); let M8 : mM := mW1 M7 16 9 (M 14 3); let M9 : mM := mW1 M8 16 10 (M 13 5); let M10 : mM := mW1 M9 16 11 (M 13 6); P none M10))) ∧ (¬ (M 14 2) = (-1) → (((M 14 6) + (nI 1)) < (nI 3) → ((nI 0) = 0 ∨ (nI 0) = 1) ∧ (((nI 0) = 0 → (((M 14 6) + (nI 1)) < (nI 4) → P none M2) ∧ (¬ ((M 14 6) + (nI 1)) < (nI 4) → let M11 : mM := mW1 M2 13 3 (nI 0); let M12 : mM := mW1 M11 13 4 (((M 13 4) + (nI 1)) &&& (nI 3)); P none M12)) ∧ (¬ (nI 0) = 0 → let M13 : mM := mW1 M2 14 7 (aAt (M 15) 10 (((M 14 4) * (nI 5)) + (M 14 3))); let M14 : mM := mW1 M13 13 3 (nI 2); let M15 : mM := mW1 M14 16 8 (((aAt (M 15) 10 (((M 14 4) * (nI 5)) + (M 14 3))) + (nI 1)) &&& (nI 3)); let M16 : mM := mW1 M15 16 9 (M 14 3); let M17 : mM := mW1 M16 16 10 (M 13 5); let M18 : mM := mW1 M17 16 11 (M 13 6); P none M18))) ∧ (¬ ((M 14 6) + (nI 1)) < (nI 3) → ((nI 1) = 0 ∨ (nI 1) = 1) ∧ (((nI 1) = 0 → (((M 14 6) + (nI 1)) < (nI 4) → P none M2) ∧ (¬ ((M 14 6) + (nI 1)) < (nI 4) → let M19 : mM := mW1 M2 13 3 (nI 0); let M20 : mM := mW1 M19 13 4 (((M 13 4) + (nI 1)) &&& (nI 3)); P none M20)) ∧ (¬ (nI 1) = 0 → let M21 : mM := mW1 M2 14 7 (aAt (M 15) 10 (((M 14 4) * (nI 5)) + (M 14 3))); let M22 : mM := mW1 M21 13 3 (nI 2); let M23 : mM := mW1 M22 16 8 (((aAt (M 15) 10 (((M 14 4) * (nI 5)) + (M 14 3))) + (nI 1)) &&& (nI 3)); let M24 : mM := mW1 M23 16 9 (M 14 3); let M25 : mM := mW1 M24 16 10 (M 13 5); let M26 : mM := mW1 M25 16 11 (M 13 6); P none M26))))) :
    mRun (mSx g) (f_X5_pass g) P (0, [some (.inr (some 13))], [], M) := mRun.vc (m_X5_pass g) [] 32 h

theorem pa_bid_13 {M : mM} {T : aT} (hR : RpT 13 M T) (h1 : T.2.1.1.1 < 4) : RpT 13 (mW1 (mW1 M 14 6 (M 14 6 + nI 1)) 14 1 ((M 14 1 + nI 1) &&& nI 3)) (T.1, bPass T.2.1, T.2.2) ∧ FrT 13 M (mW1 (mW1 M 14 6 (M 14 6 + nI 1)) 14 1 ((M 14 1 + nI 1) &&& nI 3)) := by
  obtain ⟨hT, ⟨b1, b5, b6, b2, b3, b4, b7, b8⟩, hp, hS⟩ := hR
  have f : ∀ (v w : Int32) (c : Nat), c ≠ 14 → mW1 (mW1 M 14 6 v) 14 1 w c = M c := fun v w c h => by rw [mW1_c h, mW1_c h]
  have g : ∀ (v w : Int32) (k : Nat), k ≠ 1 → k ≠ 6 → mW1 (mW1 M 14 6 v) 14 1 w 14 k = M 14 k := fun v w k h1 h6 => by rw [mW1_k h1, mW1_k h6]
  have b1' : M 14 1 = nI T.2.1.1.1 := b1
  have b6' : M 14 6 = nI T.2.1.1.2.2 := b6
  rw [b1', b6', nI_add, nI_add, nI_and3 _ (by omega)]
  refine ⟨⟨?_, ⟨mW1_s, (g _ _ 5 (by decide) (by decide)).trans b5, ?_, (g _ _ 2 (by decide) (by decide)).trans b2, (g _ _ 3 (by decide) (by decide)).trans b3, (g _ _ 4 (by decide) (by decide)).trans b4, (g _ _ 7 (by decide) (by decide)).trans b7, fun j hj => ?_⟩, RpS_fr hp (fun k hk => f _ _ _ (by omega)), RpSc_fr hS (f _ _ _ (by decide)) (f _ _ _ (by decide))⟩, fun c hc => f _ _ _ (by omega)⟩
  · rw [f _ _ 13 (by decide)]
    exact hT
  · show mW1 (mW1 M 14 6 _) 14 1 _ 14 6 = _
    rw [mW1_k (by decide), mW1_s]
    rfl
  · rw [f _ _ (14 + 1) (by decide)]
    exact b8 j hj
theorem pa_con_13 {M M2 : mM} {T : aT} {n u q d : Nat} (hR : RpT 13 M T) (hR2 : RpT 13 M2 (T.1, bPass T.2.1, T.2.2)) (hF : FrT 13 M M2) (ho : T.2.1.2.1 = some (n, u, q)) (hd : d < 4) (hnm : T.2.1.2.2.2 (5 * (q % 2) + u) = some d) (hpl : T.2.2.1.2.2 = (0, 0, [])) (h3 : 3 ≤ (bPass T.2.1).1.2.2) : RpT 13 (mW1 (mW1 (mW1 (mW1 (mW1 (mW1 M2 14 7 (nI d)) 13 3 (nI 2)) 16 8 (nI (nx d))) 16 9 (M 14 3)) 16 10 (M 13 5)) 16 11 (M 13 6)) (tPass T) ∧ FrT 13 M (mW1 (mW1 (mW1 (mW1 (mW1 (mW1 M2 14 7 (nI d)) 13 3 (nI 2)) 16 8 (nI (nx d))) 16 9 (M 14 3)) 16 10 (M 13 5)) 16 11 (M 13 6)) := by
  obtain ⟨⟨v0, v1, v2, v3⟩, ⟨⟨c1, c2, c3⟩, o, dc, nm⟩, ⟨x, dl, a0, a1, cs⟩, S⟩ := T
  dsimp only at ho hnm hpl
  subst ho
  obtain ⟨ha0, hpl2⟩ := Prod.mk.inj hpl
  obtain ⟨ha1, hcs⟩ := Prod.mk.inj hpl2
  subst ha0 ha1 hcs
  obtain ⟨⟨-, q4, q5, q6⟩, ⟨-, -, -, -, q3, -⟩, -⟩ := hR
  obtain ⟨⟨-, r4, r5, r6⟩, ⟨b1, b5, b6, b2, b3, b4, b7, b8⟩, ⟨⟨p1, -⟩, -, p3, p4, -, -, p7, p8⟩, hS⟩ := hR2
  have q3' : M 14 3 = nI u := q3
  have q5' : M 13 5 = nI v2 := q5
  have q6' : M 13 6 = nI v3 := q6
  rw [q3', q5', q6']
  have f : ∀ (z1 z2 z3 z4 z5 z6 : Int32) (c : Nat), c ≠ 14 → c ≠ 13 → c ≠ 16 → mW1 (mW1 (mW1 (mW1 (mW1 (mW1 M2 14 7 z1) 13 3 z2) 16 8 z3) 16 9 z4) 16 10 z5) 16 11 z6 c = M2 c := fun z1 z2 z3 z4 z5 z6 c h1 h2 h3 => by rw [mW1_c h3, mW1_c h3, mW1_c h3, mW1_c h3, mW1_c h2, mW1_c h1]
  have e : tPass ((v0, v1, v2, v3), ((c1, c2, c3), some (n, u, q), dc, nm), (x, dl, 0, 0, []), S) = ((2, v1, v2, v3), ((nx c1, c2, c3 + 1), some (n, u, q), some d, nm), ((nI u, v2, nI v3, nx d), dl, 0, 0, []), S) := by
    refine (if_pos h3).trans ?_
    dsimp only [bPass]
    rw [hnm]
    rfl
  rw [e]
  refine ⟨⟨⟨?_, ?_, ?_, ?_⟩, ⟨?_, ?_, ?_, ?_, ?_, ?_, ?_, fun j hj => ?_⟩, ⟨⟨?_, ?_, ?_, ?_, ?_⟩, fun j hj => absurd hj (Nat.not_lt_zero _), fun j hj => ?_, fun j hj => ?_, fun i hi => absurd hi (Nat.not_lt_zero _), fun i hi => absurd hi (Nat.not_succ_le_zero _), ?_, ?_⟩, RpSc_fr hS (f _ _ _ _ _ _ _ (by decide) (by decide) (by decide)) (f _ _ _ _ _ _ _ (by decide) (by decide) (by decide))⟩, fun c hc => (f _ _ _ _ _ _ _ (by omega) (by omega) (by omega)).trans (hF c hc)⟩
  · rw [mW1_c (by decide), mW1_c (by decide), mW1_c (by decide), mW1_c (by decide), mW1_s]
  · rw [mW1_c (by decide), mW1_c (by decide), mW1_c (by decide), mW1_c (by decide), mW1_k (by decide), mW1_c (by decide)]
    exact r4
  · rw [mW1_c (by decide), mW1_c (by decide), mW1_c (by decide), mW1_c (by decide), mW1_k (by decide), mW1_c (by decide)]
    exact r5
  · rw [mW1_c (by decide), mW1_c (by decide), mW1_c (by decide), mW1_c (by decide), mW1_k (by decide), mW1_c (by decide)]
    exact r6
  · rw [mW1_c (by decide), mW1_c (by decide), mW1_c (by decide), mW1_c (by decide), mW1_c (by decide), mW1_k (by decide)]
    exact b1
  · rw [mW1_c (by decide), mW1_c (by decide), mW1_c (by decide), mW1_c (by decide), mW1_c (by decide), mW1_k (by decide)]
    exact b5
  · rw [mW1_c (by decide), mW1_c (by decide), mW1_c (by decide), mW1_c (by decide), mW1_c (by decide), mW1_k (by decide)]
    exact b6
  · rw [mW1_c (by decide), mW1_c (by decide), mW1_c (by decide), mW1_c (by decide), mW1_c (by decide), mW1_k (by decide)]
    exact b2
  · rw [mW1_c (by decide), mW1_c (by decide), mW1_c (by decide), mW1_c (by decide), mW1_c (by decide), mW1_k (by decide)]
    exact b3
  · rw [mW1_c (by decide), mW1_c (by decide), mW1_c (by decide), mW1_c (by decide), mW1_c (by decide), mW1_k (by decide)]
    exact b4
  · rw [mW1_c (by decide), mW1_c (by decide), mW1_c (by decide), mW1_c (by decide), mW1_c (by decide), mW1_s]
    exact rfl
  · rw [f _ _ _ _ _ _ (14 + 1) (by decide) (by decide) (by decide)]
    exact b8 j hj
  · rw [mW1_k (by decide), mW1_k (by decide), mW1_k (by decide), mW1_k (by decide), mW1_c (by decide), mW1_c (by decide)]
    exact p1
  · rw [mW1_k (by decide), mW1_k (by decide), mW1_k (by decide), mW1_s]
    exact congrArg nI (aTn_nil (x := (nI u, v2, nI v3, nx d)) (Nat.mod_lt _ (by decide))).symm
  · rw [mW1_k (by decide), mW1_k (by decide), mW1_s]
  · rw [mW1_k (by decide), mW1_s]
  · rw [mW1_s]
  · rw [f _ _ _ _ _ _ (16 + 2) (by decide) (by decide) (by decide)]
    exact p3 j hj
  · rw [f _ _ _ _ _ _ (16 + 3) (by decide) (by decide) (by decide)]
    exact p4 j hj
  · rw [f _ _ _ _ _ _ (16 + 7) (by decide) (by decide) (by decide)]
    have k : M2 23 0 = nI (aWn x [] 0 (([] : List Nat).length / 4)) + 0 := p7
    rw [aWn_nil] at k
    show _ = nI (aWn _ [] 0 (([] : List Nat).length / 4)) + (0 : Int32)
    rw [aWn_nil]
    exact k
  · rw [f _ _ _ _ _ _ (16 + 7) (by decide) (by decide) (by decide)]
    have k : M2 23 1 = nI (aWn x [] 1 (([] : List Nat).length / 4)) + 0 := p8
    rw [aWn_nil] at k
    show _ = nI (aWn _ [] 1 (([] : List Nat).length / 4)) + (0 : Int32)
    rw [aWn_nil]
    exact k
set_option maxRecDepth 100000 in
theorem v_pa_0_26 (g : mG) (M : mM) (P : mP) 
    (h : let M1 : mM := mW1 M 27 6 ((M 27 6) + (nI 1)); let M2 : mM := mW1 M1 27 1 (((M 27 1) + (nI 1)) &&& (nI 3)); ((M 27 2) = (-1) → ((nI 0) = 0 ∨ (nI 0) = 1) ∧ (((nI 0) = 0 → (((M 27 6) + (nI 1)) < (nI 4) → P none M2) ∧ (¬ ((M 27 6) + (nI 1)) < (nI 4) → let M3 : mM := mW1 M2 26 3 (nI 0); let M4 : mM := mW1 M3 26 4 (((M 26 4) + (nI 1)) &&& (nI 3)); P none M4)) ∧ (¬ (nI 0) = 0 → let M5 : mM := mW1 M2 27 7 (aAt (M 28) 10 (((M 27 4) * (nI 5)) + (M 27 3))); let M6 : mM := mW1 M5 26 3 (nI 2); let M7 : mM := mW1 M6 29 8 (((aAt (M 28) 10 (((M 27 4) * (nI 5)) + (M 27 3))) + (nI 1)) &&& (nI 3)); let M8 : mM := mW1 M7 29 9 (M 27 3); let M9 : mM := mW1 M8 29 10 (M 26 5); let M10 : mM := mW1 M9 29 11 (M 26 6); P none M10))) ∧ (¬ (M 27 2) = (-1) → (((M 27 6) + (nI 1)) < (nI 3) → ((nI 0) = 0 ∨ (nI 0) = 1) ∧ (((nI 0) = 0 → (((M 27 6) + (nI 1)) < (nI 4) → P none M2) ∧ (¬ ((M 27 6) + (nI 1)) < (nI 4) → let M11 : mM := mW1 M2 26 3 (nI 0); let M12 : mM := mW1 M11 26 4 (((M 26 4) + (nI 1)) &&& (nI 3)); P none M12)) ∧ (¬ (nI 0) = 0 → let M13 : mM := mW1 M2 27 7 (aAt (M 28) 10 (((M 27 4) * (nI 5)) + (M 27 3))); let M14 : mM := mW1 M13 26 3 (nI 2); let M15 : mM := mW1 M14 29 8 (((aAt (M 28) 10 (((M 27 4) * (nI 5)) + (M 27 3))) + (nI 1)) &&& (nI 3)); let M16 : mM := mW1 M15 29 9 (M 27 3); let M17 : mM := mW1 M16 29 10 (M 26 5); let M18 : mM := mW1 M17 29 11 (M 26 6); P none M18))) ∧ (¬ ((M 27 6) + (nI 1)) < (nI 3) → ((nI 1) = 0 ∨ (nI 1) = 1) ∧ (((nI 1) = 0 → (((M 27 6) + (nI 1)) < (nI 4) → P none M2) ∧ (¬ ((M 27 6) + (nI 1)) < (nI 4) → let M19 : mM := mW1 M2 26 3 (nI 0); let M20 : mM := mW1 M19 26 4 (((M 26 4) + (nI 1)) &&& (nI 3)); P none M20)) ∧ (¬ (nI 1) = 0 → let M21 : mM := mW1 M2 27 7 (aAt (M 28) 10 (((M 27 4) * (nI 5)) + (M 27 3))); let M22 : mM := mW1 M21 26 3 (nI 2); let M23 : mM := mW1 M22 29 8 (((aAt (M 28) 10 (((M 27 4) * (nI 5)) + (M 27 3))) + (nI 1)) &&& (nI 3)); let M24 : mM := mW1 M23 29 9 (M 27 3); let M25 : mM := mW1 M24 29 10 (M 26 5); let M26 : mM := mW1 M25 29 11 (M 26 6); P none M26))))) :
    mRun (mSx g) (f_X5_pass g) P (0, [some (.inr (some 26))], [], M) := mRun.vc (m_X5_pass g) [] 32 h

theorem pa_bid_26 {M : mM} {T : aT} (hR : RpT 26 M T) (h1 : T.2.1.1.1 < 4) : RpT 26 (mW1 (mW1 M 27 6 (M 27 6 + nI 1)) 27 1 ((M 27 1 + nI 1) &&& nI 3)) (T.1, bPass T.2.1, T.2.2) ∧ FrT 26 M (mW1 (mW1 M 27 6 (M 27 6 + nI 1)) 27 1 ((M 27 1 + nI 1) &&& nI 3)) := by
  obtain ⟨hT, ⟨b1, b5, b6, b2, b3, b4, b7, b8⟩, hp, hS⟩ := hR
  have f : ∀ (v w : Int32) (c : Nat), c ≠ 27 → mW1 (mW1 M 27 6 v) 27 1 w c = M c := fun v w c h => by rw [mW1_c h, mW1_c h]
  have g : ∀ (v w : Int32) (k : Nat), k ≠ 1 → k ≠ 6 → mW1 (mW1 M 27 6 v) 27 1 w 27 k = M 27 k := fun v w k h1 h6 => by rw [mW1_k h1, mW1_k h6]
  have b1' : M 27 1 = nI T.2.1.1.1 := b1
  have b6' : M 27 6 = nI T.2.1.1.2.2 := b6
  rw [b1', b6', nI_add, nI_add, nI_and3 _ (by omega)]
  refine ⟨⟨?_, ⟨mW1_s, (g _ _ 5 (by decide) (by decide)).trans b5, ?_, (g _ _ 2 (by decide) (by decide)).trans b2, (g _ _ 3 (by decide) (by decide)).trans b3, (g _ _ 4 (by decide) (by decide)).trans b4, (g _ _ 7 (by decide) (by decide)).trans b7, fun j hj => ?_⟩, RpS_fr hp (fun k hk => f _ _ _ (by omega)), RpSc_fr hS (f _ _ _ (by decide)) (f _ _ _ (by decide))⟩, fun c hc => f _ _ _ (by omega)⟩
  · rw [f _ _ 26 (by decide)]
    exact hT
  · show mW1 (mW1 M 27 6 _) 27 1 _ 27 6 = _
    rw [mW1_k (by decide), mW1_s]
    rfl
  · rw [f _ _ (27 + 1) (by decide)]
    exact b8 j hj
theorem pa_con_26 {M M2 : mM} {T : aT} {n u q d : Nat} (hR : RpT 26 M T) (hR2 : RpT 26 M2 (T.1, bPass T.2.1, T.2.2)) (hF : FrT 26 M M2) (ho : T.2.1.2.1 = some (n, u, q)) (hd : d < 4) (hnm : T.2.1.2.2.2 (5 * (q % 2) + u) = some d) (hpl : T.2.2.1.2.2 = (0, 0, [])) (h3 : 3 ≤ (bPass T.2.1).1.2.2) : RpT 26 (mW1 (mW1 (mW1 (mW1 (mW1 (mW1 M2 27 7 (nI d)) 26 3 (nI 2)) 29 8 (nI (nx d))) 29 9 (M 27 3)) 29 10 (M 26 5)) 29 11 (M 26 6)) (tPass T) ∧ FrT 26 M (mW1 (mW1 (mW1 (mW1 (mW1 (mW1 M2 27 7 (nI d)) 26 3 (nI 2)) 29 8 (nI (nx d))) 29 9 (M 27 3)) 29 10 (M 26 5)) 29 11 (M 26 6)) := by
  obtain ⟨⟨v0, v1, v2, v3⟩, ⟨⟨c1, c2, c3⟩, o, dc, nm⟩, ⟨x, dl, a0, a1, cs⟩, S⟩ := T
  dsimp only at ho hnm hpl
  subst ho
  obtain ⟨ha0, hpl2⟩ := Prod.mk.inj hpl
  obtain ⟨ha1, hcs⟩ := Prod.mk.inj hpl2
  subst ha0 ha1 hcs
  obtain ⟨⟨-, q4, q5, q6⟩, ⟨-, -, -, -, q3, -⟩, -⟩ := hR
  obtain ⟨⟨-, r4, r5, r6⟩, ⟨b1, b5, b6, b2, b3, b4, b7, b8⟩, ⟨⟨p1, -⟩, -, p3, p4, -, -, p7, p8⟩, hS⟩ := hR2
  have q3' : M 27 3 = nI u := q3
  have q5' : M 26 5 = nI v2 := q5
  have q6' : M 26 6 = nI v3 := q6
  rw [q3', q5', q6']
  have f : ∀ (z1 z2 z3 z4 z5 z6 : Int32) (c : Nat), c ≠ 27 → c ≠ 26 → c ≠ 29 → mW1 (mW1 (mW1 (mW1 (mW1 (mW1 M2 27 7 z1) 26 3 z2) 29 8 z3) 29 9 z4) 29 10 z5) 29 11 z6 c = M2 c := fun z1 z2 z3 z4 z5 z6 c h1 h2 h3 => by rw [mW1_c h3, mW1_c h3, mW1_c h3, mW1_c h3, mW1_c h2, mW1_c h1]
  have e : tPass ((v0, v1, v2, v3), ((c1, c2, c3), some (n, u, q), dc, nm), (x, dl, 0, 0, []), S) = ((2, v1, v2, v3), ((nx c1, c2, c3 + 1), some (n, u, q), some d, nm), ((nI u, v2, nI v3, nx d), dl, 0, 0, []), S) := by
    refine (if_pos h3).trans ?_
    dsimp only [bPass]
    rw [hnm]
    rfl
  rw [e]
  refine ⟨⟨⟨?_, ?_, ?_, ?_⟩, ⟨?_, ?_, ?_, ?_, ?_, ?_, ?_, fun j hj => ?_⟩, ⟨⟨?_, ?_, ?_, ?_, ?_⟩, fun j hj => absurd hj (Nat.not_lt_zero _), fun j hj => ?_, fun j hj => ?_, fun i hi => absurd hi (Nat.not_lt_zero _), fun i hi => absurd hi (Nat.not_succ_le_zero _), ?_, ?_⟩, RpSc_fr hS (f _ _ _ _ _ _ _ (by decide) (by decide) (by decide)) (f _ _ _ _ _ _ _ (by decide) (by decide) (by decide))⟩, fun c hc => (f _ _ _ _ _ _ _ (by omega) (by omega) (by omega)).trans (hF c hc)⟩
  · rw [mW1_c (by decide), mW1_c (by decide), mW1_c (by decide), mW1_c (by decide), mW1_s]
  · rw [mW1_c (by decide), mW1_c (by decide), mW1_c (by decide), mW1_c (by decide), mW1_k (by decide), mW1_c (by decide)]
    exact r4
  · rw [mW1_c (by decide), mW1_c (by decide), mW1_c (by decide), mW1_c (by decide), mW1_k (by decide), mW1_c (by decide)]
    exact r5
  · rw [mW1_c (by decide), mW1_c (by decide), mW1_c (by decide), mW1_c (by decide), mW1_k (by decide), mW1_c (by decide)]
    exact r6
  · rw [mW1_c (by decide), mW1_c (by decide), mW1_c (by decide), mW1_c (by decide), mW1_c (by decide), mW1_k (by decide)]
    exact b1
  · rw [mW1_c (by decide), mW1_c (by decide), mW1_c (by decide), mW1_c (by decide), mW1_c (by decide), mW1_k (by decide)]
    exact b5
  · rw [mW1_c (by decide), mW1_c (by decide), mW1_c (by decide), mW1_c (by decide), mW1_c (by decide), mW1_k (by decide)]
    exact b6
  · rw [mW1_c (by decide), mW1_c (by decide), mW1_c (by decide), mW1_c (by decide), mW1_c (by decide), mW1_k (by decide)]
    exact b2
  · rw [mW1_c (by decide), mW1_c (by decide), mW1_c (by decide), mW1_c (by decide), mW1_c (by decide), mW1_k (by decide)]
    exact b3
  · rw [mW1_c (by decide), mW1_c (by decide), mW1_c (by decide), mW1_c (by decide), mW1_c (by decide), mW1_k (by decide)]
    exact b4
  · rw [mW1_c (by decide), mW1_c (by decide), mW1_c (by decide), mW1_c (by decide), mW1_c (by decide), mW1_s]
    exact rfl
  · rw [f _ _ _ _ _ _ (27 + 1) (by decide) (by decide) (by decide)]
    exact b8 j hj
  · rw [mW1_k (by decide), mW1_k (by decide), mW1_k (by decide), mW1_k (by decide), mW1_c (by decide), mW1_c (by decide)]
    exact p1
  · rw [mW1_k (by decide), mW1_k (by decide), mW1_k (by decide), mW1_s]
    exact congrArg nI (aTn_nil (x := (nI u, v2, nI v3, nx d)) (Nat.mod_lt _ (by decide))).symm
  · rw [mW1_k (by decide), mW1_k (by decide), mW1_s]
  · rw [mW1_k (by decide), mW1_s]
  · rw [mW1_s]
  · rw [f _ _ _ _ _ _ (29 + 2) (by decide) (by decide) (by decide)]
    exact p3 j hj
  · rw [f _ _ _ _ _ _ (29 + 3) (by decide) (by decide) (by decide)]
    exact p4 j hj
  · rw [f _ _ _ _ _ _ (29 + 7) (by decide) (by decide) (by decide)]
    have k : M2 36 0 = nI (aWn x [] 0 (([] : List Nat).length / 4)) + 0 := p7
    rw [aWn_nil] at k
    show _ = nI (aWn _ [] 0 (([] : List Nat).length / 4)) + (0 : Int32)
    rw [aWn_nil]
    exact k
  · rw [f _ _ _ _ _ _ (29 + 7) (by decide) (by decide) (by decide)]
    have k : M2 36 1 = nI (aWn x [] 1 (([] : List Nat).length / 4)) + 0 := p8
    rw [aWn_nil] at k
    show _ = nI (aWn _ [] 1 (([] : List Nat).length / 4)) + (0 : Int32)
    rw [aWn_nil]
    exact k
end
section
/-! ===== CLASS Table: a pass, its contract ===== -/
theorem tPass_none {T : aT} (ho : T.2.1.2.1 = none) : tPass T = if 4 ≤ T.2.1.1.2.2 + 1 then tEnd (T.1, bPass T.2.1, T.2.2) else (T.1, bPass T.2.1, T.2.2) := by
  obtain ⟨v, ⟨c, o, r⟩, s⟩ := T
  dsimp only at ho
  subst ho
  rfl
theorem tPass_few {T : aT} {w : Nat × Nat × Nat} (ho : T.2.1.2.1 = some w) (h : ¬ 3 ≤ T.2.1.1.2.2 + 1) : tPass T = (T.1, bPass T.2.1, T.2.2) := by
  obtain ⟨v, ⟨c, o, r⟩, s⟩ := T
  obtain ⟨n, u, q⟩ := w
  dsimp only at ho
  subst ho
  exact if_neg h
theorem pa_run_13 (g : mG) (P : mP) (M : mM) (T : aT) (hR : RpT 13 M T) (hok : okPass T) (hP : ∀ M', RpT 13 M' (tPass T) ∧ FrT 13 M M' → P none M') :
    mRun (mSx g) (f_X5_pass g) P (0, [some (.inr (some 13))], [], M) := by
  obtain ⟨h1, h2, h3, h4, h5⟩ := hok
  have hM2 := pa_bid_13 hR h2
  have hR0 := hR
  obtain ⟨⟨-, q4, -, -⟩, ⟨-, -, b6, b2, b3, b4, -, b8⟩, -, -⟩ := hR0
  have b6' : M 14 6 = nI T.2.1.1.2.2 := b6
  have b2' : M 14 2 = oI (T.2.1.2.1.map fun q => q.1) := b2
  have b3' : M 14 3 = oI (T.2.1.2.1.map fun q => q.2.1) := b3
  have b4' : M 14 4 = oI (T.2.1.2.1.map fun q => q.2.2 % 2) := b4
  have hend := end_T hM2.1 h1
  rw [show mW1 (mW1 M 14 6 (M 14 6 + nI 1)) 14 1 ((M 14 1 + nI 1) &&& nI 3) 13 = M 13 by rw [mW1_c (by decide), mW1_c (by decide)]] at hend
  have hlt : ∀ k, k < 100 → (M 14 6 + nI 1 < nI k ↔ T.2.1.1.2.2 + 1 < k) := fun k hk => by
    rw [b6', nI_add]
    simp (disch := omega) only [fa_lt, nI_toInt]
    omega
  refine v_pa_0_13 g M P ?_
  intro M1 M2
  cases ho : T.2.1.2.1 with
  | none =>
    rw [ho] at b2'
    refine ⟨fun _ => ⟨Or.inl rfl, fun _ => ⟨fun z => hP M2 ⟨?_, hM2.2⟩, fun z => ?_⟩, fun w => absurd rfl w⟩, fun w => absurd b2' w⟩
    · rw [tPass_none ho, if_neg (by have := (hlt 4 (by decide)).mp z; omega)]
      exact hM2.1
    · intro M3 M4
      refine hP M4 ⟨?_, hM2.2.trans hend.2⟩
      rw [tPass_none ho, if_pos (by have := mt (hlt 4 (by decide)).mpr z; omega)]
      exact hend.1
  | some w =>
    obtain ⟨n, u, q⟩ := w
    obtain ⟨w1, w2, d, w3, w4⟩ := h5 _ ho
    dsimp only at w1 w2 w4
    rw [ho] at b2' b3' b4'
    have b2n : M 14 2 = nI n := b2'
    have b3n : M 14 3 = nI u := b3'
    have b4n : M 14 4 = nI (q % 2) := b4'
    have hne : ¬ M 14 2 = -1 := fun z => by
      rw [b2n] at z
      have := congrArg Int32.toInt z
      rw [nI_toInt (by omega), show (-1 : Int32).toInt = -1 by decide] at this
      omega
    refine ⟨fun w => absurd w hne, fun _ => ⟨fun z => ⟨Or.inl rfl, fun _ => ⟨fun _ => hP M2 ⟨?_, hM2.2⟩, fun y => absurd ((hlt 4 (by decide)).mpr (by have := (hlt 3 (by decide)).mp z; omega)) y⟩, fun w => absurd rfl w⟩, fun z => ⟨Or.inr rfl, fun w => absurd w (by decide), fun _ => ?_⟩⟩⟩
    · rw [tPass_few ho (by have := (hlt 3 (by decide)).mp z; omega)]
      exact hM2.1
    · have e : aAt (M 15) 10 (M 14 4 * nI 5 + M 14 3) = nI d := by
        have h2q := Nat.mod_lt q (show 0 < 2 by decide)
        rw [b4n, b3n, pk_mul, nI_add, aAt_in (by omega) (by decide)]
        have := b8 (q % 2 * 5 + u) (by omega)
        rw [show 5 * (q % 2) + u = q % 2 * 5 + u by omega] at w4
        exact this.trans (by rw [w4]; rfl)
      rw [e, nI_add, nI_and3 _ (by omega)]
      intro M21 M22 M23 M24 M25 M26
      exact hP M26 (pa_con_13 hR hM2.1 hM2.2 ho w3 w4 h4 (by have := mt (hlt 3 (by decide)).mpr z; show 3 ≤ T.2.1.1.2.2 + 1; omega))
theorem pa_run_26 (g : mG) (P : mP) (M : mM) (T : aT) (hR : RpT 26 M T) (hok : okPass T) (hP : ∀ M', RpT 26 M' (tPass T) ∧ FrT 26 M M' → P none M') :
    mRun (mSx g) (f_X5_pass g) P (0, [some (.inr (some 26))], [], M) := by
  obtain ⟨h1, h2, h3, h4, h5⟩ := hok
  have hM2 := pa_bid_26 hR h2
  have hR0 := hR
  obtain ⟨⟨-, q4, -, -⟩, ⟨-, -, b6, b2, b3, b4, -, b8⟩, -, -⟩ := hR0
  have b6' : M 27 6 = nI T.2.1.1.2.2 := b6
  have b2' : M 27 2 = oI (T.2.1.2.1.map fun q => q.1) := b2
  have b3' : M 27 3 = oI (T.2.1.2.1.map fun q => q.2.1) := b3
  have b4' : M 27 4 = oI (T.2.1.2.1.map fun q => q.2.2 % 2) := b4
  have hend := end_T hM2.1 h1
  rw [show mW1 (mW1 M 27 6 (M 27 6 + nI 1)) 27 1 ((M 27 1 + nI 1) &&& nI 3) 26 = M 26 by rw [mW1_c (by decide), mW1_c (by decide)]] at hend
  have hlt : ∀ k, k < 100 → (M 27 6 + nI 1 < nI k ↔ T.2.1.1.2.2 + 1 < k) := fun k hk => by
    rw [b6', nI_add]
    simp (disch := omega) only [fa_lt, nI_toInt]
    omega
  refine v_pa_0_26 g M P ?_
  intro M1 M2
  cases ho : T.2.1.2.1 with
  | none =>
    rw [ho] at b2'
    refine ⟨fun _ => ⟨Or.inl rfl, fun _ => ⟨fun z => hP M2 ⟨?_, hM2.2⟩, fun z => ?_⟩, fun w => absurd rfl w⟩, fun w => absurd b2' w⟩
    · rw [tPass_none ho, if_neg (by have := (hlt 4 (by decide)).mp z; omega)]
      exact hM2.1
    · intro M3 M4
      refine hP M4 ⟨?_, hM2.2.trans hend.2⟩
      rw [tPass_none ho, if_pos (by have := mt (hlt 4 (by decide)).mpr z; omega)]
      exact hend.1
  | some w =>
    obtain ⟨n, u, q⟩ := w
    obtain ⟨w1, w2, d, w3, w4⟩ := h5 _ ho
    dsimp only at w1 w2 w4
    rw [ho] at b2' b3' b4'
    have b2n : M 27 2 = nI n := b2'
    have b3n : M 27 3 = nI u := b3'
    have b4n : M 27 4 = nI (q % 2) := b4'
    have hne : ¬ M 27 2 = -1 := fun z => by
      rw [b2n] at z
      have := congrArg Int32.toInt z
      rw [nI_toInt (by omega), show (-1 : Int32).toInt = -1 by decide] at this
      omega
    refine ⟨fun w => absurd w hne, fun _ => ⟨fun z => ⟨Or.inl rfl, fun _ => ⟨fun _ => hP M2 ⟨?_, hM2.2⟩, fun y => absurd ((hlt 4 (by decide)).mpr (by have := (hlt 3 (by decide)).mp z; omega)) y⟩, fun w => absurd rfl w⟩, fun z => ⟨Or.inr rfl, fun w => absurd w (by decide), fun _ => ?_⟩⟩⟩
    · rw [tPass_few ho (by have := (hlt 3 (by decide)).mp z; omega)]
      exact hM2.1
    · have e : aAt (M 28) 10 (M 27 4 * nI 5 + M 27 3) = nI d := by
        have h2q := Nat.mod_lt q (show 0 < 2 by decide)
        rw [b4n, b3n, pk_mul, nI_add, aAt_in (by omega) (by decide)]
        have := b8 (q % 2 * 5 + u) (by omega)
        rw [show 5 * (q % 2) + u = q % 2 * 5 + u by omega] at w4
        exact this.trans (by rw [w4]; rfl)
      rw [e, nI_add, nI_and3 _ (by omega)]
      intro M21 M22 M23 M24 M25 M26
      exact hP M26 (pa_con_26 hR hM2.1 hM2.2 ho w3 w4 h4 (by have := mt (hlt 3 (by decide)).mpr z; show 3 ≤ T.2.1.1.2.2 + 1; omega))
theorem run_X5_pass : mRunOf 1 t_X5_pass f_X5_pass := fun g as M P hT => by
  obtain ⟨⟨t, T, y⟩, ⟨h1, rfl, h3, h4⟩, hP⟩ := hT
  refine ⟨Nat.le_of_ble_eq_true rfl, ?_⟩
  dsimp only at h1 h3 h4
  rcases h1 with rfl | rfl
  · exact pa_run_13 g P M T h3 h4 (fun M' h => hP M' h)
  · exact pa_run_26 g P M T h3 h4 (fun M' h => hP M' h)
theorem ok_X5_pass : mOK yX5_pass cX5_pass 1 (none) 3 t_X5_pass := mOK.of f_X5_pass (by decide) (fun _ => rfl) (fun g => mCodeOK kk_X5_pass) (fun g => mFldL fk_RX5 rfl) (fun g idx v h => by cases h) (fun g idx v h => by cases h) (mCalL (l := l_X5_pass) (List.forall_mem_cons.mpr ⟨mSite.V (idx := 94) ok_X1_pass (by decide) (by decide) rv_X1_pass wc_X1_pass wk_RX5_94 wi_X1_pass wl_X1_pass wn_RX1 wd_X1_pass, List.forall_mem_cons.mpr ⟨mSite.V (idx := 95) ok_X1_hasContract (by decide) (by decide) rv_X1_hasContract wc_X1_hasContract wk_RX5_95 wi_X1_hasContract wl_X1_hasContract wn_RX1 wd_X1_hasContract, List.forall_mem_cons.mpr ⟨mSite.V (idx := 98) ok_X1_nameDeclarer (by decide) (by decide) rv_X1_nameDeclarer wc_X1_nameDeclarer wk_RX5_98 wi_X1_nameDeclarer wl_X1_nameDeclarer wn_RX1 wd_X1_nameDeclarer, List.forall_mem_cons.mpr ⟨mSite.V (idx := 107) ok_X2_begin (by decide) (by decide) rv_X2_begin wc_X2_begin wk_RX5_107 wi_X2_begin wl_X2_begin wn_RX2 wd_X2_begin, List.forall_mem_cons.mpr ⟨mSite.V (idx := 113) ok_X5_endDeal (by decide) (by decide) rv_X5_endDeal wc_X5_endDeal wk_RX5_113 wi_X5_endDeal wl_X5_endDeal wn_RX5 wd_X5_endDeal, fun _ h => absurd h List.not_mem_nil⟩⟩⟩⟩⟩) (fun _ => rfl)) run_X5_pass
end
section
/-! ===== CLASS Table: a double, the ranking, the rule, as the memory shows them ===== -/
theorem dbl_T {t : Nat} {M : mM} {T : aT} (hR : RpT t M T) (h1 : T.2.1.1.1 < 4) : RpT t (mW1 (mW1 (mW1 M (t + 1) 5 (M (t + 1) 5 + nI 1)) (t + 1) 6 (nI 0)) (t + 1) 1 ((M (t + 1) 1 + nI 1) &&& nI 3)) (T.1, bDbl T.2.1, T.2.2) ∧ FrT t M (mW1 (mW1 (mW1 M (t + 1) 5 (M (t + 1) 5 + nI 1)) (t + 1) 6 (nI 0)) (t + 1) 1 ((M (t + 1) 1 + nI 1) &&& nI 3)) := by
  obtain ⟨hT, ⟨b1, b5, b6, b2, b3, b4, b7, b8⟩, hp, hS⟩ := hR
  have f : ∀ (u v w : Int32) (c : Nat), c ≠ t + 1 → mW1 (mW1 (mW1 M (t + 1) 5 u) (t + 1) 6 v) (t + 1) 1 w c = M c := fun u v w c h => by rw [mW1_c h, mW1_c h, mW1_c h]
  have g : ∀ (u v w : Int32) (k : Nat), k ≠ 1 → k ≠ 5 → k ≠ 6 → mW1 (mW1 (mW1 M (t + 1) 5 u) (t + 1) 6 v) (t + 1) 1 w (t + 1) k = M (t + 1) k := fun u v w k h1 h5 h6 => by rw [mW1_k h1, mW1_k h6, mW1_k h5]
  rw [b1, b5, nI_add, nI_add, nI_and3 _ (by omega)]
  refine ⟨⟨?_, ⟨mW1_s, ?_, ?_, (g _ _ _ 2 (by decide) (by decide) (by decide)).trans b2, (g _ _ _ 3 (by decide) (by decide) (by decide)).trans b3, (g _ _ _ 4 (by decide) (by decide) (by decide)).trans b4, (g _ _ _ 7 (by decide) (by decide) (by decide)).trans b7, fun j hj => ?_⟩, RpS_fr hp (fun k hk => f _ _ _ _ (by omega)), RpSc_fr hS (f _ _ _ _ (by omega)) (f _ _ _ _ (by omega))⟩, fun c hc => f _ _ _ _ (by omega)⟩
  · rw [f _ _ _ t (by omega)]
    exact hT
  · rw [mW1_k (by decide), mW1_k (by decide), mW1_s]
    rfl
  · rw [mW1_k (by decide), mW1_s]
    rfl
  · rw [f _ _ _ (t + 1 + 1) (by omega)]
    exact b8 j hj
theorem rank_T {t : Nat} {M : mM} {T : aT} (hR : RpT t M T) (y : Int32) : RpT t (mW1 M t 5 y) ((T.1.1, T.1.2.1, ub y, T.1.2.2.2), T.2) ∧ FrT t M (mW1 M t 5 y) := by
  obtain ⟨⟨r3, r4, r5, r6⟩, hB, hp, hS⟩ := hR
  refine ⟨⟨⟨?_, ?_, ?_, ?_⟩, RpB_fr hB (mW1_c (by omega)) (mW1_c (by omega)), RpS_fr hp (fun k hk => mW1_c (by omega)), RpSc_fr hS (mW1_c (by omega)) (mW1_c (by omega))⟩, fun c hc => mW1_c (by omega)⟩
  · rw [mW1_k (by decide)]
    exact r3
  · rw [mW1_k (by decide)]
    exact r4
  · rw [mW1_s]
    exact (nI_ub y).symm
  · rw [mW1_k (by decide)]
    exact r6
theorem rule_T {t : Nat} {M : mM} {T : aT} (hR : RpT t M T) (y : Int32) : RpT t (mW1 M t 6 y) ((T.1.1, T.1.2.1, T.1.2.2.1, ub y), T.2) ∧ FrT t M (mW1 M t 6 y) := by
  obtain ⟨⟨r3, r4, r5, r6⟩, hB, hp, hS⟩ := hR
  refine ⟨⟨⟨?_, ?_, ?_, ?_⟩, RpB_fr hB (mW1_c (by omega)) (mW1_c (by omega)), RpS_fr hp (fun k hk => mW1_c (by omega)), RpSc_fr hS (mW1_c (by omega)) (mW1_c (by omega))⟩, fun c hc => mW1_c (by omega)⟩
  · rw [mW1_k (by decide)]
    exact r3
  · rw [mW1_k (by decide)]
    exact r4
  · rw [mW1_k (by decide)]
    exact r5
  · rw [mW1_s]
    exact (nI_ub y).symm
end
section
/-! ===== CLASS Table: a bid, as the memory shows it ===== -/
/-- the five fields that a bid writes, the turn then -/
def mBid (M : mM) (b : Nat) (y s q : Int32) : mM := mW1 (mW1 (mW1 (mW1 (mW1 M b 2 y) b 3 s) b 4 q) b 5 (nI 0)) b 6 (nI 0)
theorem mBid_c {M : mM} {b c : Nat} {y s q : Int32} (h : c ≠ b) : mBid M b y s q c = M c := by
  unfold mBid
  rw [mW1_c h, mW1_c h, mW1_c h, mW1_c h, mW1_c h]
theorem mBid_f {M : mM} {b : Nat} {y s q : Int32} : mBid M b y s q b 2 = y ∧ mBid M b y s q b 3 = s ∧ mBid M b y s q b 4 = q ∧ mBid M b y s q b 5 = nI 0 ∧ mBid M b y s q b 6 = nI 0 ∧ mBid M b y s q b 7 = M b 7 := by
  unfold mBid
  refine ⟨?_, ?_, ?_, ?_, ?_, ?_⟩
  · rw [mW1_k (by decide), mW1_k (by decide), mW1_k (by decide), mW1_k (by decide), mW1_s]
  · rw [mW1_k (by decide), mW1_k (by decide), mW1_k (by decide), mW1_s]
  · rw [mW1_k (by decide), mW1_k (by decide), mW1_s]
  · rw [mW1_k (by decide), mW1_s]
  · rw [mW1_s]
  · rw [mW1_k (by decide), mW1_k (by decide), mW1_k (by decide), mW1_k (by decide), mW1_k (by decide)]
theorem bid_T {t : Nat} {M M' : mM} {T : aT} {n u : Nat} (hR : RpT t M T) (h1 : T.2.1.1.1 < 4) (hf : ∀ c, c ≠ t + 1 → c ≠ t + 2 → M' c = M c) (g1 : M' (t + 1) 1 = nI (nx T.2.1.1.1)) (g2 : M' (t + 1) 2 = nI n) (g3 : M' (t + 1) 3 = nI u) (g4 : M' (t + 1) 4 = nI (T.2.1.1.1 % 2)) (g5 : M' (t + 1) 5 = nI 0) (g6 : M' (t + 1) 6 = nI 0) (g7 : M' (t + 1) 7 = M (t + 1) 7) (gn : ∀ j, j < 10 → M' (t + 2) j = oI (if j = 5 * (T.2.1.1.1 % 2) + u ∧ T.2.1.2.2.2 j = none then some T.2.1.1.1 else T.2.1.2.2.2 j)) : RpT t M' (T.1, bBid T.2.1 n u, T.2.2) ∧ FrT t M M' := by
  obtain ⟨hT, ⟨b1, b5, b6, b2, b3, b4, b7, b8⟩, hp, hS⟩ := hR
  refine ⟨⟨?_, ⟨g1, g5, g6, g2, g3, g4, g7.trans b7, gn⟩, RpS_fr hp (fun k hk => hf _ (by omega) (by omega)), RpSc_fr hS (hf _ (by omega) (by omega)) (hf _ (by omega) (by omega))⟩, fun c hc => hf c (by omega) (by omega)⟩
  rw [hf t (by omega) (by omega)]
  exact hT
end
section
/-! ===== CLASS Table: an act ===== -/
/-- what an act asks of the table -/
def okAct (T : aT) (a : Nat × Int32 × Int32) : Prop :=
  a.1 < 9 ∧ (a.1 = 1 → T.2.1.1.1 < 4 ∧ ub a.2.2 < 5 ∧ ∀ j d, T.2.1.2.2.2 j = some d → d < 4) ∧ (a.1 = 2 → okPass T) ∧ (a.1 = 3 ∨ a.1 = 4 → T.2.1.1.1 < 4) ∧
  (a.1 = 5 → T.1.2.1 < 4 ∧ T.2.1.2.1.isSome = true ∧ aOkS T.2.2.1 ∧ T.2.2.1.2.2.2.2.length < 32 ∧ 8 * ub a.2.2 + ub a.2.1 < 32 ∧ bt (aHd T.2.2.1.2.1 T.2.2.1.2.2.2.2 (aTn T.2.2.1.1 T.2.2.1.2.2.2.2 T.2.2.1.2.2.2.2.length)) (8 * ub a.2.2 + ub a.2.1) = true) ∧
  (a.1 = 6 → T.1.2.1 < 4 ∧ T.2.1.2.1.isSome = true ∧ T.2.2.1.2.2.2.2.length < 32 ∧ ub a.2.1 ≤ 8 - T.2.2.1.2.2.2.2.length / 4)
def pre_X5_perform (q : Nat × aT × Nat × Int32 × Int32) (as : List mV) (M : mM) : Prop := (q.1 = 13 ∨ q.1 = 26) ∧ as = [.inr (some q.1), .inl (nI q.2.2.1), .inl q.2.2.2.1, .inl q.2.2.2.2] ∧ RpT q.1 M q.2.1 ∧ okAct q.2.1 q.2.2
def post_X5_perform (q : Nat × aT × Nat × Int32 × Int32) (_ : List mV) (M : mM) (M' : mM) : Prop := RpT q.1 M' (tStep q.2.1 q.2.2) ∧ FrT q.1 M M'
abbrev t_X5_perform : mG → mT := mRv pre_X5_perform post_X5_perform
theorem mo_X5_perform : mMn t_X5_perform := mRv_mono
theorem rv_X5_perform : mHasR yX5_perform 3 t_X5_perform := by
  intro g as M P hT hl
  obtain ⟨q, ⟨h1, h2, -⟩, -⟩ := hT
  refine ⟨_, _, h2, is_X5 g _ ?_⟩
  rcases h1 with h1 | h1 <;> rw [h1] <;> rfl
def k_X5_perform : List (Nat × mI) := [(0, .iload_n 1, 1, 1, 0, []),
  (1, .tableswitch 125 0 8 #[51, 59, 71, 78, 78, 88, 101, 109, 117], 51, 126, 0, [(nI 0, 52), (nI 1, 60), (nI 2, 72), (nI 3, 79), (nI 4, 79), (nI 5, 89), (nI 6, 102), (nI 7, 110), (nI 8, 118)]),
  (52, .aload_n 0, 1, 0, 0, []),
  (53, .iload_n 2, 1, 2, 0, []),
  (54, .invokevirtual 72, 3, 0, 0, []),
  (57, .goto 69, 3, 126, 0, []),
  (60, .aload_n 0, 1, 0, 0, []),
  (61, .getfield 12, 3, 0, 0, []),
  (64, .iload_n 2, 1, 2, 0, []),
  (65, .iload_n 3, 1, 3, 0, []),
  (66, .invokevirtual 75, 3, 0, 0, []),
  (69, .goto 57, 3, 126, 0, []),
  (72, .aload_n 0, 1, 0, 0, []),
  (73, .invokevirtual 79, 3, 0, 0, []),
  (76, .goto 50, 3, 126, 0, []),
  (79, .aload_n 0, 1, 0, 0, []),
  (80, .getfield 12, 3, 0, 0, []),
  (83, .invokevirtual 82, 3, 0, 0, []),
  (86, .goto 40, 3, 126, 0, []),
  (89, .aload_n 0, 1, 0, 0, []),
  (90, .iload_n 3, 1, 3, 0, []),
  (91, .bipush 8, 2, 0, nI 8, []),
  (93, .imul, 1, 0, 0, []),
  (94, .iload_n 2, 1, 2, 0, []),
  (95, .iadd, 1, 0, 0, []),
  (96, .invokevirtual 85, 3, 0, 0, []),
  (99, .goto 27, 3, 126, 0, []),
  (102, .aload_n 0, 1, 0, 0, []),
  (103, .iload_n 2, 1, 2, 0, []),
  (104, .invokevirtual 88, 3, 0, 0, []),
  (107, .goto 19, 3, 126, 0, []),
  (110, .aload_n 0, 1, 0, 0, []),
  (111, .iload_n 2, 1, 2, 0, []),
  (112, .putfield 42, 3, 0, 0, []),
  (115, .goto 11, 3, 126, 0, []),
  (118, .aload_n 0, 1, 0, 0, []),
  (119, .iload_n 2, 1, 2, 0, []),
  (120, .putfield 45, 3, 0, 0, []),
  (123, .goto 3, 3, 126, 0, []),
  (126, .return_, 1, 0, 0, [])]
theorem kk_X5_perform : (k_X5_perform.all fun e => mChk cX5_perform e.1 e.2) = true := by decide +kernel
def l_X5_perform : List (Nat × Nat × (mG → mT)) := [(3 * 72, 1 + 1, t_X5_beginDeal), (3 * 75, 2 + 1, t_X1_bid), (3 * 79, 0 + 1, t_X5_pass), (3 * 82, 0 + 1, t_X1_redoubleOrDouble), (3 * 85, 1 + 1, t_X5_playCard), (3 * 88, 1 + 1, t_X5_claim)]
def f_X5_perform (g : mG) : mF := (mLk k_X5_perform, mLk fl_RX5, mLk (l_X5_perform.map fun e => (e.1, e.2.1, e.2.2 g)), mLk ([] : List (Nat × mV)), mLk ([] : List (Nat × mV)), none)
theorem m_X5_perform (g : mG) : mMono (f_X5_perform g) := mMonoL (g := g) (l := l_X5_perform) (List.forall_mem_cons.mpr ⟨mo_X5_beginDeal, List.forall_mem_cons.mpr ⟨mo_X1_bid, List.forall_mem_cons.mpr ⟨mo_X5_pass, List.forall_mem_cons.mpr ⟨mo_X1_redoubleOrDouble, List.forall_mem_cons.mpr ⟨mo_X5_playCard, List.forall_mem_cons.mpr ⟨mo_X5_claim, fun _ h => absurd h List.not_mem_nil⟩⟩⟩⟩⟩⟩) rfl

set_option maxRecDepth 100000 in
theorem v_pf_0_13 (g : mG) (M : mM) (P : mP) (w y s : Int32)
    (h : (w = (nI 0) → ∃ x23 : Nat × aT × Int32, pre_X5_beginDeal x23 [.inr (some 13), .inl y] M ∧ ∀ M24 : mM, post_X5_beginDeal x23 [.inr (some 13), .inl y] M M24 → (P none M24)) ∧ (¬ w = (nI 0) → (w = (nI 1) → let M15 : mM := mW1 M 14 2 y; let M16 : mM := mW1 M15 14 3 s; let M17 : mM := mW1 M16 14 4 ((M 14 1) &&& (nI 1)); let M18 : mM := mW1 M17 14 5 (nI 0); let M19 : mM := mW1 M18 14 6 (nI 0); (¬ (aAt (M 15) 10 ((((M 14 1) &&& (nI 1)) * (nI 5)) + s)) = (-1) → let M20 : mM := mW1 M19 14 1 (((M 14 1) + (nI 1)) &&& (nI 3)); P none M20) ∧ (¬ (¬ (aAt (M 15) 10 ((((M 14 1) &&& (nI 1)) * (nI 5)) + s)) = (-1)) → let M21 : mM := mUp M19 15 (aSet (M 15) 10 ((((M 14 1) &&& (nI 1)) * (nI 5)) + s) (M 14 1)); let M22 : mM := mW1 M21 14 1 (((M 14 1) + (nI 1)) &&& (nI 3)); P none M22)) ∧ (¬ w = (nI 1) → (w = (nI 2) → ∃ x13 : Nat × aT × Nat, pre_X5_pass x13 [.inr (some 13)] M ∧ ∀ M14 : mM, post_X5_pass x13 [.inr (some 13)] M M14 → (P none M14)) ∧ (¬ w = (nI 2) → (w = (nI 3) → let M10 : mM := mW1 M 14 5 ((M 14 5) + (nI 1)); let M11 : mM := mW1 M10 14 6 (nI 0); let M12 : mM := mW1 M11 14 1 (((M 14 1) + (nI 1)) &&& (nI 3)); P none M12) ∧ (¬ w = (nI 3) → (w = (nI 4) → let M7 : mM := mW1 M 14 5 ((M 14 5) + (nI 1)); let M8 : mM := mW1 M7 14 6 (nI 0); let M9 : mM := mW1 M8 14 1 (((M 14 1) + (nI 1)) &&& (nI 3)); P none M9) ∧ (¬ w = (nI 4) → (w = (nI 5) → ∃ x5 : Nat × aT × Nat, pre_X5_playCard x5 [.inr (some 13), .inl ((s * (nI 8)) + y)] M ∧ ∀ M6 : mM, post_X5_playCard x5 [.inr (some 13), .inl ((s * (nI 8)) + y)] M M6 → (P none M6)) ∧ (¬ w = (nI 5) → (w = (nI 6) → ∃ x3 : Nat × aT × Nat, pre_X5_claim x3 [.inr (some 13), .inl y] M ∧ ∀ M4 : mM, post_X5_claim x3 [.inr (some 13), .inl y] M M4 → (P none M4)) ∧ (¬ w = (nI 6) → (w = (nI 7) → let M2 : mM := mW1 M 13 5 y; P none M2) ∧ (¬ w = (nI 7) → (w = (nI 8) → let M1 : mM := mW1 M 13 6 y; P none M1) ∧ (¬ w = (nI 8) → P none M)))))))))) :
    mRun (mSx g) (f_X5_perform g) P (0, [some (.inr (some 13)), some (.inl w), some (.inl y), some (.inl s)], [], M) := mRun.vc (m_X5_perform g) [] 11 h

theorem pf_run_13 (g : mG) (P : mP) (M : mM) (T : aT) (w : Nat) (y s : Int32) (hR : RpT 13 M T) (hok : okAct T (w, y, s)) (hP : ∀ M', RpT 13 M' (tStep T (w, y, s)) ∧ FrT 13 M M' → P none M') :
    mRun (mSx g) (f_X5_perform g) P (0, [some (.inr (some 13)), some (.inl (nI w)), some (.inl y), some (.inl s)], [], M) := by
  obtain ⟨hw, k1, k2, k3, k5, k6⟩ := hok
  dsimp only at hw k1 k2 k3 k5 k6
  have hne : ∀ k, k < 9 → w ≠ k → ¬ nI w = nI k := fun k hk h z => h ((nI_eq (by omega) (by omega)).mp z)
  have hX := hR
  obtain ⟨-, ⟨b1, -, -, -, -, -, -, b8⟩, -⟩ := hX
  have b1' : M 14 1 = nI T.2.1.1.1 := b1
  refine v_pf_0_13 g M P _ _ _ ⟨fun z => ?_, fun z0 => ⟨fun z => ?_, fun z1 => ⟨fun z => ?_, fun z2 => ⟨fun z => ?_, fun z3 => ⟨fun z => ?_, fun z4 => ⟨fun z => ?_, fun z5 => ⟨fun z => ?_, fun z6 => ⟨fun z => ?_, fun z7 => ⟨fun z => ?_, fun z8 => ?_⟩⟩⟩⟩⟩⟩⟩⟩⟩
  · obtain rfl := (nI_eq (by omega) (by decide)).mp z
    exact ⟨(13, T, y), ⟨Or.inl rfl, rfl, hR⟩, fun M2 k => hP M2 k⟩
  · obtain rfl := (nI_eq (by omega) (by decide)).mp z
    obtain ⟨h1, h2, hnm⟩ := k1 rfl
    have ix : (M 14 1 &&& nI 1) * nI 5 + s = nI (5 * (T.2.1.1.1 % 2) + ub s) := by
      rw [b1', nI_and1 _ (by omega), ← nI_ub s, pk_mul, nI_add, ub_nI (ub_lt s), Nat.mul_comm]
    have hr : aAt (M 15) 10 (nI (5 * (T.2.1.1.1 % 2) + ub s)) = oI (T.2.1.2.2.2 (5 * (T.2.1.1.1 % 2) + ub s)) := by
      rw [aAt_in (by omega) (by decide)]
      exact b8 _ (by omega)
    have e1 : (M 14 1 + nI 1) &&& nI 3 = nI (nx T.2.1.1.1) := by
      rw [b1', nI_add, nI_and3 _ (by omega)]
      rfl
    have e4 : M 14 1 &&& nI 1 = nI (T.2.1.1.1 % 2) := by rw [b1', nI_and1 _ (by omega)]
    have em : ∀ (M9 : mM), (∀ c, c ≠ 15 → M9 c = mBid M 14 y s (M 14 1 &&& nI 1) c) → (∀ j, j < 10 → M9 15 j = oI (if j = 5 * (T.2.1.1.1 % 2) + ub s ∧ T.2.1.2.2.2 j = none then some T.2.1.1.1 else T.2.1.2.2.2 j)) → P none (mW1 M9 14 1 ((M 14 1 + nI 1) &&& nI 3)) := fun M9 q1 q2 => by
      have hB := mBid_f (M := M) (b := 14) (y := y) (s := s) (q := M 14 1 &&& nI 1)
      rw [← q1 14 (by decide)] at hB
      obtain ⟨h2, h3, h4, h5, h6, h7⟩ := hB
      have w : ∀ (v : Int32) (k : Nat), k ≠ 1 → mW1 M9 14 1 v 14 k = M9 14 k := fun v k hk => mW1_k hk
      refine hP _ (bid_T (n := ub y) (u := ub s) hR h1 (fun c hc1 hc2 => (mW1_c hc1).trans ((q1 c hc2).trans (mBid_c hc1))) (mW1_s.trans e1) ((w _ 2 (by decide)).trans (h2.trans (nI_ub y).symm)) ((w _ 3 (by decide)).trans (h3.trans (nI_ub s).symm)) ((w _ 4 (by decide)).trans (h4.trans e4)) ((w _ 5 (by decide)).trans h5) ((w _ 6 (by decide)).trans h6) ((w _ 7 (by decide)).trans h7) (fun j hj => ?_))
      rw [mW1_c (by decide)]
      exact q2 j hj
    rw [ix, hr]
    refine ⟨fun z => ?_, fun z => ?_⟩
    · refine em (mBid M 14 y s (M 14 1 &&& nI 1)) (fun _ _ => rfl) (fun j hj => ?_)
      rw [mBid_c (by decide), if_neg (fun q => z (by rw [← q.1, q.2]; rfl))]
      exact b8 j hj
    · have zn : T.2.1.2.2.2 (5 * (T.2.1.1.1 % 2) + ub s) = none := by
        have z := Classical.not_not.mp z
        cases hq : T.2.1.2.2.2 (5 * (T.2.1.1.1 % 2) + ub s) with
        | none => rfl
        | some d =>
          have hd := hnm _ d hq
          rw [hq] at z
          have z2 : nI d = -1 := z
          have := congrArg Int32.toInt z2
          rw [nI_toInt (by omega), show (-1 : Int32).toInt = -1 by decide] at this
          omega
      refine em (mUp (mBid M 14 y s (M 14 1 &&& nI 1)) 15 (aSet (M 15) 10 (nI (5 * (T.2.1.1.1 % 2) + ub s)) (M 14 1))) (fun c hc => mUp_ne hc) (fun j hj => ?_)
      rw [mUp_at, aSet_in (by omega) (by decide)]
      by_cases q : j = 5 * (T.2.1.1.1 % 2) + ub s
      · rw [q, upd_s, if_pos ⟨rfl, zn⟩]
        exact b1'
      · rw [upd_n q, if_neg (fun r => q r.1)]
        exact b8 j hj
  · obtain rfl := (nI_eq (by omega) (by decide)).mp z
    exact ⟨(13, T, 0), ⟨Or.inl rfl, rfl, hR, k2 rfl⟩, fun M2 k => hP M2 k⟩
  · obtain rfl := (nI_eq (by omega) (by decide)).mp z
    exact hP _ (dbl_T hR (k3 (Or.inl rfl)))
  · obtain rfl := (nI_eq (by omega) (by decide)).mp z
    exact hP _ (dbl_T hR (k3 (Or.inr rfl)))
  · obtain rfl := (nI_eq (by omega) (by decide)).mp z
    obtain ⟨h1, h2, h3, h4, h5, h6⟩ := k5 rfl
    have e : s * nI 8 + y = nI (8 * ub s + ub y) := by
      rw [← nI_ub s, ← nI_ub y, pk_mul, nI_add, ub_nI (ub_lt s), ub_nI (ub_lt y), Nat.mul_comm]
    rw [e]
    exact ⟨(13, T, 8 * ub s + ub y), ⟨Or.inl rfl, rfl, hR, h1, h2, h3, h4, h5, h6⟩, fun M2 k => hP M2 k⟩
  · obtain rfl := (nI_eq (by omega) (by decide)).mp z
    obtain ⟨h1, h2, h3, h4⟩ := k6 rfl
    exact ⟨(13, T, ub y), ⟨Or.inl rfl, by rw [nI_ub], hR, h1, h2, h3, h4⟩, fun M2 k => hP M2 k⟩
  · obtain rfl := (nI_eq (by omega) (by decide)).mp z
    exact hP _ (rank_T hR y)
  · obtain rfl := (nI_eq (by omega) (by decide)).mp z
    exact hP _ (rule_T hR y)
  · exact absurd ((by omega : w = 0 ∨ w = 1 ∨ w = 2 ∨ w = 3 ∨ w = 4 ∨ w = 5 ∨ w = 6 ∨ w = 7 ∨ w = 8)) (fun h => by
      rcases h with rfl | rfl | rfl | rfl | rfl | rfl | rfl | rfl | rfl <;> contradiction)
set_option maxRecDepth 100000 in
theorem v_pf_0_26 (g : mG) (M : mM) (P : mP) (w y s : Int32)
    (h : (w = (nI 0) → ∃ x23 : Nat × aT × Int32, pre_X5_beginDeal x23 [.inr (some 26), .inl y] M ∧ ∀ M24 : mM, post_X5_beginDeal x23 [.inr (some 26), .inl y] M M24 → (P none M24)) ∧ (¬ w = (nI 0) → (w = (nI 1) → let M15 : mM := mW1 M 27 2 y; let M16 : mM := mW1 M15 27 3 s; let M17 : mM := mW1 M16 27 4 ((M 27 1) &&& (nI 1)); let M18 : mM := mW1 M17 27 5 (nI 0); let M19 : mM := mW1 M18 27 6 (nI 0); (¬ (aAt (M 28) 10 ((((M 27 1) &&& (nI 1)) * (nI 5)) + s)) = (-1) → let M20 : mM := mW1 M19 27 1 (((M 27 1) + (nI 1)) &&& (nI 3)); P none M20) ∧ (¬ (¬ (aAt (M 28) 10 ((((M 27 1) &&& (nI 1)) * (nI 5)) + s)) = (-1)) → let M21 : mM := mUp M19 28 (aSet (M 28) 10 ((((M 27 1) &&& (nI 1)) * (nI 5)) + s) (M 27 1)); let M22 : mM := mW1 M21 27 1 (((M 27 1) + (nI 1)) &&& (nI 3)); P none M22)) ∧ (¬ w = (nI 1) → (w = (nI 2) → ∃ x13 : Nat × aT × Nat, pre_X5_pass x13 [.inr (some 26)] M ∧ ∀ M14 : mM, post_X5_pass x13 [.inr (some 26)] M M14 → (P none M14)) ∧ (¬ w = (nI 2) → (w = (nI 3) → let M10 : mM := mW1 M 27 5 ((M 27 5) + (nI 1)); let M11 : mM := mW1 M10 27 6 (nI 0); let M12 : mM := mW1 M11 27 1 (((M 27 1) + (nI 1)) &&& (nI 3)); P none M12) ∧ (¬ w = (nI 3) → (w = (nI 4) → let M7 : mM := mW1 M 27 5 ((M 27 5) + (nI 1)); let M8 : mM := mW1 M7 27 6 (nI 0); let M9 : mM := mW1 M8 27 1 (((M 27 1) + (nI 1)) &&& (nI 3)); P none M9) ∧ (¬ w = (nI 4) → (w = (nI 5) → ∃ x5 : Nat × aT × Nat, pre_X5_playCard x5 [.inr (some 26), .inl ((s * (nI 8)) + y)] M ∧ ∀ M6 : mM, post_X5_playCard x5 [.inr (some 26), .inl ((s * (nI 8)) + y)] M M6 → (P none M6)) ∧ (¬ w = (nI 5) → (w = (nI 6) → ∃ x3 : Nat × aT × Nat, pre_X5_claim x3 [.inr (some 26), .inl y] M ∧ ∀ M4 : mM, post_X5_claim x3 [.inr (some 26), .inl y] M M4 → (P none M4)) ∧ (¬ w = (nI 6) → (w = (nI 7) → let M2 : mM := mW1 M 26 5 y; P none M2) ∧ (¬ w = (nI 7) → (w = (nI 8) → let M1 : mM := mW1 M 26 6 y; P none M1) ∧ (¬ w = (nI 8) → P none M)))))))))) :
    mRun (mSx g) (f_X5_perform g) P (0, [some (.inr (some 26)), some (.inl w), some (.inl y), some (.inl s)], [], M) := mRun.vc (m_X5_perform g) [] 11 h

theorem pf_run_26 (g : mG) (P : mP) (M : mM) (T : aT) (w : Nat) (y s : Int32) (hR : RpT 26 M T) (hok : okAct T (w, y, s)) (hP : ∀ M', RpT 26 M' (tStep T (w, y, s)) ∧ FrT 26 M M' → P none M') :
    mRun (mSx g) (f_X5_perform g) P (0, [some (.inr (some 26)), some (.inl (nI w)), some (.inl y), some (.inl s)], [], M) := by
  obtain ⟨hw, k1, k2, k3, k5, k6⟩ := hok
  dsimp only at hw k1 k2 k3 k5 k6
  have hne : ∀ k, k < 9 → w ≠ k → ¬ nI w = nI k := fun k hk h z => h ((nI_eq (by omega) (by omega)).mp z)
  have hX := hR
  obtain ⟨-, ⟨b1, -, -, -, -, -, -, b8⟩, -⟩ := hX
  have b1' : M 27 1 = nI T.2.1.1.1 := b1
  refine v_pf_0_26 g M P _ _ _ ⟨fun z => ?_, fun z0 => ⟨fun z => ?_, fun z1 => ⟨fun z => ?_, fun z2 => ⟨fun z => ?_, fun z3 => ⟨fun z => ?_, fun z4 => ⟨fun z => ?_, fun z5 => ⟨fun z => ?_, fun z6 => ⟨fun z => ?_, fun z7 => ⟨fun z => ?_, fun z8 => ?_⟩⟩⟩⟩⟩⟩⟩⟩⟩
  · obtain rfl := (nI_eq (by omega) (by decide)).mp z
    exact ⟨(26, T, y), ⟨Or.inr rfl, rfl, hR⟩, fun M2 k => hP M2 k⟩
  · obtain rfl := (nI_eq (by omega) (by decide)).mp z
    obtain ⟨h1, h2, hnm⟩ := k1 rfl
    have ix : (M 27 1 &&& nI 1) * nI 5 + s = nI (5 * (T.2.1.1.1 % 2) + ub s) := by
      rw [b1', nI_and1 _ (by omega), ← nI_ub s, pk_mul, nI_add, ub_nI (ub_lt s), Nat.mul_comm]
    have hr : aAt (M 28) 10 (nI (5 * (T.2.1.1.1 % 2) + ub s)) = oI (T.2.1.2.2.2 (5 * (T.2.1.1.1 % 2) + ub s)) := by
      rw [aAt_in (by omega) (by decide)]
      exact b8 _ (by omega)
    have e1 : (M 27 1 + nI 1) &&& nI 3 = nI (nx T.2.1.1.1) := by
      rw [b1', nI_add, nI_and3 _ (by omega)]
      rfl
    have e4 : M 27 1 &&& nI 1 = nI (T.2.1.1.1 % 2) := by rw [b1', nI_and1 _ (by omega)]
    have em : ∀ (M9 : mM), (∀ c, c ≠ 28 → M9 c = mBid M 27 y s (M 27 1 &&& nI 1) c) → (∀ j, j < 10 → M9 28 j = oI (if j = 5 * (T.2.1.1.1 % 2) + ub s ∧ T.2.1.2.2.2 j = none then some T.2.1.1.1 else T.2.1.2.2.2 j)) → P none (mW1 M9 27 1 ((M 27 1 + nI 1) &&& nI 3)) := fun M9 q1 q2 => by
      have hB := mBid_f (M := M) (b := 27) (y := y) (s := s) (q := M 27 1 &&& nI 1)
      rw [← q1 27 (by decide)] at hB
      obtain ⟨h2, h3, h4, h5, h6, h7⟩ := hB
      have w : ∀ (v : Int32) (k : Nat), k ≠ 1 → mW1 M9 27 1 v 27 k = M9 27 k := fun v k hk => mW1_k hk
      refine hP _ (bid_T (n := ub y) (u := ub s) hR h1 (fun c hc1 hc2 => (mW1_c hc1).trans ((q1 c hc2).trans (mBid_c hc1))) (mW1_s.trans e1) ((w _ 2 (by decide)).trans (h2.trans (nI_ub y).symm)) ((w _ 3 (by decide)).trans (h3.trans (nI_ub s).symm)) ((w _ 4 (by decide)).trans (h4.trans e4)) ((w _ 5 (by decide)).trans h5) ((w _ 6 (by decide)).trans h6) ((w _ 7 (by decide)).trans h7) (fun j hj => ?_))
      rw [mW1_c (by decide)]
      exact q2 j hj
    rw [ix, hr]
    refine ⟨fun z => ?_, fun z => ?_⟩
    · refine em (mBid M 27 y s (M 27 1 &&& nI 1)) (fun _ _ => rfl) (fun j hj => ?_)
      rw [mBid_c (by decide), if_neg (fun q => z (by rw [← q.1, q.2]; rfl))]
      exact b8 j hj
    · have zn : T.2.1.2.2.2 (5 * (T.2.1.1.1 % 2) + ub s) = none := by
        have z := Classical.not_not.mp z
        cases hq : T.2.1.2.2.2 (5 * (T.2.1.1.1 % 2) + ub s) with
        | none => rfl
        | some d =>
          have hd := hnm _ d hq
          rw [hq] at z
          have z2 : nI d = -1 := z
          have := congrArg Int32.toInt z2
          rw [nI_toInt (by omega), show (-1 : Int32).toInt = -1 by decide] at this
          omega
      refine em (mUp (mBid M 27 y s (M 27 1 &&& nI 1)) 28 (aSet (M 28) 10 (nI (5 * (T.2.1.1.1 % 2) + ub s)) (M 27 1))) (fun c hc => mUp_ne hc) (fun j hj => ?_)
      rw [mUp_at, aSet_in (by omega) (by decide)]
      by_cases q : j = 5 * (T.2.1.1.1 % 2) + ub s
      · rw [q, upd_s, if_pos ⟨rfl, zn⟩]
        exact b1'
      · rw [upd_n q, if_neg (fun r => q r.1)]
        exact b8 j hj
  · obtain rfl := (nI_eq (by omega) (by decide)).mp z
    exact ⟨(26, T, 0), ⟨Or.inr rfl, rfl, hR, k2 rfl⟩, fun M2 k => hP M2 k⟩
  · obtain rfl := (nI_eq (by omega) (by decide)).mp z
    exact hP _ (dbl_T hR (k3 (Or.inl rfl)))
  · obtain rfl := (nI_eq (by omega) (by decide)).mp z
    exact hP _ (dbl_T hR (k3 (Or.inr rfl)))
  · obtain rfl := (nI_eq (by omega) (by decide)).mp z
    obtain ⟨h1, h2, h3, h4, h5, h6⟩ := k5 rfl
    have e : s * nI 8 + y = nI (8 * ub s + ub y) := by
      rw [← nI_ub s, ← nI_ub y, pk_mul, nI_add, ub_nI (ub_lt s), ub_nI (ub_lt y), Nat.mul_comm]
    rw [e]
    exact ⟨(26, T, 8 * ub s + ub y), ⟨Or.inr rfl, rfl, hR, h1, h2, h3, h4, h5, h6⟩, fun M2 k => hP M2 k⟩
  · obtain rfl := (nI_eq (by omega) (by decide)).mp z
    obtain ⟨h1, h2, h3, h4⟩ := k6 rfl
    exact ⟨(26, T, ub y), ⟨Or.inr rfl, by rw [nI_ub], hR, h1, h2, h3, h4⟩, fun M2 k => hP M2 k⟩
  · obtain rfl := (nI_eq (by omega) (by decide)).mp z
    exact hP _ (rank_T hR y)
  · obtain rfl := (nI_eq (by omega) (by decide)).mp z
    exact hP _ (rule_T hR y)
  · exact absurd ((by omega : w = 0 ∨ w = 1 ∨ w = 2 ∨ w = 3 ∨ w = 4 ∨ w = 5 ∨ w = 6 ∨ w = 7 ∨ w = 8)) (fun h => by
      rcases h with rfl | rfl | rfl | rfl | rfl | rfl | rfl | rfl | rfl <;> contradiction)
theorem run_X5_perform : mRunOf 4 t_X5_perform f_X5_perform := fun g as M P hT => by
  obtain ⟨⟨t, T, w, y, s⟩, ⟨h1, rfl, h3, h4⟩, hP⟩ := hT
  refine ⟨Nat.le_of_ble_eq_true rfl, ?_⟩
  dsimp only at h1 h3 h4
  rcases h1 with rfl | rfl
  · exact pf_run_13 g P M T w y s h3 h4 (fun M' h => hP M' h)
  · exact pf_run_26 g P M T w y s h3 h4 (fun M' h => hP M' h)
theorem ok_X5_perform : mOK yX5_perform cX5_perform 4 (none) 5 t_X5_perform := mOK.of f_X5_perform (by decide) (fun _ => rfl) (fun g => mCodeOK kk_X5_perform) (fun g => mFldL fk_RX5 rfl) (fun g idx v h => by cases h) (fun g idx v h => by cases h) (mCalL (l := l_X5_perform) (List.forall_mem_cons.mpr ⟨mSite.V (idx := 72) ok_X5_beginDeal (by decide) (by decide) rv_X5_beginDeal wc_X5_beginDeal wk_RX5_72 wi_X5_beginDeal wl_X5_beginDeal wn_RX5 wd_X5_beginDeal, List.forall_mem_cons.mpr ⟨mSite.V (idx := 75) ok_X1_bid (by decide) (by decide) rv_X1_bid wc_X1_bid wk_RX5_75 wi_X1_bid wl_X1_bid wn_RX1 wd_X1_bid, List.forall_mem_cons.mpr ⟨mSite.V (idx := 79) ok_X5_pass (by decide) (by decide) rv_X5_pass wc_X5_pass wk_RX5_79 wi_X5_pass wl_X5_pass wn_RX5 wd_X5_pass, List.forall_mem_cons.mpr ⟨mSite.V (idx := 82) ok_X1_redoubleOrDouble (by decide) (by decide) rv_X1_redoubleOrDouble wc_X1_redoubleOrDouble wk_RX5_82 wi_X1_redoubleOrDouble wl_X1_redoubleOrDouble wn_RX1 wd_X1_redoubleOrDouble, List.forall_mem_cons.mpr ⟨mSite.V (idx := 85) ok_X5_playCard (by decide) (by decide) rv_X5_playCard wc_X5_playCard wk_RX5_85 wi_X5_playCard wl_X5_playCard wn_RX5 wd_X5_playCard, List.forall_mem_cons.mpr ⟨mSite.V (idx := 88) ok_X5_claim (by decide) (by decide) rv_X5_claim wc_X5_claim wk_RX5_88 wi_X5_claim wl_X5_claim wn_RX5 wd_X5_claim, fun _ h => absurd h List.not_mem_nil⟩⟩⟩⟩⟩⟩) (fun _ => rfl)) run_X5_perform
end
section
/-! ===== CLASS Table: cleared ===== -/
def pre_X5_clear (q : Nat × Nat) (as : List mV) (M : mM) : Prop := (q.1 = 13 ∨ q.1 = 26) ∧ as = [.inr (some q.1)]
def post_X5_clear (q : Nat × Nat) (_ : List mV) (M : mM) (M' : mM) : Prop := RpT q.1 M' tb0 ∧ FrT q.1 M M'
abbrev t_X5_clear : mG → mT := mRv pre_X5_clear post_X5_clear
theorem mo_X5_clear : mMn t_X5_clear := mRv_mono
theorem rv_X5_clear : mHasR yX5_clear 0 t_X5_clear := by
  intro g as M P hT hl
  obtain ⟨q, ⟨h1, h2⟩, -⟩ := hT
  refine ⟨_, _, h2, is_X5 g _ ?_⟩
  rcases h1 with h1 | h1 <;> rw [h1] <;> rfl
def k_X5_clear : List (Nat × mI) := [(0, .aload_n 0, 1, 0, 0, []),
  (1, .iconst 0, 1, 0, nI 0, []),
  (2, .putfield 35, 3, 0, 0, []),
  (5, .aload_n 0, 1, 0, 0, []),
  (6, .iconst 0, 1, 0, nI 0, []),
  (7, .putfield 39, 3, 0, 0, []),
  (10, .aload_n 0, 1, 0, 0, []),
  (11, .iconst 0, 1, 0, nI 0, []),
  (12, .putfield 42, 3, 0, 0, []),
  (15, .aload_n 0, 1, 0, 0, []),
  (16, .iconst 0, 1, 0, nI 0, []),
  (17, .putfield 45, 3, 0, 0, []),
  (20, .aload_n 0, 1, 0, 0, []),
  (21, .getfield 12, 3, 0, 0, []),
  (24, .iconst 0, 1, 0, nI 0, []),
  (25, .invokevirtual 48, 3, 0, 0, []),
  (28, .aload_n 0, 1, 0, 0, []),
  (29, .getfield 21, 3, 0, 0, []),
  (32, .invokevirtual 52, 3, 0, 0, []),
  (35, .aload_n 0, 1, 0, 0, []),
  (36, .getfield 28, 3, 0, 0, []),
  (39, .invokevirtual 53, 3, 0, 0, []),
  (42, .return_, 1, 0, 0, [])]
theorem kk_X5_clear : (k_X5_clear.all fun e => mChk cX5_clear e.1 e.2) = true := by decide +kernel
def l_X5_clear : List (Nat × Nat × (mG → mT)) := [(3 * 48, 1 + 1, t_X1_begin), (3 * 52, 0 + 1, t_X2_clear), (3 * 53, 0 + 1, t_X3_clear)]
def f_X5_clear (g : mG) : mF := (mLk k_X5_clear, mLk fl_RX5, mLk (l_X5_clear.map fun e => (e.1, e.2.1, e.2.2 g)), mLk ([] : List (Nat × mV)), mLk ([] : List (Nat × mV)), none)
theorem m_X5_clear (g : mG) : mMono (f_X5_clear g) := mMonoL (g := g) (l := l_X5_clear) (List.forall_mem_cons.mpr ⟨mo_X1_begin, List.forall_mem_cons.mpr ⟨mo_X2_clear, List.forall_mem_cons.mpr ⟨mo_X3_clear, fun _ h => absurd h List.not_mem_nil⟩⟩⟩) rfl

set_option maxRecDepth 100000 in
theorem v_cr_0_13 (g : mG) (M : mM) (P : mP) 
    (h : let M1 : mM := mW1 M 13 3 (nI 0); let M2 : mM := mW1 M1 13 4 (nI 0); let M3 : mM := mW1 M2 13 5 (nI 0); let M4 : mM := mW1 M3 13 6 (nI 0); let M5 : mM := mUp M4 15 (aFill (M 15) 10 (-1)); let M6 : mM := mW1 M5 14 1 (nI 0); let M7 : mM := mW1 M6 14 2 (-1); let M8 : mM := mW1 M7 14 3 (-1); let M9 : mM := mW1 M8 14 4 (-1); let M10 : mM := mW1 M9 14 5 (nI 0); let M11 : mM := mW1 M10 14 6 (nI 0); let M12 : mM := mW1 M11 14 7 (-1); let M13 : mM := mUp M12 18 (aFill (M 18) 4 (nI 0)); let M14 : mM := mUp M13 19 (aFill (M 19) 4 (nI 0)); let M15 : mM := mUp M14 23 (aFill (M 23) 2 (nI 0)); let M16 : mM := mW1 M15 16 7 (nI 0); let M17 : mM := mW1 M16 16 8 (nI 0); let M18 : mM := mW1 M17 16 9 (nI 4); let M19 : mM := mW1 M18 16 10 (nI 0); let M20 : mM := mW1 M19 16 11 (nI 0); let M21 : mM := mUp M20 25 (aFill (M 25) 12 (nI 0)); ((nI 0) = 0 ∨ (nI 0) = 1) ∧ (let M22 : mM := mW1 M21 24 1 (nI 0); P none M22)) :
    mRun (mSx g) (f_X5_clear g) P (0, [some (.inr (some 13))], [], M) := mRun.vc (m_X5_clear g) [] 23 h

theorem cr_run_13 (g : mG) (P : mP) (M : mM) (hP : ∀ M', RpT 13 M' tb0 ∧ FrT 13 M M' → P none M') :
    mRun (mSx g) (f_X5_clear g) P (0, [some (.inr (some 13))], [], M) := by
  refine v_cr_0_13 g M P ?_
  intro M1 M2 M3 M4 M5 M6 M7 M8 M9 M10 M11 M12 M13 M14 M15 M16 M17 M18 M19 M20 M21
  refine ⟨Or.inl rfl, ?_⟩
  intro M22
  have c0_3 : M22 13 3 = nI 0 := by
    show (mW1 (mUp (mW1 (mW1 (mW1 (mW1 (mW1 (mUp (mUp (mUp (mW1 (mW1 (mW1 (mW1 (mW1 (mW1 (mW1 (mUp (mW1 (mW1 (mW1 (mW1 M 13 3 (nI 0)) 13 4 (nI 0)) 13 5 (nI 0)) 13 6 (nI 0)) 15 (aFill (M 15) 10 (-1))) 14 1 (nI 0)) 14 2 (-1)) 14 3 (-1)) 14 4 (-1)) 14 5 (nI 0)) 14 6 (nI 0)) 14 7 (-1)) 18 (aFill (M 18) 4 (nI 0))) 19 (aFill (M 19) 4 (nI 0))) 23 (aFill (M 23) 2 (nI 0))) 16 7 (nI 0)) 16 8 (nI 0)) 16 9 (nI 4)) 16 10 (nI 0)) 16 11 (nI 0)) 25 (aFill (M 25) 12 (nI 0))) 24 1 (nI 0)) 13 3 = _
    simp (disch := decide) only [mW1_k, mW1_s, mW1_c, mUp_at, mUp_ne]
  have c0_4 : M22 13 4 = nI 0 := by
    show (mW1 (mUp (mW1 (mW1 (mW1 (mW1 (mW1 (mUp (mUp (mUp (mW1 (mW1 (mW1 (mW1 (mW1 (mW1 (mW1 (mUp (mW1 (mW1 (mW1 (mW1 M 13 3 (nI 0)) 13 4 (nI 0)) 13 5 (nI 0)) 13 6 (nI 0)) 15 (aFill (M 15) 10 (-1))) 14 1 (nI 0)) 14 2 (-1)) 14 3 (-1)) 14 4 (-1)) 14 5 (nI 0)) 14 6 (nI 0)) 14 7 (-1)) 18 (aFill (M 18) 4 (nI 0))) 19 (aFill (M 19) 4 (nI 0))) 23 (aFill (M 23) 2 (nI 0))) 16 7 (nI 0)) 16 8 (nI 0)) 16 9 (nI 4)) 16 10 (nI 0)) 16 11 (nI 0)) 25 (aFill (M 25) 12 (nI 0))) 24 1 (nI 0)) 13 4 = _
    simp (disch := decide) only [mW1_k, mW1_s, mW1_c, mUp_at, mUp_ne]
  have c0_5 : M22 13 5 = nI 0 := by
    show (mW1 (mUp (mW1 (mW1 (mW1 (mW1 (mW1 (mUp (mUp (mUp (mW1 (mW1 (mW1 (mW1 (mW1 (mW1 (mW1 (mUp (mW1 (mW1 (mW1 (mW1 M 13 3 (nI 0)) 13 4 (nI 0)) 13 5 (nI 0)) 13 6 (nI 0)) 15 (aFill (M 15) 10 (-1))) 14 1 (nI 0)) 14 2 (-1)) 14 3 (-1)) 14 4 (-1)) 14 5 (nI 0)) 14 6 (nI 0)) 14 7 (-1)) 18 (aFill (M 18) 4 (nI 0))) 19 (aFill (M 19) 4 (nI 0))) 23 (aFill (M 23) 2 (nI 0))) 16 7 (nI 0)) 16 8 (nI 0)) 16 9 (nI 4)) 16 10 (nI 0)) 16 11 (nI 0)) 25 (aFill (M 25) 12 (nI 0))) 24 1 (nI 0)) 13 5 = _
    simp (disch := decide) only [mW1_k, mW1_s, mW1_c, mUp_at, mUp_ne]
  have c0_6 : M22 13 6 = nI 0 := by
    show (mW1 (mUp (mW1 (mW1 (mW1 (mW1 (mW1 (mUp (mUp (mUp (mW1 (mW1 (mW1 (mW1 (mW1 (mW1 (mW1 (mUp (mW1 (mW1 (mW1 (mW1 M 13 3 (nI 0)) 13 4 (nI 0)) 13 5 (nI 0)) 13 6 (nI 0)) 15 (aFill (M 15) 10 (-1))) 14 1 (nI 0)) 14 2 (-1)) 14 3 (-1)) 14 4 (-1)) 14 5 (nI 0)) 14 6 (nI 0)) 14 7 (-1)) 18 (aFill (M 18) 4 (nI 0))) 19 (aFill (M 19) 4 (nI 0))) 23 (aFill (M 23) 2 (nI 0))) 16 7 (nI 0)) 16 8 (nI 0)) 16 9 (nI 4)) 16 10 (nI 0)) 16 11 (nI 0)) 25 (aFill (M 25) 12 (nI 0))) 24 1 (nI 0)) 13 6 = _
    simp (disch := decide) only [mW1_k, mW1_s, mW1_c, mUp_at, mUp_ne]
  have c1_1 : M22 14 1 = nI 0 := by
    show (mW1 (mUp (mW1 (mW1 (mW1 (mW1 (mW1 (mUp (mUp (mUp (mW1 (mW1 (mW1 (mW1 (mW1 (mW1 (mW1 (mUp (mW1 (mW1 (mW1 (mW1 M 13 3 (nI 0)) 13 4 (nI 0)) 13 5 (nI 0)) 13 6 (nI 0)) 15 (aFill (M 15) 10 (-1))) 14 1 (nI 0)) 14 2 (-1)) 14 3 (-1)) 14 4 (-1)) 14 5 (nI 0)) 14 6 (nI 0)) 14 7 (-1)) 18 (aFill (M 18) 4 (nI 0))) 19 (aFill (M 19) 4 (nI 0))) 23 (aFill (M 23) 2 (nI 0))) 16 7 (nI 0)) 16 8 (nI 0)) 16 9 (nI 4)) 16 10 (nI 0)) 16 11 (nI 0)) 25 (aFill (M 25) 12 (nI 0))) 24 1 (nI 0)) 14 1 = _
    simp (disch := decide) only [mW1_k, mW1_s, mW1_c, mUp_at, mUp_ne]
  have c1_2 : M22 14 2 = -1 := by
    show (mW1 (mUp (mW1 (mW1 (mW1 (mW1 (mW1 (mUp (mUp (mUp (mW1 (mW1 (mW1 (mW1 (mW1 (mW1 (mW1 (mUp (mW1 (mW1 (mW1 (mW1 M 13 3 (nI 0)) 13 4 (nI 0)) 13 5 (nI 0)) 13 6 (nI 0)) 15 (aFill (M 15) 10 (-1))) 14 1 (nI 0)) 14 2 (-1)) 14 3 (-1)) 14 4 (-1)) 14 5 (nI 0)) 14 6 (nI 0)) 14 7 (-1)) 18 (aFill (M 18) 4 (nI 0))) 19 (aFill (M 19) 4 (nI 0))) 23 (aFill (M 23) 2 (nI 0))) 16 7 (nI 0)) 16 8 (nI 0)) 16 9 (nI 4)) 16 10 (nI 0)) 16 11 (nI 0)) 25 (aFill (M 25) 12 (nI 0))) 24 1 (nI 0)) 14 2 = _
    simp (disch := decide) only [mW1_k, mW1_s, mW1_c, mUp_at, mUp_ne]
  have c1_3 : M22 14 3 = -1 := by
    show (mW1 (mUp (mW1 (mW1 (mW1 (mW1 (mW1 (mUp (mUp (mUp (mW1 (mW1 (mW1 (mW1 (mW1 (mW1 (mW1 (mUp (mW1 (mW1 (mW1 (mW1 M 13 3 (nI 0)) 13 4 (nI 0)) 13 5 (nI 0)) 13 6 (nI 0)) 15 (aFill (M 15) 10 (-1))) 14 1 (nI 0)) 14 2 (-1)) 14 3 (-1)) 14 4 (-1)) 14 5 (nI 0)) 14 6 (nI 0)) 14 7 (-1)) 18 (aFill (M 18) 4 (nI 0))) 19 (aFill (M 19) 4 (nI 0))) 23 (aFill (M 23) 2 (nI 0))) 16 7 (nI 0)) 16 8 (nI 0)) 16 9 (nI 4)) 16 10 (nI 0)) 16 11 (nI 0)) 25 (aFill (M 25) 12 (nI 0))) 24 1 (nI 0)) 14 3 = _
    simp (disch := decide) only [mW1_k, mW1_s, mW1_c, mUp_at, mUp_ne]
  have c1_4 : M22 14 4 = -1 := by
    show (mW1 (mUp (mW1 (mW1 (mW1 (mW1 (mW1 (mUp (mUp (mUp (mW1 (mW1 (mW1 (mW1 (mW1 (mW1 (mW1 (mUp (mW1 (mW1 (mW1 (mW1 M 13 3 (nI 0)) 13 4 (nI 0)) 13 5 (nI 0)) 13 6 (nI 0)) 15 (aFill (M 15) 10 (-1))) 14 1 (nI 0)) 14 2 (-1)) 14 3 (-1)) 14 4 (-1)) 14 5 (nI 0)) 14 6 (nI 0)) 14 7 (-1)) 18 (aFill (M 18) 4 (nI 0))) 19 (aFill (M 19) 4 (nI 0))) 23 (aFill (M 23) 2 (nI 0))) 16 7 (nI 0)) 16 8 (nI 0)) 16 9 (nI 4)) 16 10 (nI 0)) 16 11 (nI 0)) 25 (aFill (M 25) 12 (nI 0))) 24 1 (nI 0)) 14 4 = _
    simp (disch := decide) only [mW1_k, mW1_s, mW1_c, mUp_at, mUp_ne]
  have c1_5 : M22 14 5 = nI 0 := by
    show (mW1 (mUp (mW1 (mW1 (mW1 (mW1 (mW1 (mUp (mUp (mUp (mW1 (mW1 (mW1 (mW1 (mW1 (mW1 (mW1 (mUp (mW1 (mW1 (mW1 (mW1 M 13 3 (nI 0)) 13 4 (nI 0)) 13 5 (nI 0)) 13 6 (nI 0)) 15 (aFill (M 15) 10 (-1))) 14 1 (nI 0)) 14 2 (-1)) 14 3 (-1)) 14 4 (-1)) 14 5 (nI 0)) 14 6 (nI 0)) 14 7 (-1)) 18 (aFill (M 18) 4 (nI 0))) 19 (aFill (M 19) 4 (nI 0))) 23 (aFill (M 23) 2 (nI 0))) 16 7 (nI 0)) 16 8 (nI 0)) 16 9 (nI 4)) 16 10 (nI 0)) 16 11 (nI 0)) 25 (aFill (M 25) 12 (nI 0))) 24 1 (nI 0)) 14 5 = _
    simp (disch := decide) only [mW1_k, mW1_s, mW1_c, mUp_at, mUp_ne]
  have c1_6 : M22 14 6 = nI 0 := by
    show (mW1 (mUp (mW1 (mW1 (mW1 (mW1 (mW1 (mUp (mUp (mUp (mW1 (mW1 (mW1 (mW1 (mW1 (mW1 (mW1 (mUp (mW1 (mW1 (mW1 (mW1 M 13 3 (nI 0)) 13 4 (nI 0)) 13 5 (nI 0)) 13 6 (nI 0)) 15 (aFill (M 15) 10 (-1))) 14 1 (nI 0)) 14 2 (-1)) 14 3 (-1)) 14 4 (-1)) 14 5 (nI 0)) 14 6 (nI 0)) 14 7 (-1)) 18 (aFill (M 18) 4 (nI 0))) 19 (aFill (M 19) 4 (nI 0))) 23 (aFill (M 23) 2 (nI 0))) 16 7 (nI 0)) 16 8 (nI 0)) 16 9 (nI 4)) 16 10 (nI 0)) 16 11 (nI 0)) 25 (aFill (M 25) 12 (nI 0))) 24 1 (nI 0)) 14 6 = _
    simp (disch := decide) only [mW1_k, mW1_s, mW1_c, mUp_at, mUp_ne]
  have c1_7 : M22 14 7 = -1 := by
    show (mW1 (mUp (mW1 (mW1 (mW1 (mW1 (mW1 (mUp (mUp (mUp (mW1 (mW1 (mW1 (mW1 (mW1 (mW1 (mW1 (mUp (mW1 (mW1 (mW1 (mW1 M 13 3 (nI 0)) 13 4 (nI 0)) 13 5 (nI 0)) 13 6 (nI 0)) 15 (aFill (M 15) 10 (-1))) 14 1 (nI 0)) 14 2 (-1)) 14 3 (-1)) 14 4 (-1)) 14 5 (nI 0)) 14 6 (nI 0)) 14 7 (-1)) 18 (aFill (M 18) 4 (nI 0))) 19 (aFill (M 19) 4 (nI 0))) 23 (aFill (M 23) 2 (nI 0))) 16 7 (nI 0)) 16 8 (nI 0)) 16 9 (nI 4)) 16 10 (nI 0)) 16 11 (nI 0)) 25 (aFill (M 25) 12 (nI 0))) 24 1 (nI 0)) 14 7 = _
    simp (disch := decide) only [mW1_k, mW1_s, mW1_c, mUp_at, mUp_ne]
  have c3_7 : M22 16 7 = nI 0 := by
    show (mW1 (mUp (mW1 (mW1 (mW1 (mW1 (mW1 (mUp (mUp (mUp (mW1 (mW1 (mW1 (mW1 (mW1 (mW1 (mW1 (mUp (mW1 (mW1 (mW1 (mW1 M 13 3 (nI 0)) 13 4 (nI 0)) 13 5 (nI 0)) 13 6 (nI 0)) 15 (aFill (M 15) 10 (-1))) 14 1 (nI 0)) 14 2 (-1)) 14 3 (-1)) 14 4 (-1)) 14 5 (nI 0)) 14 6 (nI 0)) 14 7 (-1)) 18 (aFill (M 18) 4 (nI 0))) 19 (aFill (M 19) 4 (nI 0))) 23 (aFill (M 23) 2 (nI 0))) 16 7 (nI 0)) 16 8 (nI 0)) 16 9 (nI 4)) 16 10 (nI 0)) 16 11 (nI 0)) 25 (aFill (M 25) 12 (nI 0))) 24 1 (nI 0)) 16 7 = _
    simp (disch := decide) only [mW1_k, mW1_s, mW1_c, mUp_at, mUp_ne]
  have c3_8 : M22 16 8 = nI 0 := by
    show (mW1 (mUp (mW1 (mW1 (mW1 (mW1 (mW1 (mUp (mUp (mUp (mW1 (mW1 (mW1 (mW1 (mW1 (mW1 (mW1 (mUp (mW1 (mW1 (mW1 (mW1 M 13 3 (nI 0)) 13 4 (nI 0)) 13 5 (nI 0)) 13 6 (nI 0)) 15 (aFill (M 15) 10 (-1))) 14 1 (nI 0)) 14 2 (-1)) 14 3 (-1)) 14 4 (-1)) 14 5 (nI 0)) 14 6 (nI 0)) 14 7 (-1)) 18 (aFill (M 18) 4 (nI 0))) 19 (aFill (M 19) 4 (nI 0))) 23 (aFill (M 23) 2 (nI 0))) 16 7 (nI 0)) 16 8 (nI 0)) 16 9 (nI 4)) 16 10 (nI 0)) 16 11 (nI 0)) 25 (aFill (M 25) 12 (nI 0))) 24 1 (nI 0)) 16 8 = _
    simp (disch := decide) only [mW1_k, mW1_s, mW1_c, mUp_at, mUp_ne]
  have c3_9 : M22 16 9 = nI 4 := by
    show (mW1 (mUp (mW1 (mW1 (mW1 (mW1 (mW1 (mUp (mUp (mUp (mW1 (mW1 (mW1 (mW1 (mW1 (mW1 (mW1 (mUp (mW1 (mW1 (mW1 (mW1 M 13 3 (nI 0)) 13 4 (nI 0)) 13 5 (nI 0)) 13 6 (nI 0)) 15 (aFill (M 15) 10 (-1))) 14 1 (nI 0)) 14 2 (-1)) 14 3 (-1)) 14 4 (-1)) 14 5 (nI 0)) 14 6 (nI 0)) 14 7 (-1)) 18 (aFill (M 18) 4 (nI 0))) 19 (aFill (M 19) 4 (nI 0))) 23 (aFill (M 23) 2 (nI 0))) 16 7 (nI 0)) 16 8 (nI 0)) 16 9 (nI 4)) 16 10 (nI 0)) 16 11 (nI 0)) 25 (aFill (M 25) 12 (nI 0))) 24 1 (nI 0)) 16 9 = _
    simp (disch := decide) only [mW1_k, mW1_s, mW1_c, mUp_at, mUp_ne]
  have c3_10 : M22 16 10 = nI 0 := by
    show (mW1 (mUp (mW1 (mW1 (mW1 (mW1 (mW1 (mUp (mUp (mUp (mW1 (mW1 (mW1 (mW1 (mW1 (mW1 (mW1 (mUp (mW1 (mW1 (mW1 (mW1 M 13 3 (nI 0)) 13 4 (nI 0)) 13 5 (nI 0)) 13 6 (nI 0)) 15 (aFill (M 15) 10 (-1))) 14 1 (nI 0)) 14 2 (-1)) 14 3 (-1)) 14 4 (-1)) 14 5 (nI 0)) 14 6 (nI 0)) 14 7 (-1)) 18 (aFill (M 18) 4 (nI 0))) 19 (aFill (M 19) 4 (nI 0))) 23 (aFill (M 23) 2 (nI 0))) 16 7 (nI 0)) 16 8 (nI 0)) 16 9 (nI 4)) 16 10 (nI 0)) 16 11 (nI 0)) 25 (aFill (M 25) 12 (nI 0))) 24 1 (nI 0)) 16 10 = _
    simp (disch := decide) only [mW1_k, mW1_s, mW1_c, mUp_at, mUp_ne]
  have c3_11 : M22 16 11 = nI 0 := by
    show (mW1 (mUp (mW1 (mW1 (mW1 (mW1 (mW1 (mUp (mUp (mUp (mW1 (mW1 (mW1 (mW1 (mW1 (mW1 (mW1 (mUp (mW1 (mW1 (mW1 (mW1 M 13 3 (nI 0)) 13 4 (nI 0)) 13 5 (nI 0)) 13 6 (nI 0)) 15 (aFill (M 15) 10 (-1))) 14 1 (nI 0)) 14 2 (-1)) 14 3 (-1)) 14 4 (-1)) 14 5 (nI 0)) 14 6 (nI 0)) 14 7 (-1)) 18 (aFill (M 18) 4 (nI 0))) 19 (aFill (M 19) 4 (nI 0))) 23 (aFill (M 23) 2 (nI 0))) 16 7 (nI 0)) 16 8 (nI 0)) 16 9 (nI 4)) 16 10 (nI 0)) 16 11 (nI 0)) 25 (aFill (M 25) 12 (nI 0))) 24 1 (nI 0)) 16 11 = _
    simp (disch := decide) only [mW1_k, mW1_s, mW1_c, mUp_at, mUp_ne]
  have c11_1 : M22 24 1 = nI 0 := by
    show (mW1 (mUp (mW1 (mW1 (mW1 (mW1 (mW1 (mUp (mUp (mUp (mW1 (mW1 (mW1 (mW1 (mW1 (mW1 (mW1 (mUp (mW1 (mW1 (mW1 (mW1 M 13 3 (nI 0)) 13 4 (nI 0)) 13 5 (nI 0)) 13 6 (nI 0)) 15 (aFill (M 15) 10 (-1))) 14 1 (nI 0)) 14 2 (-1)) 14 3 (-1)) 14 4 (-1)) 14 5 (nI 0)) 14 6 (nI 0)) 14 7 (-1)) 18 (aFill (M 18) 4 (nI 0))) 19 (aFill (M 19) 4 (nI 0))) 23 (aFill (M 23) 2 (nI 0))) 16 7 (nI 0)) 16 8 (nI 0)) 16 9 (nI 4)) 16 10 (nI 0)) 16 11 (nI 0)) 25 (aFill (M 25) 12 (nI 0))) 24 1 (nI 0)) 24 1 = _
    simp (disch := decide) only [mW1_k, mW1_s, mW1_c, mUp_at, mUp_ne]
  have a2 : M22 15 = aFill (M 15) 10 (-1) := by
    show (mW1 (mUp (mW1 (mW1 (mW1 (mW1 (mW1 (mUp (mUp (mUp (mW1 (mW1 (mW1 (mW1 (mW1 (mW1 (mW1 (mUp (mW1 (mW1 (mW1 (mW1 M 13 3 (nI 0)) 13 4 (nI 0)) 13 5 (nI 0)) 13 6 (nI 0)) 15 (aFill (M 15) 10 (-1))) 14 1 (nI 0)) 14 2 (-1)) 14 3 (-1)) 14 4 (-1)) 14 5 (nI 0)) 14 6 (nI 0)) 14 7 (-1)) 18 (aFill (M 18) 4 (nI 0))) 19 (aFill (M 19) 4 (nI 0))) 23 (aFill (M 23) 2 (nI 0))) 16 7 (nI 0)) 16 8 (nI 0)) 16 9 (nI 4)) 16 10 (nI 0)) 16 11 (nI 0)) 25 (aFill (M 25) 12 (nI 0))) 24 1 (nI 0)) 15 = _
    simp (disch := decide) only [mW1_k, mW1_s, mW1_c, mUp_at, mUp_ne]
  have a5 : M22 18 = aFill (M 18) 4 (nI 0) := by
    show (mW1 (mUp (mW1 (mW1 (mW1 (mW1 (mW1 (mUp (mUp (mUp (mW1 (mW1 (mW1 (mW1 (mW1 (mW1 (mW1 (mUp (mW1 (mW1 (mW1 (mW1 M 13 3 (nI 0)) 13 4 (nI 0)) 13 5 (nI 0)) 13 6 (nI 0)) 15 (aFill (M 15) 10 (-1))) 14 1 (nI 0)) 14 2 (-1)) 14 3 (-1)) 14 4 (-1)) 14 5 (nI 0)) 14 6 (nI 0)) 14 7 (-1)) 18 (aFill (M 18) 4 (nI 0))) 19 (aFill (M 19) 4 (nI 0))) 23 (aFill (M 23) 2 (nI 0))) 16 7 (nI 0)) 16 8 (nI 0)) 16 9 (nI 4)) 16 10 (nI 0)) 16 11 (nI 0)) 25 (aFill (M 25) 12 (nI 0))) 24 1 (nI 0)) 18 = _
    simp (disch := decide) only [mW1_k, mW1_s, mW1_c, mUp_at, mUp_ne]
  have a6 : M22 19 = aFill (M 19) 4 (nI 0) := by
    show (mW1 (mUp (mW1 (mW1 (mW1 (mW1 (mW1 (mUp (mUp (mUp (mW1 (mW1 (mW1 (mW1 (mW1 (mW1 (mW1 (mUp (mW1 (mW1 (mW1 (mW1 M 13 3 (nI 0)) 13 4 (nI 0)) 13 5 (nI 0)) 13 6 (nI 0)) 15 (aFill (M 15) 10 (-1))) 14 1 (nI 0)) 14 2 (-1)) 14 3 (-1)) 14 4 (-1)) 14 5 (nI 0)) 14 6 (nI 0)) 14 7 (-1)) 18 (aFill (M 18) 4 (nI 0))) 19 (aFill (M 19) 4 (nI 0))) 23 (aFill (M 23) 2 (nI 0))) 16 7 (nI 0)) 16 8 (nI 0)) 16 9 (nI 4)) 16 10 (nI 0)) 16 11 (nI 0)) 25 (aFill (M 25) 12 (nI 0))) 24 1 (nI 0)) 19 = _
    simp (disch := decide) only [mW1_k, mW1_s, mW1_c, mUp_at, mUp_ne]
  have a10 : M22 23 = aFill (M 23) 2 (nI 0) := by
    show (mW1 (mUp (mW1 (mW1 (mW1 (mW1 (mW1 (mUp (mUp (mUp (mW1 (mW1 (mW1 (mW1 (mW1 (mW1 (mW1 (mUp (mW1 (mW1 (mW1 (mW1 M 13 3 (nI 0)) 13 4 (nI 0)) 13 5 (nI 0)) 13 6 (nI 0)) 15 (aFill (M 15) 10 (-1))) 14 1 (nI 0)) 14 2 (-1)) 14 3 (-1)) 14 4 (-1)) 14 5 (nI 0)) 14 6 (nI 0)) 14 7 (-1)) 18 (aFill (M 18) 4 (nI 0))) 19 (aFill (M 19) 4 (nI 0))) 23 (aFill (M 23) 2 (nI 0))) 16 7 (nI 0)) 16 8 (nI 0)) 16 9 (nI 4)) 16 10 (nI 0)) 16 11 (nI 0)) 25 (aFill (M 25) 12 (nI 0))) 24 1 (nI 0)) 23 = _
    simp (disch := decide) only [mW1_k, mW1_s, mW1_c, mUp_at, mUp_ne]
  have a12 : M22 25 = aFill (M 25) 12 (nI 0) := by
    show (mW1 (mUp (mW1 (mW1 (mW1 (mW1 (mW1 (mUp (mUp (mUp (mW1 (mW1 (mW1 (mW1 (mW1 (mW1 (mW1 (mUp (mW1 (mW1 (mW1 (mW1 M 13 3 (nI 0)) 13 4 (nI 0)) 13 5 (nI 0)) 13 6 (nI 0)) 15 (aFill (M 15) 10 (-1))) 14 1 (nI 0)) 14 2 (-1)) 14 3 (-1)) 14 4 (-1)) 14 5 (nI 0)) 14 6 (nI 0)) 14 7 (-1)) 18 (aFill (M 18) 4 (nI 0))) 19 (aFill (M 19) 4 (nI 0))) 23 (aFill (M 23) 2 (nI 0))) 16 7 (nI 0)) 16 8 (nI 0)) 16 9 (nI 4)) 16 10 (nI 0)) 16 11 (nI 0)) 25 (aFill (M 25) 12 (nI 0))) 24 1 (nI 0)) 25 = _
    simp (disch := decide) only [mW1_k, mW1_s, mW1_c, mUp_at, mUp_ne]
  refine hP M22 ⟨⟨⟨c0_3, c0_4, c0_5, c0_6⟩, ⟨c1_1, c1_5, c1_6, c1_2, c1_3, c1_4, c1_7, fun j hj => ?_⟩, ⟨⟨c3_7, c3_8, c3_9, c3_10, c3_11⟩, fun j hj => absurd hj (Nat.not_lt_zero _), fun j hj => ?_, fun j hj => ?_, fun i hi => absurd hi (Nat.not_lt_zero _), fun i hi => absurd hi (Nat.not_succ_le_zero _), ?_, ?_⟩, ⟨c11_1, fun q hq => (by cases hq), fun j hj => ?_⟩⟩, fun c hc => ?_⟩
  · rw [a2]
    exact if_pos hj
  · rw [a5]
    exact if_pos hj
  · rw [a6]
    exact (if_pos hj).trans (aHd_nil (dl := fun _ => 0) (q := j)).symm
  · rw [a10]
    exact if_pos (by decide)
  · rw [a10]
    exact if_pos (by decide)
  · rw [a12]
    exact if_pos hj
  · show (mW1 (mUp (mW1 (mW1 (mW1 (mW1 (mW1 (mUp (mUp (mUp (mW1 (mW1 (mW1 (mW1 (mW1 (mW1 (mW1 (mUp (mW1 (mW1 (mW1 (mW1 M 13 3 (nI 0)) 13 4 (nI 0)) 13 5 (nI 0)) 13 6 (nI 0)) 15 (aFill (M 15) 10 (-1))) 14 1 (nI 0)) 14 2 (-1)) 14 3 (-1)) 14 4 (-1)) 14 5 (nI 0)) 14 6 (nI 0)) 14 7 (-1)) 18 (aFill (M 18) 4 (nI 0))) 19 (aFill (M 19) 4 (nI 0))) 23 (aFill (M 23) 2 (nI 0))) 16 7 (nI 0)) 16 8 (nI 0)) 16 9 (nI 4)) 16 10 (nI 0)) 16 11 (nI 0)) 25 (aFill (M 25) 12 (nI 0))) 24 1 (nI 0)) c = _
    simp (disch := omega) only [mW1_c, mUp_ne]
set_option maxRecDepth 100000 in
theorem v_cr_0_26 (g : mG) (M : mM) (P : mP) 
    (h : let M1 : mM := mW1 M 26 3 (nI 0); let M2 : mM := mW1 M1 26 4 (nI 0); let M3 : mM := mW1 M2 26 5 (nI 0); let M4 : mM := mW1 M3 26 6 (nI 0); let M5 : mM := mUp M4 28 (aFill (M 28) 10 (-1)); let M6 : mM := mW1 M5 27 1 (nI 0); let M7 : mM := mW1 M6 27 2 (-1); let M8 : mM := mW1 M7 27 3 (-1); let M9 : mM := mW1 M8 27 4 (-1); let M10 : mM := mW1 M9 27 5 (nI 0); let M11 : mM := mW1 M10 27 6 (nI 0); let M12 : mM := mW1 M11 27 7 (-1); let M13 : mM := mUp M12 31 (aFill (M 31) 4 (nI 0)); let M14 : mM := mUp M13 32 (aFill (M 32) 4 (nI 0)); let M15 : mM := mUp M14 36 (aFill (M 36) 2 (nI 0)); let M16 : mM := mW1 M15 29 7 (nI 0); let M17 : mM := mW1 M16 29 8 (nI 0); let M18 : mM := mW1 M17 29 9 (nI 4); let M19 : mM := mW1 M18 29 10 (nI 0); let M20 : mM := mW1 M19 29 11 (nI 0); let M21 : mM := mUp M20 38 (aFill (M 38) 12 (nI 0)); ((nI 0) = 0 ∨ (nI 0) = 1) ∧ (let M22 : mM := mW1 M21 37 1 (nI 0); P none M22)) :
    mRun (mSx g) (f_X5_clear g) P (0, [some (.inr (some 26))], [], M) := mRun.vc (m_X5_clear g) [] 23 h

theorem cr_run_26 (g : mG) (P : mP) (M : mM) (hP : ∀ M', RpT 26 M' tb0 ∧ FrT 26 M M' → P none M') :
    mRun (mSx g) (f_X5_clear g) P (0, [some (.inr (some 26))], [], M) := by
  refine v_cr_0_26 g M P ?_
  intro M1 M2 M3 M4 M5 M6 M7 M8 M9 M10 M11 M12 M13 M14 M15 M16 M17 M18 M19 M20 M21
  refine ⟨Or.inl rfl, ?_⟩
  intro M22
  have c0_3 : M22 26 3 = nI 0 := by
    show (mW1 (mUp (mW1 (mW1 (mW1 (mW1 (mW1 (mUp (mUp (mUp (mW1 (mW1 (mW1 (mW1 (mW1 (mW1 (mW1 (mUp (mW1 (mW1 (mW1 (mW1 M 26 3 (nI 0)) 26 4 (nI 0)) 26 5 (nI 0)) 26 6 (nI 0)) 28 (aFill (M 28) 10 (-1))) 27 1 (nI 0)) 27 2 (-1)) 27 3 (-1)) 27 4 (-1)) 27 5 (nI 0)) 27 6 (nI 0)) 27 7 (-1)) 31 (aFill (M 31) 4 (nI 0))) 32 (aFill (M 32) 4 (nI 0))) 36 (aFill (M 36) 2 (nI 0))) 29 7 (nI 0)) 29 8 (nI 0)) 29 9 (nI 4)) 29 10 (nI 0)) 29 11 (nI 0)) 38 (aFill (M 38) 12 (nI 0))) 37 1 (nI 0)) 26 3 = _
    simp (disch := decide) only [mW1_k, mW1_s, mW1_c, mUp_at, mUp_ne]
  have c0_4 : M22 26 4 = nI 0 := by
    show (mW1 (mUp (mW1 (mW1 (mW1 (mW1 (mW1 (mUp (mUp (mUp (mW1 (mW1 (mW1 (mW1 (mW1 (mW1 (mW1 (mUp (mW1 (mW1 (mW1 (mW1 M 26 3 (nI 0)) 26 4 (nI 0)) 26 5 (nI 0)) 26 6 (nI 0)) 28 (aFill (M 28) 10 (-1))) 27 1 (nI 0)) 27 2 (-1)) 27 3 (-1)) 27 4 (-1)) 27 5 (nI 0)) 27 6 (nI 0)) 27 7 (-1)) 31 (aFill (M 31) 4 (nI 0))) 32 (aFill (M 32) 4 (nI 0))) 36 (aFill (M 36) 2 (nI 0))) 29 7 (nI 0)) 29 8 (nI 0)) 29 9 (nI 4)) 29 10 (nI 0)) 29 11 (nI 0)) 38 (aFill (M 38) 12 (nI 0))) 37 1 (nI 0)) 26 4 = _
    simp (disch := decide) only [mW1_k, mW1_s, mW1_c, mUp_at, mUp_ne]
  have c0_5 : M22 26 5 = nI 0 := by
    show (mW1 (mUp (mW1 (mW1 (mW1 (mW1 (mW1 (mUp (mUp (mUp (mW1 (mW1 (mW1 (mW1 (mW1 (mW1 (mW1 (mUp (mW1 (mW1 (mW1 (mW1 M 26 3 (nI 0)) 26 4 (nI 0)) 26 5 (nI 0)) 26 6 (nI 0)) 28 (aFill (M 28) 10 (-1))) 27 1 (nI 0)) 27 2 (-1)) 27 3 (-1)) 27 4 (-1)) 27 5 (nI 0)) 27 6 (nI 0)) 27 7 (-1)) 31 (aFill (M 31) 4 (nI 0))) 32 (aFill (M 32) 4 (nI 0))) 36 (aFill (M 36) 2 (nI 0))) 29 7 (nI 0)) 29 8 (nI 0)) 29 9 (nI 4)) 29 10 (nI 0)) 29 11 (nI 0)) 38 (aFill (M 38) 12 (nI 0))) 37 1 (nI 0)) 26 5 = _
    simp (disch := decide) only [mW1_k, mW1_s, mW1_c, mUp_at, mUp_ne]
  have c0_6 : M22 26 6 = nI 0 := by
    show (mW1 (mUp (mW1 (mW1 (mW1 (mW1 (mW1 (mUp (mUp (mUp (mW1 (mW1 (mW1 (mW1 (mW1 (mW1 (mW1 (mUp (mW1 (mW1 (mW1 (mW1 M 26 3 (nI 0)) 26 4 (nI 0)) 26 5 (nI 0)) 26 6 (nI 0)) 28 (aFill (M 28) 10 (-1))) 27 1 (nI 0)) 27 2 (-1)) 27 3 (-1)) 27 4 (-1)) 27 5 (nI 0)) 27 6 (nI 0)) 27 7 (-1)) 31 (aFill (M 31) 4 (nI 0))) 32 (aFill (M 32) 4 (nI 0))) 36 (aFill (M 36) 2 (nI 0))) 29 7 (nI 0)) 29 8 (nI 0)) 29 9 (nI 4)) 29 10 (nI 0)) 29 11 (nI 0)) 38 (aFill (M 38) 12 (nI 0))) 37 1 (nI 0)) 26 6 = _
    simp (disch := decide) only [mW1_k, mW1_s, mW1_c, mUp_at, mUp_ne]
  have c1_1 : M22 27 1 = nI 0 := by
    show (mW1 (mUp (mW1 (mW1 (mW1 (mW1 (mW1 (mUp (mUp (mUp (mW1 (mW1 (mW1 (mW1 (mW1 (mW1 (mW1 (mUp (mW1 (mW1 (mW1 (mW1 M 26 3 (nI 0)) 26 4 (nI 0)) 26 5 (nI 0)) 26 6 (nI 0)) 28 (aFill (M 28) 10 (-1))) 27 1 (nI 0)) 27 2 (-1)) 27 3 (-1)) 27 4 (-1)) 27 5 (nI 0)) 27 6 (nI 0)) 27 7 (-1)) 31 (aFill (M 31) 4 (nI 0))) 32 (aFill (M 32) 4 (nI 0))) 36 (aFill (M 36) 2 (nI 0))) 29 7 (nI 0)) 29 8 (nI 0)) 29 9 (nI 4)) 29 10 (nI 0)) 29 11 (nI 0)) 38 (aFill (M 38) 12 (nI 0))) 37 1 (nI 0)) 27 1 = _
    simp (disch := decide) only [mW1_k, mW1_s, mW1_c, mUp_at, mUp_ne]
  have c1_2 : M22 27 2 = -1 := by
    show (mW1 (mUp (mW1 (mW1 (mW1 (mW1 (mW1 (mUp (mUp (mUp (mW1 (mW1 (mW1 (mW1 (mW1 (mW1 (mW1 (mUp (mW1 (mW1 (mW1 (mW1 M 26 3 (nI 0)) 26 4 (nI 0)) 26 5 (nI 0)) 26 6 (nI 0)) 28 (aFill (M 28) 10 (-1))) 27 1 (nI 0)) 27 2 (-1)) 27 3 (-1)) 27 4 (-1)) 27 5 (nI 0)) 27 6 (nI 0)) 27 7 (-1)) 31 (aFill (M 31) 4 (nI 0))) 32 (aFill (M 32) 4 (nI 0))) 36 (aFill (M 36) 2 (nI 0))) 29 7 (nI 0)) 29 8 (nI 0)) 29 9 (nI 4)) 29 10 (nI 0)) 29 11 (nI 0)) 38 (aFill (M 38) 12 (nI 0))) 37 1 (nI 0)) 27 2 = _
    simp (disch := decide) only [mW1_k, mW1_s, mW1_c, mUp_at, mUp_ne]
  have c1_3 : M22 27 3 = -1 := by
    show (mW1 (mUp (mW1 (mW1 (mW1 (mW1 (mW1 (mUp (mUp (mUp (mW1 (mW1 (mW1 (mW1 (mW1 (mW1 (mW1 (mUp (mW1 (mW1 (mW1 (mW1 M 26 3 (nI 0)) 26 4 (nI 0)) 26 5 (nI 0)) 26 6 (nI 0)) 28 (aFill (M 28) 10 (-1))) 27 1 (nI 0)) 27 2 (-1)) 27 3 (-1)) 27 4 (-1)) 27 5 (nI 0)) 27 6 (nI 0)) 27 7 (-1)) 31 (aFill (M 31) 4 (nI 0))) 32 (aFill (M 32) 4 (nI 0))) 36 (aFill (M 36) 2 (nI 0))) 29 7 (nI 0)) 29 8 (nI 0)) 29 9 (nI 4)) 29 10 (nI 0)) 29 11 (nI 0)) 38 (aFill (M 38) 12 (nI 0))) 37 1 (nI 0)) 27 3 = _
    simp (disch := decide) only [mW1_k, mW1_s, mW1_c, mUp_at, mUp_ne]
  have c1_4 : M22 27 4 = -1 := by
    show (mW1 (mUp (mW1 (mW1 (mW1 (mW1 (mW1 (mUp (mUp (mUp (mW1 (mW1 (mW1 (mW1 (mW1 (mW1 (mW1 (mUp (mW1 (mW1 (mW1 (mW1 M 26 3 (nI 0)) 26 4 (nI 0)) 26 5 (nI 0)) 26 6 (nI 0)) 28 (aFill (M 28) 10 (-1))) 27 1 (nI 0)) 27 2 (-1)) 27 3 (-1)) 27 4 (-1)) 27 5 (nI 0)) 27 6 (nI 0)) 27 7 (-1)) 31 (aFill (M 31) 4 (nI 0))) 32 (aFill (M 32) 4 (nI 0))) 36 (aFill (M 36) 2 (nI 0))) 29 7 (nI 0)) 29 8 (nI 0)) 29 9 (nI 4)) 29 10 (nI 0)) 29 11 (nI 0)) 38 (aFill (M 38) 12 (nI 0))) 37 1 (nI 0)) 27 4 = _
    simp (disch := decide) only [mW1_k, mW1_s, mW1_c, mUp_at, mUp_ne]
  have c1_5 : M22 27 5 = nI 0 := by
    show (mW1 (mUp (mW1 (mW1 (mW1 (mW1 (mW1 (mUp (mUp (mUp (mW1 (mW1 (mW1 (mW1 (mW1 (mW1 (mW1 (mUp (mW1 (mW1 (mW1 (mW1 M 26 3 (nI 0)) 26 4 (nI 0)) 26 5 (nI 0)) 26 6 (nI 0)) 28 (aFill (M 28) 10 (-1))) 27 1 (nI 0)) 27 2 (-1)) 27 3 (-1)) 27 4 (-1)) 27 5 (nI 0)) 27 6 (nI 0)) 27 7 (-1)) 31 (aFill (M 31) 4 (nI 0))) 32 (aFill (M 32) 4 (nI 0))) 36 (aFill (M 36) 2 (nI 0))) 29 7 (nI 0)) 29 8 (nI 0)) 29 9 (nI 4)) 29 10 (nI 0)) 29 11 (nI 0)) 38 (aFill (M 38) 12 (nI 0))) 37 1 (nI 0)) 27 5 = _
    simp (disch := decide) only [mW1_k, mW1_s, mW1_c, mUp_at, mUp_ne]
  have c1_6 : M22 27 6 = nI 0 := by
    show (mW1 (mUp (mW1 (mW1 (mW1 (mW1 (mW1 (mUp (mUp (mUp (mW1 (mW1 (mW1 (mW1 (mW1 (mW1 (mW1 (mUp (mW1 (mW1 (mW1 (mW1 M 26 3 (nI 0)) 26 4 (nI 0)) 26 5 (nI 0)) 26 6 (nI 0)) 28 (aFill (M 28) 10 (-1))) 27 1 (nI 0)) 27 2 (-1)) 27 3 (-1)) 27 4 (-1)) 27 5 (nI 0)) 27 6 (nI 0)) 27 7 (-1)) 31 (aFill (M 31) 4 (nI 0))) 32 (aFill (M 32) 4 (nI 0))) 36 (aFill (M 36) 2 (nI 0))) 29 7 (nI 0)) 29 8 (nI 0)) 29 9 (nI 4)) 29 10 (nI 0)) 29 11 (nI 0)) 38 (aFill (M 38) 12 (nI 0))) 37 1 (nI 0)) 27 6 = _
    simp (disch := decide) only [mW1_k, mW1_s, mW1_c, mUp_at, mUp_ne]
  have c1_7 : M22 27 7 = -1 := by
    show (mW1 (mUp (mW1 (mW1 (mW1 (mW1 (mW1 (mUp (mUp (mUp (mW1 (mW1 (mW1 (mW1 (mW1 (mW1 (mW1 (mUp (mW1 (mW1 (mW1 (mW1 M 26 3 (nI 0)) 26 4 (nI 0)) 26 5 (nI 0)) 26 6 (nI 0)) 28 (aFill (M 28) 10 (-1))) 27 1 (nI 0)) 27 2 (-1)) 27 3 (-1)) 27 4 (-1)) 27 5 (nI 0)) 27 6 (nI 0)) 27 7 (-1)) 31 (aFill (M 31) 4 (nI 0))) 32 (aFill (M 32) 4 (nI 0))) 36 (aFill (M 36) 2 (nI 0))) 29 7 (nI 0)) 29 8 (nI 0)) 29 9 (nI 4)) 29 10 (nI 0)) 29 11 (nI 0)) 38 (aFill (M 38) 12 (nI 0))) 37 1 (nI 0)) 27 7 = _
    simp (disch := decide) only [mW1_k, mW1_s, mW1_c, mUp_at, mUp_ne]
  have c3_7 : M22 29 7 = nI 0 := by
    show (mW1 (mUp (mW1 (mW1 (mW1 (mW1 (mW1 (mUp (mUp (mUp (mW1 (mW1 (mW1 (mW1 (mW1 (mW1 (mW1 (mUp (mW1 (mW1 (mW1 (mW1 M 26 3 (nI 0)) 26 4 (nI 0)) 26 5 (nI 0)) 26 6 (nI 0)) 28 (aFill (M 28) 10 (-1))) 27 1 (nI 0)) 27 2 (-1)) 27 3 (-1)) 27 4 (-1)) 27 5 (nI 0)) 27 6 (nI 0)) 27 7 (-1)) 31 (aFill (M 31) 4 (nI 0))) 32 (aFill (M 32) 4 (nI 0))) 36 (aFill (M 36) 2 (nI 0))) 29 7 (nI 0)) 29 8 (nI 0)) 29 9 (nI 4)) 29 10 (nI 0)) 29 11 (nI 0)) 38 (aFill (M 38) 12 (nI 0))) 37 1 (nI 0)) 29 7 = _
    simp (disch := decide) only [mW1_k, mW1_s, mW1_c, mUp_at, mUp_ne]
  have c3_8 : M22 29 8 = nI 0 := by
    show (mW1 (mUp (mW1 (mW1 (mW1 (mW1 (mW1 (mUp (mUp (mUp (mW1 (mW1 (mW1 (mW1 (mW1 (mW1 (mW1 (mUp (mW1 (mW1 (mW1 (mW1 M 26 3 (nI 0)) 26 4 (nI 0)) 26 5 (nI 0)) 26 6 (nI 0)) 28 (aFill (M 28) 10 (-1))) 27 1 (nI 0)) 27 2 (-1)) 27 3 (-1)) 27 4 (-1)) 27 5 (nI 0)) 27 6 (nI 0)) 27 7 (-1)) 31 (aFill (M 31) 4 (nI 0))) 32 (aFill (M 32) 4 (nI 0))) 36 (aFill (M 36) 2 (nI 0))) 29 7 (nI 0)) 29 8 (nI 0)) 29 9 (nI 4)) 29 10 (nI 0)) 29 11 (nI 0)) 38 (aFill (M 38) 12 (nI 0))) 37 1 (nI 0)) 29 8 = _
    simp (disch := decide) only [mW1_k, mW1_s, mW1_c, mUp_at, mUp_ne]
  have c3_9 : M22 29 9 = nI 4 := by
    show (mW1 (mUp (mW1 (mW1 (mW1 (mW1 (mW1 (mUp (mUp (mUp (mW1 (mW1 (mW1 (mW1 (mW1 (mW1 (mW1 (mUp (mW1 (mW1 (mW1 (mW1 M 26 3 (nI 0)) 26 4 (nI 0)) 26 5 (nI 0)) 26 6 (nI 0)) 28 (aFill (M 28) 10 (-1))) 27 1 (nI 0)) 27 2 (-1)) 27 3 (-1)) 27 4 (-1)) 27 5 (nI 0)) 27 6 (nI 0)) 27 7 (-1)) 31 (aFill (M 31) 4 (nI 0))) 32 (aFill (M 32) 4 (nI 0))) 36 (aFill (M 36) 2 (nI 0))) 29 7 (nI 0)) 29 8 (nI 0)) 29 9 (nI 4)) 29 10 (nI 0)) 29 11 (nI 0)) 38 (aFill (M 38) 12 (nI 0))) 37 1 (nI 0)) 29 9 = _
    simp (disch := decide) only [mW1_k, mW1_s, mW1_c, mUp_at, mUp_ne]
  have c3_10 : M22 29 10 = nI 0 := by
    show (mW1 (mUp (mW1 (mW1 (mW1 (mW1 (mW1 (mUp (mUp (mUp (mW1 (mW1 (mW1 (mW1 (mW1 (mW1 (mW1 (mUp (mW1 (mW1 (mW1 (mW1 M 26 3 (nI 0)) 26 4 (nI 0)) 26 5 (nI 0)) 26 6 (nI 0)) 28 (aFill (M 28) 10 (-1))) 27 1 (nI 0)) 27 2 (-1)) 27 3 (-1)) 27 4 (-1)) 27 5 (nI 0)) 27 6 (nI 0)) 27 7 (-1)) 31 (aFill (M 31) 4 (nI 0))) 32 (aFill (M 32) 4 (nI 0))) 36 (aFill (M 36) 2 (nI 0))) 29 7 (nI 0)) 29 8 (nI 0)) 29 9 (nI 4)) 29 10 (nI 0)) 29 11 (nI 0)) 38 (aFill (M 38) 12 (nI 0))) 37 1 (nI 0)) 29 10 = _
    simp (disch := decide) only [mW1_k, mW1_s, mW1_c, mUp_at, mUp_ne]
  have c3_11 : M22 29 11 = nI 0 := by
    show (mW1 (mUp (mW1 (mW1 (mW1 (mW1 (mW1 (mUp (mUp (mUp (mW1 (mW1 (mW1 (mW1 (mW1 (mW1 (mW1 (mUp (mW1 (mW1 (mW1 (mW1 M 26 3 (nI 0)) 26 4 (nI 0)) 26 5 (nI 0)) 26 6 (nI 0)) 28 (aFill (M 28) 10 (-1))) 27 1 (nI 0)) 27 2 (-1)) 27 3 (-1)) 27 4 (-1)) 27 5 (nI 0)) 27 6 (nI 0)) 27 7 (-1)) 31 (aFill (M 31) 4 (nI 0))) 32 (aFill (M 32) 4 (nI 0))) 36 (aFill (M 36) 2 (nI 0))) 29 7 (nI 0)) 29 8 (nI 0)) 29 9 (nI 4)) 29 10 (nI 0)) 29 11 (nI 0)) 38 (aFill (M 38) 12 (nI 0))) 37 1 (nI 0)) 29 11 = _
    simp (disch := decide) only [mW1_k, mW1_s, mW1_c, mUp_at, mUp_ne]
  have c11_1 : M22 37 1 = nI 0 := by
    show (mW1 (mUp (mW1 (mW1 (mW1 (mW1 (mW1 (mUp (mUp (mUp (mW1 (mW1 (mW1 (mW1 (mW1 (mW1 (mW1 (mUp (mW1 (mW1 (mW1 (mW1 M 26 3 (nI 0)) 26 4 (nI 0)) 26 5 (nI 0)) 26 6 (nI 0)) 28 (aFill (M 28) 10 (-1))) 27 1 (nI 0)) 27 2 (-1)) 27 3 (-1)) 27 4 (-1)) 27 5 (nI 0)) 27 6 (nI 0)) 27 7 (-1)) 31 (aFill (M 31) 4 (nI 0))) 32 (aFill (M 32) 4 (nI 0))) 36 (aFill (M 36) 2 (nI 0))) 29 7 (nI 0)) 29 8 (nI 0)) 29 9 (nI 4)) 29 10 (nI 0)) 29 11 (nI 0)) 38 (aFill (M 38) 12 (nI 0))) 37 1 (nI 0)) 37 1 = _
    simp (disch := decide) only [mW1_k, mW1_s, mW1_c, mUp_at, mUp_ne]
  have a2 : M22 28 = aFill (M 28) 10 (-1) := by
    show (mW1 (mUp (mW1 (mW1 (mW1 (mW1 (mW1 (mUp (mUp (mUp (mW1 (mW1 (mW1 (mW1 (mW1 (mW1 (mW1 (mUp (mW1 (mW1 (mW1 (mW1 M 26 3 (nI 0)) 26 4 (nI 0)) 26 5 (nI 0)) 26 6 (nI 0)) 28 (aFill (M 28) 10 (-1))) 27 1 (nI 0)) 27 2 (-1)) 27 3 (-1)) 27 4 (-1)) 27 5 (nI 0)) 27 6 (nI 0)) 27 7 (-1)) 31 (aFill (M 31) 4 (nI 0))) 32 (aFill (M 32) 4 (nI 0))) 36 (aFill (M 36) 2 (nI 0))) 29 7 (nI 0)) 29 8 (nI 0)) 29 9 (nI 4)) 29 10 (nI 0)) 29 11 (nI 0)) 38 (aFill (M 38) 12 (nI 0))) 37 1 (nI 0)) 28 = _
    simp (disch := decide) only [mW1_k, mW1_s, mW1_c, mUp_at, mUp_ne]
  have a5 : M22 31 = aFill (M 31) 4 (nI 0) := by
    show (mW1 (mUp (mW1 (mW1 (mW1 (mW1 (mW1 (mUp (mUp (mUp (mW1 (mW1 (mW1 (mW1 (mW1 (mW1 (mW1 (mUp (mW1 (mW1 (mW1 (mW1 M 26 3 (nI 0)) 26 4 (nI 0)) 26 5 (nI 0)) 26 6 (nI 0)) 28 (aFill (M 28) 10 (-1))) 27 1 (nI 0)) 27 2 (-1)) 27 3 (-1)) 27 4 (-1)) 27 5 (nI 0)) 27 6 (nI 0)) 27 7 (-1)) 31 (aFill (M 31) 4 (nI 0))) 32 (aFill (M 32) 4 (nI 0))) 36 (aFill (M 36) 2 (nI 0))) 29 7 (nI 0)) 29 8 (nI 0)) 29 9 (nI 4)) 29 10 (nI 0)) 29 11 (nI 0)) 38 (aFill (M 38) 12 (nI 0))) 37 1 (nI 0)) 31 = _
    simp (disch := decide) only [mW1_k, mW1_s, mW1_c, mUp_at, mUp_ne]
  have a6 : M22 32 = aFill (M 32) 4 (nI 0) := by
    show (mW1 (mUp (mW1 (mW1 (mW1 (mW1 (mW1 (mUp (mUp (mUp (mW1 (mW1 (mW1 (mW1 (mW1 (mW1 (mW1 (mUp (mW1 (mW1 (mW1 (mW1 M 26 3 (nI 0)) 26 4 (nI 0)) 26 5 (nI 0)) 26 6 (nI 0)) 28 (aFill (M 28) 10 (-1))) 27 1 (nI 0)) 27 2 (-1)) 27 3 (-1)) 27 4 (-1)) 27 5 (nI 0)) 27 6 (nI 0)) 27 7 (-1)) 31 (aFill (M 31) 4 (nI 0))) 32 (aFill (M 32) 4 (nI 0))) 36 (aFill (M 36) 2 (nI 0))) 29 7 (nI 0)) 29 8 (nI 0)) 29 9 (nI 4)) 29 10 (nI 0)) 29 11 (nI 0)) 38 (aFill (M 38) 12 (nI 0))) 37 1 (nI 0)) 32 = _
    simp (disch := decide) only [mW1_k, mW1_s, mW1_c, mUp_at, mUp_ne]
  have a10 : M22 36 = aFill (M 36) 2 (nI 0) := by
    show (mW1 (mUp (mW1 (mW1 (mW1 (mW1 (mW1 (mUp (mUp (mUp (mW1 (mW1 (mW1 (mW1 (mW1 (mW1 (mW1 (mUp (mW1 (mW1 (mW1 (mW1 M 26 3 (nI 0)) 26 4 (nI 0)) 26 5 (nI 0)) 26 6 (nI 0)) 28 (aFill (M 28) 10 (-1))) 27 1 (nI 0)) 27 2 (-1)) 27 3 (-1)) 27 4 (-1)) 27 5 (nI 0)) 27 6 (nI 0)) 27 7 (-1)) 31 (aFill (M 31) 4 (nI 0))) 32 (aFill (M 32) 4 (nI 0))) 36 (aFill (M 36) 2 (nI 0))) 29 7 (nI 0)) 29 8 (nI 0)) 29 9 (nI 4)) 29 10 (nI 0)) 29 11 (nI 0)) 38 (aFill (M 38) 12 (nI 0))) 37 1 (nI 0)) 36 = _
    simp (disch := decide) only [mW1_k, mW1_s, mW1_c, mUp_at, mUp_ne]
  have a12 : M22 38 = aFill (M 38) 12 (nI 0) := by
    show (mW1 (mUp (mW1 (mW1 (mW1 (mW1 (mW1 (mUp (mUp (mUp (mW1 (mW1 (mW1 (mW1 (mW1 (mW1 (mW1 (mUp (mW1 (mW1 (mW1 (mW1 M 26 3 (nI 0)) 26 4 (nI 0)) 26 5 (nI 0)) 26 6 (nI 0)) 28 (aFill (M 28) 10 (-1))) 27 1 (nI 0)) 27 2 (-1)) 27 3 (-1)) 27 4 (-1)) 27 5 (nI 0)) 27 6 (nI 0)) 27 7 (-1)) 31 (aFill (M 31) 4 (nI 0))) 32 (aFill (M 32) 4 (nI 0))) 36 (aFill (M 36) 2 (nI 0))) 29 7 (nI 0)) 29 8 (nI 0)) 29 9 (nI 4)) 29 10 (nI 0)) 29 11 (nI 0)) 38 (aFill (M 38) 12 (nI 0))) 37 1 (nI 0)) 38 = _
    simp (disch := decide) only [mW1_k, mW1_s, mW1_c, mUp_at, mUp_ne]
  refine hP M22 ⟨⟨⟨c0_3, c0_4, c0_5, c0_6⟩, ⟨c1_1, c1_5, c1_6, c1_2, c1_3, c1_4, c1_7, fun j hj => ?_⟩, ⟨⟨c3_7, c3_8, c3_9, c3_10, c3_11⟩, fun j hj => absurd hj (Nat.not_lt_zero _), fun j hj => ?_, fun j hj => ?_, fun i hi => absurd hi (Nat.not_lt_zero _), fun i hi => absurd hi (Nat.not_succ_le_zero _), ?_, ?_⟩, ⟨c11_1, fun q hq => (by cases hq), fun j hj => ?_⟩⟩, fun c hc => ?_⟩
  · rw [a2]
    exact if_pos hj
  · rw [a5]
    exact if_pos hj
  · rw [a6]
    exact (if_pos hj).trans (aHd_nil (dl := fun _ => 0) (q := j)).symm
  · rw [a10]
    exact if_pos (by decide)
  · rw [a10]
    exact if_pos (by decide)
  · rw [a12]
    exact if_pos hj
  · show (mW1 (mUp (mW1 (mW1 (mW1 (mW1 (mW1 (mUp (mUp (mUp (mW1 (mW1 (mW1 (mW1 (mW1 (mW1 (mW1 (mUp (mW1 (mW1 (mW1 (mW1 M 26 3 (nI 0)) 26 4 (nI 0)) 26 5 (nI 0)) 26 6 (nI 0)) 28 (aFill (M 28) 10 (-1))) 27 1 (nI 0)) 27 2 (-1)) 27 3 (-1)) 27 4 (-1)) 27 5 (nI 0)) 27 6 (nI 0)) 27 7 (-1)) 31 (aFill (M 31) 4 (nI 0))) 32 (aFill (M 32) 4 (nI 0))) 36 (aFill (M 36) 2 (nI 0))) 29 7 (nI 0)) 29 8 (nI 0)) 29 9 (nI 4)) 29 10 (nI 0)) 29 11 (nI 0)) 38 (aFill (M 38) 12 (nI 0))) 37 1 (nI 0)) c = _
    simp (disch := omega) only [mW1_c, mUp_ne]
theorem run_X5_clear : mRunOf 1 t_X5_clear f_X5_clear := fun g as M P hT => by
  obtain ⟨⟨t, y⟩, ⟨h1, rfl⟩, hP⟩ := hT
  refine ⟨Nat.le_of_ble_eq_true rfl, ?_⟩
  dsimp only at h1
  rcases h1 with rfl | rfl
  · exact cr_run_13 g P M (fun M' h => hP M' h)
  · exact cr_run_26 g P M (fun M' h => hP M' h)
theorem ok_X5_clear : mOK yX5_clear cX5_clear 1 (none) 3 t_X5_clear := mOK.of f_X5_clear (by decide) (fun _ => rfl) (fun g => mCodeOK kk_X5_clear) (fun g => mFldL fk_RX5 rfl) (fun g idx v h => by cases h) (fun g idx v h => by cases h) (mCalL (l := l_X5_clear) (List.forall_mem_cons.mpr ⟨mSite.V (idx := 48) ok_X1_begin (by decide) (by decide) rv_X1_begin wc_X1_begin wk_RX5_48 wi_X1_begin wl_X1_begin wn_RX1 wd_X1_begin, List.forall_mem_cons.mpr ⟨mSite.V (idx := 52) ok_X2_clear (by decide) (by decide) rv_X2_clear wc_X2_clear wk_RX5_52 wi_X2_clear wl_X2_clear wn_RX2 wd_X2_clear, List.forall_mem_cons.mpr ⟨mSite.V (idx := 53) ok_X3_clear (by decide) (by decide) rv_X3_clear wc_X3_clear wk_RX5_53 wi_X3_clear wl_X3_clear wn_RX3 wd_X3_clear, fun _ h => absurd h List.not_mem_nil⟩⟩⟩) (fun _ => rfl)) run_X5_clear
end
