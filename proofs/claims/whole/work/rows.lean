section
-- ===== PART A: goes FIRST, ahead of the names: the tables' words, and 'selects' of the private methods out of them =====
/-- a private method of a class that the tables say can be made, by its rows of tables_1 -/
def lw_okq (q : MethodName × Nat) : Prop := (q.1.cls ≠ "java/lang/invoke/MethodHandle" ∧ q.1.cls ≠ "java/lang/invoke/VarHandle") ∧ Cond.instantiable q.1.cls q.2 ∈ tables_1 ∧ Cond.privateMethod q.1 ∈ tables_1 ∧ Cond.instanceMethod q.1 ∈ tables_1
theorem lw_p0 : lw_okq (⟨"TrickHouse$Tape", "readWord", "()V"⟩, 7) := ⟨⟨by decide +kernel, by decide +kernel⟩, List.mem_of_getElem? (i := 30) (by decide +kernel), List.mem_of_getElem? (i := 377) (by decide +kernel), List.mem_of_getElem? (i := 378) (by decide +kernel)⟩
theorem lw_p1 : lw_okq (⟨"TrickHouse$Tape", "skipBlanks", "()V"⟩, 7) := ⟨⟨by decide +kernel, by decide +kernel⟩, List.mem_of_getElem? (i := 30) (by decide +kernel), List.mem_of_getElem? (i := 381) (by decide +kernel), List.mem_of_getElem? (i := 382) (by decide +kernel)⟩
theorem lw_p2 : lw_okq (⟨"TrickHouse$Tape", "skipLetters", "()V"⟩, 7) := ⟨⟨by decide +kernel, by decide +kernel⟩, List.mem_of_getElem? (i := 30) (by decide +kernel), List.mem_of_getElem? (i := 388) (by decide +kernel), List.mem_of_getElem? (i := 389) (by decide +kernel)⟩
theorem lw_p3 : lw_okq (⟨"TrickHouse$Tape", "isBetween", "(CC)Z"⟩, 7) := ⟨⟨by decide +kernel, by decide +kernel⟩, List.mem_of_getElem? (i := 30) (by decide +kernel), List.mem_of_getElem? (i := 392) (by decide +kernel), List.mem_of_getElem? (i := 393) (by decide +kernel)⟩
theorem lw_p4 : lw_okq (⟨"TrickHouse$Tape", "isText", "(Ljava/lang/String;I)Z"⟩, 7) := ⟨⟨by decide +kernel, by decide +kernel⟩, List.mem_of_getElem? (i := 30) (by decide +kernel), List.mem_of_getElem? (i := 409) (by decide +kernel), List.mem_of_getElem? (i := 410) (by decide +kernel)⟩
theorem lw_p5 : lw_okq (⟨"TrickHouse$Tape", "readNumber", "()V"⟩, 7) := ⟨⟨by decide +kernel, by decide +kernel⟩, List.mem_of_getElem? (i := 30) (by decide +kernel), List.mem_of_getElem? (i := 460) (by decide +kernel), List.mem_of_getElem? (i := 461) (by decide +kernel)⟩
theorem lw_p6 : lw_okq (⟨"TrickHouse$Tape", "readSuit", "(I)V"⟩, 7) := ⟨⟨by decide +kernel, by decide +kernel⟩, List.mem_of_getElem? (i := 30) (by decide +kernel), List.mem_of_getElem? (i := 464) (by decide +kernel), List.mem_of_getElem? (i := 465) (by decide +kernel)⟩
theorem lw_p7 : lw_okq (⟨"TrickHouse$Tape", "readEnd", "()V"⟩, 7) := ⟨⟨by decide +kernel, by decide +kernel⟩, List.mem_of_getElem? (i := 30) (by decide +kernel), List.mem_of_getElem? (i := 471) (by decide +kernel), List.mem_of_getElem? (i := 472) (by decide +kernel)⟩
theorem lw_p8 : lw_okq (⟨"TrickHouse", "refusalOf", "(II)I"⟩, 8) := ⟨⟨by decide +kernel, by decide +kernel⟩, List.mem_of_getElem? (i := 22) (by decide +kernel), List.mem_of_getElem? (i := 475) (by decide +kernel), List.mem_of_getElem? (i := 476) (by decide +kernel)⟩
theorem lw_p9 : lw_okq (⟨"TrickHouse", "isFair", "(III)Z"⟩, 8) := ⟨⟨by decide +kernel, by decide +kernel⟩, List.mem_of_getElem? (i := 22) (by decide +kernel), List.mem_of_getElem? (i := 506) (by decide +kernel), List.mem_of_getElem? (i := 507) (by decide +kernel)⟩
theorem lw_p10 : lw_okq (⟨"TrickHouse$Play", "strongerTrumps", "(I)I"⟩, 12) := ⟨⟨by decide +kernel, by decide +kernel⟩, List.mem_of_getElem? (i := 142) (by decide +kernel), List.mem_of_getElem? (i := 522) (by decide +kernel), List.mem_of_getElem? (i := 523) (by decide +kernel)⟩
theorem lw_p11 : lw_okq (⟨"TrickHouse", "openNow", "()I"⟩, 8) := ⟨⟨by decide +kernel, by decide +kernel⟩, List.mem_of_getElem? (i := 22) (by decide +kernel), List.mem_of_getElem? (i := 536) (by decide +kernel), List.mem_of_getElem? (i := 537) (by decide +kernel)⟩
theorem lw_p12 : lw_okq (⟨"TrickHouse$Table", "beginDeal", "(I)V"⟩, 7) := ⟨⟨by decide +kernel, by decide +kernel⟩, List.mem_of_getElem? (i := 91) (by decide +kernel), List.mem_of_getElem? (i := 601) (by decide +kernel), List.mem_of_getElem? (i := 602) (by decide +kernel)⟩
theorem lw_p13 : lw_okq (⟨"TrickHouse$Table", "pass", "()V"⟩, 7) := ⟨⟨by decide +kernel, by decide +kernel⟩, List.mem_of_getElem? (i := 91) (by decide +kernel), List.mem_of_getElem? (i := 620) (by decide +kernel), List.mem_of_getElem? (i := 621) (by decide +kernel)⟩
theorem lw_p14 : lw_okq (⟨"TrickHouse$Table", "endDeal", "()V"⟩, 7) := ⟨⟨by decide +kernel, by decide +kernel⟩, List.mem_of_getElem? (i := 91) (by decide +kernel), List.mem_of_getElem? (i := 637) (by decide +kernel), List.mem_of_getElem? (i := 638) (by decide +kernel)⟩
theorem lw_p15 : lw_okq (⟨"TrickHouse$Table", "playCard", "(I)V"⟩, 7) := ⟨⟨by decide +kernel, by decide +kernel⟩, List.mem_of_getElem? (i := 91) (by decide +kernel), List.mem_of_getElem? (i := 645) (by decide +kernel), List.mem_of_getElem? (i := 646) (by decide +kernel)⟩
def lw_privs_1 : List (MethodName × Nat) := [(⟨"TrickHouse$Tape", "readWord", "()V"⟩, 7), (⟨"TrickHouse$Tape", "skipBlanks", "()V"⟩, 7), (⟨"TrickHouse$Tape", "skipLetters", "()V"⟩, 7), (⟨"TrickHouse$Tape", "isBetween", "(CC)Z"⟩, 7), (⟨"TrickHouse$Tape", "isText", "(Ljava/lang/String;I)Z"⟩, 7), (⟨"TrickHouse$Tape", "readNumber", "()V"⟩, 7), (⟨"TrickHouse$Tape", "readSuit", "(I)V"⟩, 7), (⟨"TrickHouse$Tape", "readEnd", "()V"⟩, 7), (⟨"TrickHouse", "refusalOf", "(II)I"⟩, 8), (⟨"TrickHouse", "isFair", "(III)Z"⟩, 8), (⟨"TrickHouse$Play", "strongerTrumps", "(I)I"⟩, 12), (⟨"TrickHouse", "openNow", "()I"⟩, 8), (⟨"TrickHouse$Table", "beginDeal", "(I)V"⟩, 7), (⟨"TrickHouse$Table", "pass", "()V"⟩, 7), (⟨"TrickHouse$Table", "endDeal", "()V"⟩, 7), (⟨"TrickHouse$Table", "playCard", "(I)V"⟩, 7)]
theorem lw_r1 : ∀ q ∈ lw_privs_1, lw_okq q := List.forall_mem_cons.mpr ⟨lw_p0, List.forall_mem_cons.mpr ⟨lw_p1, List.forall_mem_cons.mpr ⟨lw_p2, List.forall_mem_cons.mpr ⟨lw_p3, List.forall_mem_cons.mpr ⟨lw_p4, List.forall_mem_cons.mpr ⟨lw_p5, List.forall_mem_cons.mpr ⟨lw_p6, List.forall_mem_cons.mpr ⟨lw_p7, List.forall_mem_cons.mpr ⟨lw_p8, List.forall_mem_cons.mpr ⟨lw_p9, List.forall_mem_cons.mpr ⟨lw_p10, List.forall_mem_cons.mpr ⟨lw_p11, List.forall_mem_cons.mpr ⟨lw_p12, List.forall_mem_cons.mpr ⟨lw_p13, List.forall_mem_cons.mpr ⟨lw_p14, List.forall_mem_cons.mpr ⟨lw_p15, fun _ h => absurd h List.not_mem_nil⟩⟩⟩⟩⟩⟩⟩⟩⟩⟩⟩⟩⟩⟩⟩⟩
theorem lw_p16 : lw_okq (⟨"TrickHouse$Table", "claim", "(I)V"⟩, 7) := ⟨⟨by decide +kernel, by decide +kernel⟩, List.mem_of_getElem? (i := 91) (by decide +kernel), List.mem_of_getElem? (i := 660) (by decide +kernel), List.mem_of_getElem? (i := 661) (by decide +kernel)⟩
theorem lw_p17 : lw_okq (⟨"TrickHouse", "goThrough", "(LTrickHouse$Table;I)V"⟩, 8) := ⟨⟨by decide +kernel, by decide +kernel⟩, List.mem_of_getElem? (i := 22) (by decide +kernel), List.mem_of_getElem? (i := 669) (by decide +kernel), List.mem_of_getElem? (i := 670) (by decide +kernel)⟩
theorem lw_p18 : lw_okq (⟨"TrickHouse", "writeLine", "(III)V"⟩, 8) := ⟨⟨by decide +kernel, by decide +kernel⟩, List.mem_of_getElem? (i := 22) (by decide +kernel), List.mem_of_getElem? (i := 682) (by decide +kernel), List.mem_of_getElem? (i := 683) (by decide +kernel)⟩
theorem lw_p19 : lw_okq (⟨"TrickHouse", "gainsOf", "(I)I"⟩, 8) := ⟨⟨by decide +kernel, by decide +kernel⟩, List.mem_of_getElem? (i := 22) (by decide +kernel), List.mem_of_getElem? (i := 920) (by decide +kernel), List.mem_of_getElem? (i := 921) (by decide +kernel)⟩
theorem lw_p20 : lw_okq (⟨"TrickHouse", "drawnMade", "(I)I"⟩, 8) := ⟨⟨by decide +kernel, by decide +kernel⟩, List.mem_of_getElem? (i := 22) (by decide +kernel), List.mem_of_getElem? (i := 932) (by decide +kernel), List.mem_of_getElem? (i := 933) (by decide +kernel)⟩
theorem lw_p21 : lw_okq (⟨"TrickHouse", "sheetAt", "(I)LTrickHouse$Sheet;"⟩, 8) := ⟨⟨by decide +kernel, by decide +kernel⟩, List.mem_of_getElem? (i := 22) (by decide +kernel), List.mem_of_getElem? (i := 955) (by decide +kernel), List.mem_of_getElem? (i := 956) (by decide +kernel)⟩
theorem lw_p22 : lw_okq (⟨"TrickHouse", "firstOtherwise", "(LTrickHouse$Sheet;)I"⟩, 8) := ⟨⟨by decide +kernel, by decide +kernel⟩, List.mem_of_getElem? (i := 22) (by decide +kernel), List.mem_of_getElem? (i := 963) (by decide +kernel), List.mem_of_getElem? (i := 964) (by decide +kernel)⟩
theorem lw_p23 : lw_okq (⟨"TrickHouse", "trumpsThatFit", "(LTrickHouse$Sheet;)I"⟩, 8) := ⟨⟨by decide +kernel, by decide +kernel⟩, List.mem_of_getElem? (i := 22) (by decide +kernel), List.mem_of_getElem? (i := 967) (by decide +kernel), List.mem_of_getElem? (i := 968) (by decide +kernel)⟩
theorem lw_p24 : lw_okq (⟨"TrickHouse", "wouldBeSo", "(LTrickHouse$Sheet;II)Z"⟩, 8) := ⟨⟨by decide +kernel, by decide +kernel⟩, List.mem_of_getElem? (i := 22) (by decide +kernel), List.mem_of_getElem? (i := 971) (by decide +kernel), List.mem_of_getElem? (i := 972) (by decide +kernel)⟩
theorem lw_p25 : lw_okq (⟨"TrickHouse", "rankingsThatFit", "(LTrickHouse$Sheet;)I"⟩, 8) := ⟨⟨by decide +kernel, by decide +kernel⟩, List.mem_of_getElem? (i := 22) (by decide +kernel), List.mem_of_getElem? (i := 976) (by decide +kernel), List.mem_of_getElem? (i := 977) (by decide +kernel)⟩
theorem lw_p26 : lw_okq (⟨"TrickHouseModel", "begins", "()V"⟩, 47) := ⟨⟨by decide +kernel, by decide +kernel⟩, List.mem_of_getElem? (i := 1019) (by decide +kernel), List.mem_of_getElem? (i := 1027) (by decide +kernel), List.mem_of_getElem? (i := 1028) (by decide +kernel)⟩
theorem lw_p27 : lw_okq (⟨"TrickHouseModel", "clears", "()V"⟩, 47) := ⟨⟨by decide +kernel, by decide +kernel⟩, List.mem_of_getElem? (i := 1019) (by decide +kernel), List.mem_of_getElem? (i := 1031) (by decide +kernel), List.mem_of_getElem? (i := 1032) (by decide +kernel)⟩
theorem lw_p28 : lw_okq (⟨"TrickHouseModel", "isLate", "()Z"⟩, 47) := ⟨⟨by decide +kernel, by decide +kernel⟩, List.mem_of_getElem? (i := 1019) (by decide +kernel), List.mem_of_getElem? (i := 1181) (by decide +kernel), List.mem_of_getElem? (i := 1182) (by decide +kernel)⟩
theorem lw_p29 : lw_okq (⟨"TrickHouseModel", "solved", "()I"⟩, 47) := ⟨⟨by decide +kernel, by decide +kernel⟩, List.mem_of_getElem? (i := 1019) (by decide +kernel), List.mem_of_getElem? (i := 1185) (by decide +kernel), List.mem_of_getElem? (i := 1186) (by decide +kernel)⟩
theorem lw_p30 : lw_okq (⟨"TrickHouseModel", "mayPlay", "()I"⟩, 47) := ⟨⟨by decide +kernel, by decide +kernel⟩, List.mem_of_getElem? (i := 1019) (by decide +kernel), List.mem_of_getElem? (i := 1189) (by decide +kernel), List.mem_of_getElem? (i := 1190) (by decide +kernel)⟩
theorem lw_p31 : lw_okq (⟨"TrickHouseModel", "trumpNow", "()I"⟩, 47) := ⟨⟨by decide +kernel, by decide +kernel⟩, List.mem_of_getElem? (i := 1019) (by decide +kernel), List.mem_of_getElem? (i := 1196) (by decide +kernel), List.mem_of_getElem? (i := 1197) (by decide +kernel)⟩
def lw_privs_2 : List (MethodName × Nat) := [(⟨"TrickHouse$Table", "claim", "(I)V"⟩, 7), (⟨"TrickHouse", "goThrough", "(LTrickHouse$Table;I)V"⟩, 8), (⟨"TrickHouse", "writeLine", "(III)V"⟩, 8), (⟨"TrickHouse", "gainsOf", "(I)I"⟩, 8), (⟨"TrickHouse", "drawnMade", "(I)I"⟩, 8), (⟨"TrickHouse", "sheetAt", "(I)LTrickHouse$Sheet;"⟩, 8), (⟨"TrickHouse", "firstOtherwise", "(LTrickHouse$Sheet;)I"⟩, 8), (⟨"TrickHouse", "trumpsThatFit", "(LTrickHouse$Sheet;)I"⟩, 8), (⟨"TrickHouse", "wouldBeSo", "(LTrickHouse$Sheet;II)Z"⟩, 8), (⟨"TrickHouse", "rankingsThatFit", "(LTrickHouse$Sheet;)I"⟩, 8), (⟨"TrickHouseModel", "begins", "()V"⟩, 47), (⟨"TrickHouseModel", "clears", "()V"⟩, 47), (⟨"TrickHouseModel", "isLate", "()Z"⟩, 47), (⟨"TrickHouseModel", "solved", "()I"⟩, 47), (⟨"TrickHouseModel", "mayPlay", "()I"⟩, 47), (⟨"TrickHouseModel", "trumpNow", "()I"⟩, 47)]
theorem lw_r2 : ∀ q ∈ lw_privs_2, lw_okq q := List.forall_mem_cons.mpr ⟨lw_p16, List.forall_mem_cons.mpr ⟨lw_p17, List.forall_mem_cons.mpr ⟨lw_p18, List.forall_mem_cons.mpr ⟨lw_p19, List.forall_mem_cons.mpr ⟨lw_p20, List.forall_mem_cons.mpr ⟨lw_p21, List.forall_mem_cons.mpr ⟨lw_p22, List.forall_mem_cons.mpr ⟨lw_p23, List.forall_mem_cons.mpr ⟨lw_p24, List.forall_mem_cons.mpr ⟨lw_p25, List.forall_mem_cons.mpr ⟨lw_p26, List.forall_mem_cons.mpr ⟨lw_p27, List.forall_mem_cons.mpr ⟨lw_p28, List.forall_mem_cons.mpr ⟨lw_p29, List.forall_mem_cons.mpr ⟨lw_p30, List.forall_mem_cons.mpr ⟨lw_p31, fun _ h => absurd h List.not_mem_nil⟩⟩⟩⟩⟩⟩⟩⟩⟩⟩⟩⟩⟩⟩⟩⟩
theorem lw_p32 : lw_okq (⟨"TrickHouseModel", "tried", "(I)I"⟩, 47) := ⟨⟨by decide +kernel, by decide +kernel⟩, List.mem_of_getElem? (i := 1019) (by decide +kernel), List.mem_of_getElem? (i := 1213) (by decide +kernel), List.mem_of_getElem? (i := 1214) (by decide +kernel)⟩
theorem lw_p33 : lw_okq (⟨"TrickHouseModel", "plays", "(I)V"⟩, 47) := ⟨⟨by decide +kernel, by decide +kernel⟩, List.mem_of_getElem? (i := 1019) (by decide +kernel), List.mem_of_getElem? (i := 1217) (by decide +kernel), List.mem_of_getElem? (i := 1218) (by decide +kernel)⟩
theorem lw_p34 : lw_okq (⟨"TrickHouseModel", "wonBy", "(III)I"⟩, 47) := ⟨⟨by decide +kernel, by decide +kernel⟩, List.mem_of_getElem? (i := 1019) (by decide +kernel), List.mem_of_getElem? (i := 1221) (by decide +kernel), List.mem_of_getElem? (i := 1222) (by decide +kernel)⟩
theorem lw_p35 : lw_okq (⟨"TrickHouseModel", "leads", "(I)V"⟩, 47) := ⟨⟨by decide +kernel, by decide +kernel⟩, List.mem_of_getElem? (i := 1019) (by decide +kernel), List.mem_of_getElem? (i := 1225) (by decide +kernel), List.mem_of_getElem? (i := 1226) (by decide +kernel)⟩
theorem lw_p36 : lw_okq (⟨"TrickHouseModel", "forTurn", "(I)I"⟩, 47) := ⟨⟨by decide +kernel, by decide +kernel⟩, List.mem_of_getElem? (i := 1019) (by decide +kernel), List.mem_of_getElem? (i := 1229) (by decide +kernel), List.mem_of_getElem? (i := 1230) (by decide +kernel)⟩
theorem lw_p37 : lw_okq (⟨"TrickHouseModel", "read", "()I"⟩, 47) := ⟨⟨by decide +kernel, by decide +kernel⟩, List.mem_of_getElem? (i := 1019) (by decide +kernel), List.mem_of_getElem? (i := 1255) (by decide +kernel), List.mem_of_getElem? (i := 1256) (by decide +kernel)⟩
theorem lw_p38 : lw_okq (⟨"TrickHouseModel", "next", "()V"⟩, 47) := ⟨⟨by decide +kernel, by decide +kernel⟩, List.mem_of_getElem? (i := 1019) (by decide +kernel), List.mem_of_getElem? (i := 1259) (by decide +kernel), List.mem_of_getElem? (i := 1260) (by decide +kernel)⟩
theorem lw_p39 : lw_okq (⟨"TrickHouseModel", "byteAt", "(I)I"⟩, 47) := ⟨⟨by decide +kernel, by decide +kernel⟩, List.mem_of_getElem? (i := 1019) (by decide +kernel), List.mem_of_getElem? (i := 1263) (by decide +kernel), List.mem_of_getElem? (i := 1264) (by decide +kernel)⟩
theorem lw_p40 : lw_okq (⟨"TrickHouseModel", "suitRead", "()I"⟩, 47) := ⟨⟨by decide +kernel, by decide +kernel⟩, List.mem_of_getElem? (i := 1019) (by decide +kernel), List.mem_of_getElem? (i := 1267) (by decide +kernel), List.mem_of_getElem? (i := 1268) (by decide +kernel)⟩
theorem lw_p41 : lw_okq (⟨"TrickHouseModel", "isWord", "(Ljava/lang/String;)Z"⟩, 47) := ⟨⟨by decide +kernel, by decide +kernel⟩, List.mem_of_getElem? (i := 1019) (by decide +kernel), List.mem_of_getElem? (i := 1272) (by decide +kernel), List.mem_of_getElem? (i := 1273) (by decide +kernel)⟩
theorem lw_p42 : lw_okq (⟨"TrickHouseModel", "wordRead", "()I"⟩, 47) := ⟨⟨by decide +kernel, by decide +kernel⟩, List.mem_of_getElem? (i := 1019) (by decide +kernel), List.mem_of_getElem? (i := 1282) (by decide +kernel), List.mem_of_getElem? (i := 1283) (by decide +kernel)⟩
theorem lw_p43 : lw_okq (⟨"TrickHouseModel", "takes", "(II)I"⟩, 47) := ⟨⟨by decide +kernel, by decide +kernel⟩, List.mem_of_getElem? (i := 1019) (by decide +kernel), List.mem_of_getElem? (i := 1298) (by decide +kernel), List.mem_of_getElem? (i := 1299) (by decide +kernel)⟩
theorem lw_p44 : lw_okq (⟨"TrickHouseModel", "isTime", "(I)Z"⟩, 47) := ⟨⟨by decide +kernel, by decide +kernel⟩, List.mem_of_getElem? (i := 1019) (by decide +kernel), List.mem_of_getElem? (i := 1303) (by decide +kernel), List.mem_of_getElem? (i := 1304) (by decide +kernel)⟩
theorem lw_p45 : lw_okq (⟨"TrickHouseModel", "isNumber", "(I)Z"⟩, 47) := ⟨⟨by decide +kernel, by decide +kernel⟩, List.mem_of_getElem? (i := 1019) (by decide +kernel), List.mem_of_getElem? (i := 1307) (by decide +kernel), List.mem_of_getElem? (i := 1308) (by decide +kernel)⟩
theorem lw_p46 : lw_okq (⟨"TrickHouseModel", "isFair", "(I)Z"⟩, 47) := ⟨⟨by decide +kernel, by decide +kernel⟩, List.mem_of_getElem? (i := 1019) (by decide +kernel), List.mem_of_getElem? (i := 1311) (by decide +kernel), List.mem_of_getElem? (i := 1312) (by decide +kernel)⟩
theorem lw_p47 : lw_okq (⟨"TrickHouseModel", "doesAct", "(III)V"⟩, 47) := ⟨⟨by decide +kernel, by decide +kernel⟩, List.mem_of_getElem? (i := 1019) (by decide +kernel), List.mem_of_getElem? (i := 1316) (by decide +kernel), List.mem_of_getElem? (i := 1317) (by decide +kernel)⟩
def lw_privs_3 : List (MethodName × Nat) := [(⟨"TrickHouseModel", "tried", "(I)I"⟩, 47), (⟨"TrickHouseModel", "plays", "(I)V"⟩, 47), (⟨"TrickHouseModel", "wonBy", "(III)I"⟩, 47), (⟨"TrickHouseModel", "leads", "(I)V"⟩, 47), (⟨"TrickHouseModel", "forTurn", "(I)I"⟩, 47), (⟨"TrickHouseModel", "read", "()I"⟩, 47), (⟨"TrickHouseModel", "next", "()V"⟩, 47), (⟨"TrickHouseModel", "byteAt", "(I)I"⟩, 47), (⟨"TrickHouseModel", "suitRead", "()I"⟩, 47), (⟨"TrickHouseModel", "isWord", "(Ljava/lang/String;)Z"⟩, 47), (⟨"TrickHouseModel", "wordRead", "()I"⟩, 47), (⟨"TrickHouseModel", "takes", "(II)I"⟩, 47), (⟨"TrickHouseModel", "isTime", "(I)Z"⟩, 47), (⟨"TrickHouseModel", "isNumber", "(I)Z"⟩, 47), (⟨"TrickHouseModel", "isFair", "(I)Z"⟩, 47), (⟨"TrickHouseModel", "doesAct", "(III)V"⟩, 47)]
theorem lw_r3 : ∀ q ∈ lw_privs_3, lw_okq q := List.forall_mem_cons.mpr ⟨lw_p32, List.forall_mem_cons.mpr ⟨lw_p33, List.forall_mem_cons.mpr ⟨lw_p34, List.forall_mem_cons.mpr ⟨lw_p35, List.forall_mem_cons.mpr ⟨lw_p36, List.forall_mem_cons.mpr ⟨lw_p37, List.forall_mem_cons.mpr ⟨lw_p38, List.forall_mem_cons.mpr ⟨lw_p39, List.forall_mem_cons.mpr ⟨lw_p40, List.forall_mem_cons.mpr ⟨lw_p41, List.forall_mem_cons.mpr ⟨lw_p42, List.forall_mem_cons.mpr ⟨lw_p43, List.forall_mem_cons.mpr ⟨lw_p44, List.forall_mem_cons.mpr ⟨lw_p45, List.forall_mem_cons.mpr ⟨lw_p46, List.forall_mem_cons.mpr ⟨lw_p47, fun _ h => absurd h List.not_mem_nil⟩⟩⟩⟩⟩⟩⟩⟩⟩⟩⟩⟩⟩⟩⟩⟩
theorem lw_p48 : lw_okq (⟨"TrickHouseModel", "deals", "(I)V"⟩, 47) := ⟨⟨by decide +kernel, by decide +kernel⟩, List.mem_of_getElem? (i := 1019) (by decide +kernel), List.mem_of_getElem? (i := 1320) (by decide +kernel), List.mem_of_getElem? (i := 1321) (by decide +kernel)⟩
theorem lw_p49 : lw_okq (⟨"TrickHouseModel", "bids", "(II)V"⟩, 47) := ⟨⟨by decide +kernel, by decide +kernel⟩, List.mem_of_getElem? (i := 1019) (by decide +kernel), List.mem_of_getElem? (i := 1325) (by decide +kernel), List.mem_of_getElem? (i := 1326) (by decide +kernel)⟩
theorem lw_p50 : lw_okq (⟨"TrickHouseModel", "passes", "()V"⟩, 47) := ⟨⟨by decide +kernel, by decide +kernel⟩, List.mem_of_getElem? (i := 1019) (by decide +kernel), List.mem_of_getElem? (i := 1329) (by decide +kernel), List.mem_of_getElem? (i := 1330) (by decide +kernel)⟩
theorem lw_p51 : lw_okq (⟨"TrickHouseModel", "endsDeal", "(Z)V"⟩, 47) := ⟨⟨by decide +kernel, by decide +kernel⟩, List.mem_of_getElem? (i := 1019) (by decide +kernel), List.mem_of_getElem? (i := 1333) (by decide +kernel), List.mem_of_getElem? (i := 1334) (by decide +kernel)⟩
theorem lw_p52 : lw_okq (⟨"TrickHouseModel", "goesThrough", "(I)V"⟩, 47) := ⟨⟨by decide +kernel, by decide +kernel⟩, List.mem_of_getElem? (i := 1019) (by decide +kernel), List.mem_of_getElem? (i := 1347) (by decide +kernel), List.mem_of_getElem? (i := 1348) (by decide +kernel)⟩
theorem lw_p53 : lw_okq (⟨"TrickHouseModel", "textOf", "(I)Ljava/lang/String;"⟩, 47) := ⟨⟨by decide +kernel, by decide +kernel⟩, List.mem_of_getElem? (i := 1019) (by decide +kernel), List.mem_of_getElem? (i := 1359) (by decide +kernel), List.mem_of_getElem? (i := 1360) (by decide +kernel)⟩
theorem lw_p54 : lw_okq (⟨"TrickHouseModel", "answer", "(I)I"⟩, 47) := ⟨⟨by decide +kernel, by decide +kernel⟩, List.mem_of_getElem? (i := 1019) (by decide +kernel), List.mem_of_getElem? (i := 1424) (by decide +kernel), List.mem_of_getElem? (i := 1425) (by decide +kernel)⟩
theorem lw_p55 : lw_okq (⟨"TrickHouseModel", "byLot", "(I)I"⟩, 47) := ⟨⟨by decide +kernel, by decide +kernel⟩, List.mem_of_getElem? (i := 1019) (by decide +kernel), List.mem_of_getElem? (i := 1463) (by decide +kernel), List.mem_of_getElem? (i := 1464) (by decide +kernel)⟩
theorem lw_p56 : lw_okq (⟨"TrickHouseModel", "isSo", "(III)Z"⟩, 47) := ⟨⟨by decide +kernel, by decide +kernel⟩, List.mem_of_getElem? (i := 1019) (by decide +kernel), List.mem_of_getElem? (i := 1486) (by decide +kernel), List.mem_of_getElem? (i := 1487) (by decide +kernel)⟩
theorem lw_p57 : lw_okq (⟨"TrickHouseModel", "logRow", "(I)[I"⟩, 47) := ⟨⟨by decide +kernel, by decide +kernel⟩, List.mem_of_getElem? (i := 1019) (by decide +kernel), List.mem_of_getElem? (i := 1498) (by decide +kernel), List.mem_of_getElem? (i := 1499) (by decide +kernel)⟩
def lw_privs_4 : List (MethodName × Nat) := [(⟨"TrickHouseModel", "deals", "(I)V"⟩, 47), (⟨"TrickHouseModel", "bids", "(II)V"⟩, 47), (⟨"TrickHouseModel", "passes", "()V"⟩, 47), (⟨"TrickHouseModel", "endsDeal", "(Z)V"⟩, 47), (⟨"TrickHouseModel", "goesThrough", "(I)V"⟩, 47), (⟨"TrickHouseModel", "textOf", "(I)Ljava/lang/String;"⟩, 47), (⟨"TrickHouseModel", "answer", "(I)I"⟩, 47), (⟨"TrickHouseModel", "byLot", "(I)I"⟩, 47), (⟨"TrickHouseModel", "isSo", "(III)Z"⟩, 47), (⟨"TrickHouseModel", "logRow", "(I)[I"⟩, 47)]
theorem lw_r4 : ∀ q ∈ lw_privs_4, lw_okq q := List.forall_mem_cons.mpr ⟨lw_p48, List.forall_mem_cons.mpr ⟨lw_p49, List.forall_mem_cons.mpr ⟨lw_p50, List.forall_mem_cons.mpr ⟨lw_p51, List.forall_mem_cons.mpr ⟨lw_p52, List.forall_mem_cons.mpr ⟨lw_p53, List.forall_mem_cons.mpr ⟨lw_p54, List.forall_mem_cons.mpr ⟨lw_p55, List.forall_mem_cons.mpr ⟨lw_p56, List.forall_mem_cons.mpr ⟨lw_p57, fun _ h => absurd h List.not_mem_nil⟩⟩⟩⟩⟩⟩⟩⟩⟩⟩
def lw_privs : List (MethodName × Nat) := lw_privs_1 ++ (lw_privs_2 ++ (lw_privs_3 ++ (lw_privs_4)))
def lw_tbl : List Cond := k2_sels lw_privs ++ tables_1
theorem lw_privs_ok : ∀ q ∈ lw_privs, lw_okq q := by
  show ∀ q ∈ lw_privs_1 ++ (lw_privs_2 ++ (lw_privs_3 ++ (lw_privs_4))), lw_okq q
  exact List.forall_mem_append.mpr ⟨lw_r1, List.forall_mem_append.mpr ⟨lw_r2, List.forall_mem_append.mpr ⟨lw_r3, lw_r4⟩⟩⟩
-- ===== end of PART A; then your names; then what follows =====
/-! ===== BEGIN words of one list among another's, by their places ===== -/
theorem goodIn_r {big : List Cond} (ws : List Cond) (ps : List Nat) (hp : ws = ps.filterMap (fun i => big[i]?)) (h : ws.all goodWord = true) : GoodIn big ws := by
  intro w hw
  have h1 := List.all_eq_true.mp h w hw
  rw [hp] at hw
  obtain ⟨i, -, hi⟩ := List.mem_filterMap.mp hw
  have hm : w ∈ big := by first | exact List.mem_of_getElem? hi | exact List.getElem?_mem hi
  exact ⟨hm, good_of_word h1⟩
theorem goodIn_app {big a b : List Cond} (ha : GoodIn big a) (hb : GoodIn big b) : GoodIn big (a ++ b) := fun w h => (List.mem_append.mp h).elim (ha w) (hb w)
theorem goodIn_ca {big a b : List Cond} {c : Cond} (ha : GoodIn big (c :: a)) (hb : GoodIn big b) : GoodIn big (c :: (a ++ b)) := fun w h => (List.mem_cons.mp h).elim (fun e => ha w (List.mem_cons.mpr (Or.inl e))) (fun h => (List.mem_append.mp h).elim (fun h => ha w (List.mem_cons.mpr (Or.inr h))) (hb w))
theorem goodIn_sub {big ws : List Cond} (hm : ∀ w ∈ ws, w ∈ big) (h : ws.all goodWord = true) : GoodIn big ws := fun w hw => ⟨hm w hw, good_of_word (List.all_eq_true.mp h w hw)⟩
/-! ===== END ===== -/
/-! ===== BEGIN printed: names, fields, word lists, decode rows ===== -/
def RX0 : String := "TrickHouse$ActLog"
def TX0 : u_T := fun k => match k with
  | 0 => ("TrickHouse$ActLog", "words", "[I", true)
  | 1 => ("TrickHouse$ActLog", "numbers", "[I", true)
  | 2 => ("TrickHouse$ActLog", "suits", "[I", true)
  | 3 => ("TrickHouse$ActLog", "players", "[I", true)
  | _ => ("TrickHouse$ActLog", "count", "I", false)
def tyX0 : Nat → FieldType := fun k => match k with
  | 0 => .array .int
  | 1 => .array .int
  | 2 => .array .int
  | 3 => .array .int
  | _ => .int
abbrev wsX00 : List Cond := u_ws RX0 TX0 5
theorem nmX0 : ∀ a, a < 5 → ∀ b, b < 5 → a ≠ b → (TX0 a).2.1 ≠ (TX0 b).2.1 := by decide +kernel
theorem tyX0_ok : ∀ k, k < 5 → parseFieldDescriptor (TX0 k).2.2.1 = some (tyX0 k) := by decide +kernel
abbrev cX0_init : ByteArray := prog_2_method_1_code
def yX0_init : MethodName := ⟨RX0, "<init>", "()V"⟩
abbrev cX0_add : ByteArray := prog_2_method_2_code
def yX0_add : MethodName := ⟨RX0, "add", "(IIII)V"⟩
abbrev cX0_become : ByteArray := prog_2_method_3_code
def yX0_become : MethodName := ⟨RX0, "become", "(LTrickHouse$ActLog;)V"⟩
def RX1 : String := "TrickHouse$Bids"
def TX1 : u_T := fun k => match k with
  | 0 => ("TrickHouse$Bids", "firstNamers", "[I", true)
  | 1 => ("TrickHouse$Bids", "turn", "I", false)
  | 2 => ("TrickHouse$Bids", "number", "I", false)
  | 3 => ("TrickHouse$Bids", "trump", "I", false)
  | 4 => ("TrickHouse$Bids", "side", "I", false)
  | 5 => ("TrickHouse$Bids", "doubles", "I", false)
  | 6 => ("TrickHouse$Bids", "passes", "I", false)
  | _ => ("TrickHouse$Bids", "declarer", "I", false)
def tyX1 : Nat → FieldType := fun k => match k with
  | 0 => .array .int
  | 1 => .int
  | 2 => .int
  | 3 => .int
  | 4 => .int
  | 5 => .int
  | 6 => .int
  | _ => .int
abbrev wsX10 : List Cond := u_ws RX1 TX1 8
theorem nmX1 : ∀ a, a < 8 → ∀ b, b < 8 → a ≠ b → (TX1 a).2.1 ≠ (TX1 b).2.1 := by decide +kernel
theorem tyX1_ok : ∀ k, k < 8 → parseFieldDescriptor (TX1 k).2.2.1 = some (tyX1 k) := by decide +kernel
abbrev cX1_init : ByteArray := prog_3_method_1_code
def yX1_init : MethodName := ⟨RX1, "<init>", "()V"⟩
abbrev cX1_begin : ByteArray := prog_3_method_2_code
def yX1_begin : MethodName := ⟨RX1, "begin", "(I)V"⟩
abbrev cX1_isAbove : ByteArray := prog_3_method_3_code
def yX1_isAbove : MethodName := ⟨RX1, "isAbove", "(II)Z"⟩
abbrev cX1_mayDouble : ByteArray := prog_3_method_4_code
def yX1_mayDouble : MethodName := ⟨RX1, "mayDouble", "()Z"⟩
abbrev cX1_mayRedouble : ByteArray := prog_3_method_5_code
def yX1_mayRedouble : MethodName := ⟨RX1, "mayRedouble", "()Z"⟩
abbrev cX1_bid : ByteArray := prog_3_method_6_code
def yX1_bid : MethodName := ⟨RX1, "bid", "(II)V"⟩
abbrev cX1_redoubleOrDouble : ByteArray := prog_3_method_7_code
def yX1_redoubleOrDouble : MethodName := ⟨RX1, "redoubleOrDouble", "()V"⟩
abbrev cX1_pass : ByteArray := prog_3_method_8_code
def yX1_pass : MethodName := ⟨RX1, "pass", "()V"⟩
abbrev cX1_hasContract : ByteArray := prog_3_method_9_code
def yX1_hasContract : MethodName := ⟨RX1, "hasContract", "()Z"⟩
abbrev cX1_nameDeclarer : ByteArray := prog_3_method_10_code
def yX1_nameDeclarer : MethodName := ⟨RX1, "nameDeclarer", "()V"⟩
def RX2 : String := "TrickHouse$Play"
def TX2 : u_T := fun k => match k with
  | 0 => ("TrickHouse$Play", "deck", "[I", true)
  | 1 => ("TrickHouse$Play", "dealt", "[I", true)
  | 2 => ("TrickHouse$Play", "hands", "[I", true)
  | 3 => ("TrickHouse$Play", "played", "[I", true)
  | 4 => ("TrickHouse$Play", "leaders", "[I", true)
  | 5 => ("TrickHouse$Play", "winners", "[I", true)
  | 6 => ("TrickHouse$Play", "won", "[I", true)
  | 7 => ("TrickHouse$Play", "count", "I", false)
  | 8 => ("TrickHouse$Play", "turn", "I", false)
  | 9 => ("TrickHouse$Play", "trump", "I", false)
  | 10 => ("TrickHouse$Play", "ranking", "I", false)
  | _ => ("TrickHouse$Play", "rule", "I", false)
def tyX2 : Nat → FieldType := fun k => match k with
  | 0 => .array .int
  | 1 => .array .int
  | 2 => .array .int
  | 3 => .array .int
  | 4 => .array .int
  | 5 => .array .int
  | 6 => .array .int
  | 7 => .int
  | 8 => .int
  | 9 => .int
  | 10 => .int
  | _ => .int
abbrev wsX20 : List Cond := u_ws RX2 TX2 12
theorem nmX2 : ∀ a, a < 12 → ∀ b, b < 12 → a ≠ b → (TX2 a).2.1 ≠ (TX2 b).2.1 := by decide +kernel
theorem tyX2_ok : ∀ k, k < 12 → parseFieldDescriptor (TX2 k).2.2.1 = some (tyX2 k) := by decide +kernel
abbrev cX2_init : ByteArray := prog_4_method_1_code
def yX2_init : MethodName := ⟨RX2, "<init>", "()V"⟩
abbrev cX2_clear : ByteArray := prog_4_method_2_code
def yX2_clear : MethodName := ⟨RX2, "clear", "()V"⟩
abbrev cX2_dealOut : ByteArray := prog_4_method_3_code
def yX2_dealOut : MethodName := ⟨RX2, "dealOut", "(I)V"⟩
abbrev cX2_begin : ByteArray := prog_4_method_4_code
def yX2_begin : MethodName := ⟨RX2, "begin", "(IIII)V"⟩
abbrev cX2_become : ByteArray := prog_4_method_5_code
def yX2_become : MethodName := ⟨RX2, "become", "(LTrickHouse$Play;)V"⟩
abbrev cX2_full : ByteArray := prog_4_method_6_code
def yX2_full : MethodName := ⟨RX2, "full", "()I"⟩
abbrev cX2_left : ByteArray := prog_4_method_7_code
def yX2_left : MethodName := ⟨RX2, "left", "()I"⟩
abbrev cX2_cardAt : ByteArray := prog_4_method_8_code
def yX2_cardAt : MethodName := ⟨RX2, "cardAt", "(I)I"⟩
abbrev cX2_allowed : ByteArray := prog_4_method_9_code
def yX2_allowed : MethodName := ⟨RX2, "allowed", "()I"⟩
abbrev cX2_strongerTrumps : ByteArray := prog_4_method_10_code
def yX2_strongerTrumps : MethodName := ⟨RX2, "strongerTrumps", "(I)I"⟩
abbrev cX2_lay : ByteArray := prog_4_method_11_code
def yX2_lay : MethodName := ⟨RX2, "lay", "(I)V"⟩
abbrev cX2_lift : ByteArray := prog_4_method_12_code
def yX2_lift : MethodName := ⟨RX2, "lift", "()V"⟩
abbrev cX2_addWon : ByteArray := prog_4_method_13_code
def yX2_addWon : MethodName := ⟨RX2, "addWon", "(II)V"⟩
abbrev cX2_winnerOf : ByteArray := prog_4_method_14_code
def yX2_winnerOf : MethodName := ⟨RX2, "winnerOf", "(III)I"⟩
def RX3 : String := "TrickHouse$Scores"
def TX3 : u_T := fun k => match k with
  | 0 => ("TrickHouse$Scores", "totals", "[I", true)
  | 1 => ("TrickHouse$Scores", "any", "Z", false)
  | 2 => ("TrickHouse$Scores", "made", "I", false)
  | 3 => ("TrickHouse$Scores", "number", "I", false)
  | 4 => ("TrickHouse$Scores", "trump", "I", false)
  | _ => ("TrickHouse$Scores", "doubles", "I", false)
def tyX3 : Nat → FieldType := fun k => match k with
  | 0 => .array .int
  | 1 => .boolean
  | 2 => .int
  | 3 => .int
  | 4 => .int
  | _ => .int
abbrev wsX30 : List Cond := u_ws RX3 TX3 6
theorem nmX3 : ∀ a, a < 6 → ∀ b, b < 6 → a ≠ b → (TX3 a).2.1 ≠ (TX3 b).2.1 := by decide +kernel
theorem tyX3_ok : ∀ k, k < 6 → parseFieldDescriptor (TX3 k).2.2.1 = some (tyX3 k) := by decide +kernel
abbrev cX3_init : ByteArray := prog_5_method_1_code
def yX3_init : MethodName := ⟨RX3, "<init>", "()V"⟩
abbrev cX3_clear : ByteArray := prog_5_method_2_code
def yX3_clear : MethodName := ⟨RX3, "clear", "()V"⟩
abbrev cX3_settle : ByteArray := prog_5_method_3_code
def yX3_settle : MethodName := ⟨RX3, "settle", "(LTrickHouse$Bids;I)V"⟩
abbrev cX3_totalOf : ByteArray := prog_5_method_4_code
def yX3_totalOf : MethodName := ⟨RX3, "totalOf", "(II)I"⟩
def RX4 : String := "TrickHouse$Sheet"
def TX4 : u_T := fun k => match k with
  | 0 => ("TrickHouse$Sheet", "items", "[I", true)
  | 1 => ("TrickHouse$Sheet", "sort", "I", false)
  | _ => ("TrickHouse$Sheet", "size", "I", false)
def tyX4 : Nat → FieldType := fun k => match k with
  | 0 => .array .int
  | 1 => .int
  | _ => .int
abbrev wsX40 : List Cond := u_ws RX4 TX4 3
theorem nmX4 : ∀ a, a < 3 → ∀ b, b < 3 → a ≠ b → (TX4 a).2.1 ≠ (TX4 b).2.1 := by decide +kernel
theorem tyX4_ok : ∀ k, k < 3 → parseFieldDescriptor (TX4 k).2.2.1 = some (tyX4 k) := by decide +kernel
abbrev cX4_init : ByteArray := prog_6_method_1_code
def yX4_init : MethodName := ⟨RX4, "<init>", "()V"⟩
abbrev cX4_isMissing : ByteArray := prog_6_method_2_code
def yX4_isMissing : MethodName := ⟨RX4, "isMissing", "()Z"⟩
abbrev cX4_become : ByteArray := prog_6_method_3_code
def yX4_become : MethodName := ⟨RX4, "become", "(II)V"⟩
abbrev cX4_holds : ByteArray := prog_6_method_4_code
def yX4_holds : MethodName := ⟨RX4, "holds", "(II)Z"⟩
def RX5 : String := "TrickHouse$Table"
def TX5 : u_T := fun k => match k with
  | 0 => ("TrickHouse$Table", "bids", "LTrickHouse$Bids;", true)
  | 1 => ("TrickHouse$Table", "play", "LTrickHouse$Play;", true)
  | 2 => ("TrickHouse$Table", "scores", "LTrickHouse$Scores;", true)
  | 3 => ("TrickHouse$Table", "phase", "I", false)
  | 4 => ("TrickHouse$Table", "dealer", "I", false)
  | 5 => ("TrickHouse$Table", "ranking", "I", false)
  | _ => ("TrickHouse$Table", "rule", "I", false)
def tyX5 : Nat → FieldType := fun k => match k with
  | 0 => .object "TrickHouse$Bids"
  | 1 => .object "TrickHouse$Play"
  | 2 => .object "TrickHouse$Scores"
  | 3 => .int
  | 4 => .int
  | 5 => .int
  | _ => .int
abbrev wsX50 : List Cond := u_ws RX5 TX5 7
theorem nmX5 : ∀ a, a < 7 → ∀ b, b < 7 → a ≠ b → (TX5 a).2.1 ≠ (TX5 b).2.1 := by decide +kernel
theorem tyX5_ok : ∀ k, k < 7 → parseFieldDescriptor (TX5 k).2.2.1 = some (tyX5 k) := by decide +kernel
abbrev cX5_init : ByteArray := prog_7_method_1_code
def yX5_init : MethodName := ⟨RX5, "<init>", "()V"⟩
abbrev cX5_clear : ByteArray := prog_7_method_2_code
def yX5_clear : MethodName := ⟨RX5, "clear", "()V"⟩
abbrev cX5_inTurn : ByteArray := prog_7_method_3_code
def yX5_inTurn : MethodName := ⟨RX5, "inTurn", "()I"⟩
abbrev cX5_isNearEnd : ByteArray := prog_7_method_4_code
def yX5_isNearEnd : MethodName := ⟨RX5, "isNearEnd", "()Z"⟩
abbrev cX5_isTimeFor : ByteArray := prog_7_method_5_code
def yX5_isTimeFor : MethodName := ⟨RX5, "isTimeFor", "(I)Z"⟩
abbrev cX5_perform : ByteArray := prog_7_method_6_code
def yX5_perform : MethodName := ⟨RX5, "perform", "(III)V"⟩
abbrev cX5_beginDeal : ByteArray := prog_7_method_7_code
def yX5_beginDeal : MethodName := ⟨RX5, "beginDeal", "(I)V"⟩
abbrev cX5_pass : ByteArray := prog_7_method_8_code
def yX5_pass : MethodName := ⟨RX5, "pass", "()V"⟩
abbrev cX5_playCard : ByteArray := prog_7_method_9_code
def yX5_playCard : MethodName := ⟨RX5, "playCard", "(I)V"⟩
abbrev cX5_claim : ByteArray := prog_7_method_10_code
def yX5_claim : MethodName := ⟨RX5, "claim", "(I)V"⟩
abbrev cX5_endDeal : ByteArray := prog_7_method_11_code
def yX5_endDeal : MethodName := ⟨RX5, "endDeal", "()V"⟩
abbrev cX5_standing : ByteArray := prog_7_method_12_code
def yX5_standing : MethodName := ⟨RX5, "standing", "(I)I"⟩
def RX6 : String := "TrickHouse$Tape"
def TX6 : u_T := fun k => match k with
  | 0 => ("TrickHouse$Tape", "bytes", "[I", true)
  | 1 => ("TrickHouse$Tape", "size", "I", false)
  | 2 => ("TrickHouse$Tape", "place", "I", false)
  | 3 => ("TrickHouse$Tape", "fault", "I", false)
  | 4 => ("TrickHouse$Tape", "word", "I", false)
  | 5 => ("TrickHouse$Tape", "number", "I", false)
  | _ => ("TrickHouse$Tape", "suit", "I", false)
def tyX6 : Nat → FieldType := fun k => match k with
  | 0 => .array .int
  | 1 => .int
  | 2 => .int
  | 3 => .int
  | 4 => .int
  | 5 => .int
  | _ => .int
abbrev wsX60 : List Cond := u_ws RX6 TX6 7
theorem nmX6 : ∀ a, a < 7 → ∀ b, b < 7 → a ≠ b → (TX6 a).2.1 ≠ (TX6 b).2.1 := by decide +kernel
theorem tyX6_ok : ∀ k, k < 7 → parseFieldDescriptor (TX6 k).2.2.1 = some (tyX6 k) := by decide +kernel
abbrev cX6_init : ByteArray := prog_8_method_1_code
def yX6_init : MethodName := ⟨RX6, "<init>", "()V"⟩
abbrev cX6_add : ByteArray := prog_8_method_2_code
def yX6_add : MethodName := ⟨RX6, "add", "(I)V"⟩
abbrev cX6_read : ByteArray := prog_8_method_3_code
def yX6_read : MethodName := ⟨RX6, "read", "()V"⟩
abbrev cX6_readWord : ByteArray := prog_8_method_4_code
def yX6_readWord : MethodName := ⟨RX6, "readWord", "()V"⟩
abbrev cX6_readNumber : ByteArray := prog_8_method_5_code
def yX6_readNumber : MethodName := ⟨RX6, "readNumber", "()V"⟩
abbrev cX6_readSuit : ByteArray := prog_8_method_6_code
def yX6_readSuit : MethodName := ⟨RX6, "readSuit", "(I)V"⟩
abbrev cX6_readEnd : ByteArray := prog_8_method_7_code
def yX6_readEnd : MethodName := ⟨RX6, "readEnd", "()V"⟩
abbrev cX6_skipBlanks : ByteArray := prog_8_method_8_code
def yX6_skipBlanks : MethodName := ⟨RX6, "skipBlanks", "()V"⟩
abbrev cX6_skipLetters : ByteArray := prog_8_method_9_code
def yX6_skipLetters : MethodName := ⟨RX6, "skipLetters", "()V"⟩
abbrev cX6_isBetween : ByteArray := prog_8_method_10_code
def yX6_isBetween : MethodName := ⟨RX6, "isBetween", "(CC)Z"⟩
abbrev cX6_isText : ByteArray := prog_8_method_11_code
def yX6_isText : MethodName := ⟨RX6, "isText", "(Ljava/lang/String;I)Z"⟩
def RX7 : String := "TrickHouse"
def TX7 : u_T := fun k => match k with
  | 0 => ("TrickHouse", "tape", "LTrickHouse$Tape;", true)
  | 1 => ("TrickHouse", "acts", "LTrickHouse$ActLog;", true)
  | 2 => ("TrickHouse", "imaged", "LTrickHouse$ActLog;", true)
  | 3 => ("TrickHouse", "real", "LTrickHouse$Table;", true)
  | 4 => ("TrickHouse", "thought", "LTrickHouse$Table;", true)
  | 5 => ("TrickHouse", "sheets", "[LTrickHouse$Sheet;", true)
  | 6 => ("TrickHouse", "line", "Ljava/lang/StringBuilder;", true)
  | _ => ("TrickHouse", "hasImage", "Z", false)
def tyX7 : Nat → FieldType := fun k => match k with
  | 0 => .object "TrickHouse$Tape"
  | 1 => .object "TrickHouse$ActLog"
  | 2 => .object "TrickHouse$ActLog"
  | 3 => .object "TrickHouse$Table"
  | 4 => .object "TrickHouse$Table"
  | 5 => .array (.object "TrickHouse$Sheet")
  | 6 => .object "java/lang/StringBuilder"
  | _ => .boolean
abbrev wsX70 : List Cond := u_ws RX7 TX7 8
theorem nmX7 : ∀ a, a < 8 → ∀ b, b < 8 → a ≠ b → (TX7 a).2.1 ≠ (TX7 b).2.1 := by decide +kernel
theorem tyX7_ok : ∀ k, k < 8 → parseFieldDescriptor (TX7 k).2.2.1 = some (tyX7 k) := by decide +kernel
abbrev cX7_init : ByteArray := prog_1_method_1_code
def yX7_init : MethodName := ⟨RX7, "<init>", "()V"⟩
abbrev cX7_feed : ByteArray := prog_1_method_2_code
def yX7_feed : MethodName := ⟨RX7, "feed", "(IIIIII)I"⟩
abbrev cX7_act : ByteArray := prog_1_method_3_code
def yX7_act : MethodName := ⟨RX7, "act", "()I"⟩
abbrev cX7_undo : ByteArray := prog_1_method_4_code
def yX7_undo : MethodName := ⟨RX7, "undo", "()I"⟩
abbrev cX7_log : ByteArray := prog_1_method_5_code
def yX7_log : MethodName := ⟨RX7, "log", "(II)I"⟩
abbrev cX7_print : ByteArray := prog_1_method_6_code
def yX7_print : MethodName := ⟨RX7, "print", "(II)I"⟩
abbrev cX7_told : ByteArray := prog_1_method_7_code
def yX7_told : MethodName := ⟨RX7, "told", "(I)I"⟩
abbrev cX7_hand : ByteArray := prog_1_method_8_code
def yX7_hand : MethodName := ⟨RX7, "hand", "(II)I"⟩
abbrev cX7_trick : ByteArray := prog_1_method_9_code
def yX7_trick : MethodName := ⟨RX7, "trick", "(II)I"⟩
abbrev cX7_strength : ByteArray := prog_1_method_10_code
def yX7_strength : MethodName := ⟨RX7, "strength", "(II)I"⟩
abbrev cX7_taken : ByteArray := prog_1_method_11_code
def yX7_taken : MethodName := ⟨RX7, "taken", "(II)I"⟩
abbrev cX7_score : ByteArray := prog_1_method_12_code
def yX7_score : MethodName := ⟨RX7, "score", "(I)I"⟩
abbrev cX7_table : ByteArray := prog_1_method_13_code
def yX7_table : MethodName := ⟨RX7, "table", "(IIIII)I"⟩
abbrev cX7_total : ByteArray := prog_1_method_14_code
def yX7_total : MethodName := ⟨RX7, "total", "(II)I"⟩
abbrev cX7_open : ByteArray := prog_1_method_15_code
def yX7_open : MethodName := ⟨RX7, "open", "()I"⟩
abbrev cX7_gains : ByteArray := prog_1_method_16_code
def yX7_gains : MethodName := ⟨RX7, "gains", "(I)I"⟩
abbrev cX7_best : ByteArray := prog_1_method_17_code
def yX7_best : MethodName := ⟨RX7, "best", "(I)I"⟩
abbrev cX7_drawn : ByteArray := prog_1_method_18_code
def yX7_drawn : MethodName := ⟨RX7, "drawn", "(I)I"⟩
abbrev cX7_chance : ByteArray := prog_1_method_19_code
def yX7_chance : MethodName := ⟨RX7, "chance", "(III)I"⟩
abbrev cX7_replay : ByteArray := prog_1_method_20_code
def yX7_replay : MethodName := ⟨RX7, "replay", "(II)I"⟩
abbrev cX7_tells : ByteArray := prog_1_method_21_code
def yX7_tells : MethodName := ⟨RX7, "tells", "(II)I"⟩
abbrev cX7_film : ByteArray := prog_1_method_22_code
def yX7_film : MethodName := ⟨RX7, "film", "(I)I"⟩
abbrev cX7_image : ByteArray := prog_1_method_23_code
def yX7_image : MethodName := ⟨RX7, "image", "()I"⟩
abbrev cX7_back : ByteArray := prog_1_method_24_code
def yX7_back : MethodName := ⟨RX7, "back", "()I"⟩
abbrev cX7_sheet : ByteArray := prog_1_method_25_code
def yX7_sheet : MethodName := ⟨RX7, "sheet", "(III)I"⟩
abbrev cX7_cell : ByteArray := prog_1_method_26_code
def yX7_cell : MethodName := ⟨RX7, "cell", "(III)I"⟩
abbrev cX7_copy : ByteArray := prog_1_method_27_code
def yX7_copy : MethodName := ⟨RX7, "copy", "(IIIII)I"⟩
abbrev cX7_refusalOf : ByteArray := prog_1_method_28_code
def yX7_refusalOf : MethodName := ⟨RX7, "refusalOf", "(II)I"⟩
abbrev cX7_fitsWord : ByteArray := prog_1_method_29_code
def yX7_fitsWord : MethodName := ⟨RX7, "fitsWord", "(II)Z"⟩
abbrev cX7_isFair : ByteArray := prog_1_method_30_code
def yX7_isFair : MethodName := ⟨RX7, "isFair", "(III)Z"⟩
abbrev cX7_goThrough : ByteArray := prog_1_method_31_code
def yX7_goThrough : MethodName := ⟨RX7, "goThrough", "(LTrickHouse$Table;I)V"⟩
abbrev cX7_writeLine : ByteArray := prog_1_method_32_code
def yX7_writeLine : MethodName := ⟨RX7, "writeLine", "(III)V"⟩
abbrev cX7_wordText : ByteArray := prog_1_method_33_code
def yX7_wordText : MethodName := ⟨RX7, "wordText", "(I)Ljava/lang/String;"⟩
abbrev cX7_suitLetter : ByteArray := prog_1_method_34_code
def yX7_suitLetter : MethodName := ⟨RX7, "suitLetter", "(I)C"⟩
abbrev cX7_openNow : ByteArray := prog_1_method_35_code
def yX7_openNow : MethodName := ⟨RX7, "openNow", "()I"⟩
abbrev cX7_gainsOf : ByteArray := prog_1_method_36_code
def yX7_gainsOf : MethodName := ⟨RX7, "gainsOf", "(I)I"⟩
abbrev cX7_mostMade : ByteArray := prog_1_method_37_code
def yX7_mostMade : MethodName := ⟨RX7, "mostMade", "(LTrickHouse$Play;II)I"⟩
abbrev cX7_drawnMade : ByteArray := prog_1_method_38_code
def yX7_drawnMade : MethodName := ⟨RX7, "drawnMade", "(I)I"⟩
abbrev cX7_inLowestTerms : ByteArray := prog_1_method_39_code
def yX7_inLowestTerms : MethodName := ⟨RX7, "inLowestTerms", "(III)I"⟩
abbrev cX7_firstOtherwise : ByteArray := prog_1_method_40_code
def yX7_firstOtherwise : MethodName := ⟨RX7, "firstOtherwise", "(LTrickHouse$Sheet;)I"⟩
abbrev cX7_trumpsThatFit : ByteArray := prog_1_method_41_code
def yX7_trumpsThatFit : MethodName := ⟨RX7, "trumpsThatFit", "(LTrickHouse$Sheet;)I"⟩
abbrev cX7_rankingsThatFit : ByteArray := prog_1_method_42_code
def yX7_rankingsThatFit : MethodName := ⟨RX7, "rankingsThatFit", "(LTrickHouse$Sheet;)I"⟩
abbrev cX7_wouldBeSo : ByteArray := prog_1_method_43_code
def yX7_wouldBeSo : MethodName := ⟨RX7, "wouldBeSo", "(LTrickHouse$Sheet;II)Z"⟩
abbrev cX7_at : ByteArray := prog_1_method_44_code
def yX7_at : MethodName := ⟨RX7, "at", "([II)I"⟩
abbrev cX7_set : ByteArray := prog_1_method_45_code
def yX7_set : MethodName := ⟨RX7, "set", "([III)V"⟩
abbrev cX7_fill : ByteArray := prog_1_method_46_code
def yX7_fill : MethodName := ⟨RX7, "fill", "([II)V"⟩
abbrev cX7_take : ByteArray := prog_1_method_47_code
def yX7_take : MethodName := ⟨RX7, "take", "([I[I)V"⟩
abbrev cX7_sheetAt : ByteArray := prog_1_method_48_code
def yX7_sheetAt : MethodName := ⟨RX7, "sheetAt", "(I)LTrickHouse$Sheet;"⟩
abbrev cX7_isByte : ByteArray := prog_1_method_49_code
def yX7_isByte : MethodName := ⟨RX7, "isByte", "(I)Z"⟩
abbrev cX7_isCard : ByteArray := prog_1_method_50_code
def yX7_isCard : MethodName := ⟨RX7, "isCard", "(I)Z"⟩
abbrev cX7_isHouse : ByteArray := prog_1_method_51_code
def yX7_isHouse : MethodName := ⟨RX7, "isHouse", "(I)Z"⟩
abbrev cX7_nextSeed : ByteArray := prog_1_method_52_code
def yX7_nextSeed : MethodName := ⟨RX7, "nextSeed", "(I)I"⟩
abbrev cX7_bitOf : ByteArray := prog_1_method_53_code
def yX7_bitOf : MethodName := ⟨RX7, "bitOf", "(I)I"⟩
abbrev cX7_bitsOfSuit : ByteArray := prog_1_method_54_code
def yX7_bitsOfSuit : MethodName := ⟨RX7, "bitsOfSuit", "(I)I"⟩
abbrev cX7_lowestCard : ByteArray := prog_1_method_55_code
def yX7_lowestCard : MethodName := ⟨RX7, "lowestCard", "(I)I"⟩
abbrev cX7_cardByNumber : ByteArray := prog_1_method_56_code
def yX7_cardByNumber : MethodName := ⟨RX7, "cardByNumber", "(II)I"⟩
abbrev cX7_strengthOf : ByteArray := prog_1_method_57_code
def yX7_strengthOf : MethodName := ⟨RX7, "strengthOf", "(III)I"⟩
abbrev cX7_scoreBy : ByteArray := prog_1_method_58_code
def yX7_scoreBy : MethodName := ⟨RX7, "scoreBy", "(IIIII)I"⟩
def RX8 : String := "TrickHouseModel"
def TX8 : u_T := fun k => match k with
  | 0 => ("TrickHouseModel", "acts", "I", false)
  | 1 => ("TrickHouseModel", "words", "[I", true)
  | 2 => ("TrickHouseModel", "numbers", "[I", true)
  | 3 => ("TrickHouseModel", "suits", "[I", true)
  | 4 => ("TrickHouseModel", "whoms", "[I", true)
  | 5 => ("TrickHouseModel", "phase", "I", false)
  | 6 => ("TrickHouseModel", "turn", "I", false)
  | 7 => ("TrickHouseModel", "dealer", "I", false)
  | 8 => ("TrickHouseModel", "declarer", "I", false)
  | 9 => ("TrickHouseModel", "trump", "I", false)
  | 10 => ("TrickHouseModel", "bid", "I", false)
  | 11 => ("TrickHouseModel", "bidder", "I", false)
  | 12 => ("TrickHouseModel", "doubled", "I", false)
  | 13 => ("TrickHouseModel", "passes", "I", false)
  | 14 => ("TrickHouseModel", "ranking", "I", false)
  | 15 => ("TrickHouseModel", "rule", "I", false)
  | 16 => ("TrickHouseModel", "named", "[[I", true)
  | 17 => ("TrickHouseModel", "hands", "[I", true)
  | 18 => ("TrickHouseModel", "firstHands", "[I", true)
  | 19 => ("TrickHouseModel", "tricks", "I", false)
  | 20 => ("TrickHouseModel", "leaders", "[I", true)
  | 21 => ("TrickHouseModel", "played", "[I", true)
  | 22 => ("TrickHouseModel", "winners", "[I", true)
  | 23 => ("TrickHouseModel", "won", "[I", true)
  | 24 => ("TrickHouseModel", "cards", "[[I", true)
  | 25 => ("TrickHouseModel", "totals", "[[I", true)
  | 26 => ("TrickHouseModel", "hasScore", "Z", false)
  | 27 => ("TrickHouseModel", "lastMade", "I", false)
  | 28 => ("TrickHouseModel", "lastBid", "I", false)
  | 29 => ("TrickHouseModel", "lastTrump", "I", false)
  | 30 => ("TrickHouseModel", "lastDoubled", "I", false)
  | 31 => ("TrickHouseModel", "row", "[I", true)
  | 32 => ("TrickHouseModel", "tape", "[I", true)
  | 33 => ("TrickHouseModel", "taped", "I", false)
  | 34 => ("TrickHouseModel", "at", "I", false)
  | 35 => ("TrickHouseModel", "begin", "I", false)
  | 36 => ("TrickHouseModel", "token", "I", false)
  | 37 => ("TrickHouseModel", "value", "I", false)
  | 38 => ("TrickHouseModel", "number", "I", false)
  | 39 => ("TrickHouseModel", "suit", "I", false)
  | 40 => ("TrickHouseModel", "isWrong", "Z", false)
  | 41 => ("TrickHouseModel", "imageActs", "I", false)
  | 42 => ("TrickHouseModel", "imageRows", "[[I", true)
  | 43 => ("TrickHouseModel", "sorts", "[I", true)
  | 44 => ("TrickHouseModel", "lengths", "[I", true)
  | 45 => ("TrickHouseModel", "items", "[[I", true)
  | _ => ("TrickHouseModel", "passed", "[I", true)
def tyX8 : Nat → FieldType := fun k => match k with
  | 0 => .int
  | 1 => .array .int
  | 2 => .array .int
  | 3 => .array .int
  | 4 => .array .int
  | 5 => .int
  | 6 => .int
  | 7 => .int
  | 8 => .int
  | 9 => .int
  | 10 => .int
  | 11 => .int
  | 12 => .int
  | 13 => .int
  | 14 => .int
  | 15 => .int
  | 16 => .array (.array .int)
  | 17 => .array .int
  | 18 => .array .int
  | 19 => .int
  | 20 => .array .int
  | 21 => .array .int
  | 22 => .array .int
  | 23 => .array .int
  | 24 => .array (.array .int)
  | 25 => .array (.array .int)
  | 26 => .boolean
  | 27 => .int
  | 28 => .int
  | 29 => .int
  | 30 => .int
  | 31 => .array .int
  | 32 => .array .int
  | 33 => .int
  | 34 => .int
  | 35 => .int
  | 36 => .int
  | 37 => .int
  | 38 => .int
  | 39 => .int
  | 40 => .boolean
  | 41 => .int
  | 42 => .array (.array .int)
  | 43 => .array .int
  | 44 => .array .int
  | 45 => .array (.array .int)
  | _ => .array .int
abbrev wsX80 : List Cond := u_ws RX8 TX8 47
theorem nmX8 : ∀ a, a < 47 → ∀ b, b < 47 → a ≠ b → (TX8 a).2.1 ≠ (TX8 b).2.1 := by decide +kernel
theorem tyX8_ok : ∀ k, k < 47 → parseFieldDescriptor (TX8 k).2.2.1 = some (tyX8 k) := by decide +kernel
abbrev cX8_init : ByteArray := prog_10_method_1_code
def yX8_init : MethodName := ⟨RX8, "<init>", "()V"⟩
abbrev cX8_in : ByteArray := prog_10_method_2_code
def yX8_in : MethodName := ⟨RX8, "in", "(III)Z"⟩
abbrev cX8_side : ByteArray := prog_10_method_3_code
def yX8_side : MethodName := ⟨RX8, "side", "(I)I"⟩
abbrev cX8_bit : ByteArray := prog_10_method_4_code
def yX8_bit : MethodName := ⟨RX8, "bit", "(I)I"⟩
abbrev cX8_has : ByteArray := prog_10_method_5_code
def yX8_has : MethodName := ⟨RX8, "has", "(II)Z"⟩
abbrev cX8_clears : ByteArray := prog_10_method_6_code
def yX8_clears : MethodName := ⟨RX8, "clears", "()V"⟩
abbrev cX8_begins : ByteArray := prog_10_method_7_code
def yX8_begins : MethodName := ⟨RX8, "begins", "()V"⟩
abbrev cX8_strengthBy : ByteArray := prog_10_method_8_code
def yX8_strengthBy : MethodName := ⟨RX8, "strengthBy", "(III)I"⟩
abbrev cX8_wonBy : ByteArray := prog_10_method_9_code
def yX8_wonBy : MethodName := ⟨RX8, "wonBy", "(III)I"⟩
abbrev cX8_trumpNow : ByteArray := prog_10_method_10_code
def yX8_trumpNow : MethodName := ⟨RX8, "trumpNow", "()I"⟩
abbrev cX8_ofSuit : ByteArray := prog_10_method_11_code
def yX8_ofSuit : MethodName := ⟨RX8, "ofSuit", "(II)I"⟩
abbrev cX8_mayPlay : ByteArray := prog_10_method_12_code
def yX8_mayPlay : MethodName := ⟨RX8, "mayPlay", "()I"⟩
abbrev cX8_plain : ByteArray := prog_10_method_13_code
def yX8_plain : MethodName := ⟨RX8, "plain", "(IIII)I"⟩
abbrev cX8_scored : ByteArray := prog_10_method_14_code
def yX8_scored : MethodName := ⟨RX8, "scored", "(IIIII)I"⟩
abbrev cX8_endsDeal : ByteArray := prog_10_method_15_code
def yX8_endsDeal : MethodName := ⟨RX8, "endsDeal", "(Z)V"⟩
abbrev cX8_deals : ByteArray := prog_10_method_16_code
def yX8_deals : MethodName := ⟨RX8, "deals", "(I)V"⟩
abbrev cX8_leads : ByteArray := prog_10_method_17_code
def yX8_leads : MethodName := ⟨RX8, "leads", "(I)V"⟩
abbrev cX8_passes : ByteArray := prog_10_method_18_code
def yX8_passes : MethodName := ⟨RX8, "passes", "()V"⟩
abbrev cX8_bids : ByteArray := prog_10_method_19_code
def yX8_bids : MethodName := ⟨RX8, "bids", "(II)V"⟩
abbrev cX8_plays : ByteArray := prog_10_method_20_code
def yX8_plays : MethodName := ⟨RX8, "plays", "(I)V"⟩
abbrev cX8_doesAct : ByteArray := prog_10_method_21_code
def yX8_doesAct : MethodName := ⟨RX8, "doesAct", "(III)V"⟩
abbrev cX8_goesThrough : ByteArray := prog_10_method_22_code
def yX8_goesThrough : MethodName := ⟨RX8, "goesThrough", "(I)V"⟩
abbrev cX8_isLate : ByteArray := prog_10_method_23_code
def yX8_isLate : MethodName := ⟨RX8, "isLate", "()Z"⟩
abbrev cX8_tried : ByteArray := prog_10_method_24_code
def yX8_tried : MethodName := ⟨RX8, "tried", "(I)I"⟩
abbrev cX8_solved : ByteArray := prog_10_method_25_code
def yX8_solved : MethodName := ⟨RX8, "solved", "()I"⟩
abbrev cX8_forTurn : ByteArray := prog_10_method_26_code
def yX8_forTurn : MethodName := ⟨RX8, "forTurn", "(I)I"⟩
abbrev cX8_open : ByteArray := prog_10_method_27_code
def yX8_open : MethodName := ⟨RX8, "open", "()I"⟩
abbrev cX8_gains : ByteArray := prog_10_method_28_code
def yX8_gains : MethodName := ⟨RX8, "gains", "(I)I"⟩
abbrev cX8_best : ByteArray := prog_10_method_29_code
def yX8_best : MethodName := ⟨RX8, "best", "(I)I"⟩
abbrev cX8_isByte : ByteArray := prog_10_method_30_code
def yX8_isByte : MethodName := ⟨RX8, "isByte", "(I)Z"⟩
abbrev cX8_feed : ByteArray := prog_10_method_31_code
def yX8_feed : MethodName := ⟨RX8, "feed", "(IIIIII)I"⟩
abbrev cX8_byteAt : ByteArray := prog_10_method_32_code
def yX8_byteAt : MethodName := ⟨RX8, "byteAt", "(I)I"⟩
abbrev cX8_isWord : ByteArray := prog_10_method_33_code
def yX8_isWord : MethodName := ⟨RX8, "isWord", "(Ljava/lang/String;)Z"⟩
abbrev cX8_wordOf : ByteArray := prog_10_method_34_code
def yX8_wordOf : MethodName := ⟨RX8, "wordOf", "(I)Ljava/lang/String;"⟩
abbrev cX8_wordRead : ByteArray := prog_10_method_35_code
def yX8_wordRead : MethodName := ⟨RX8, "wordRead", "()I"⟩
abbrev cX8_suitRead : ByteArray := prog_10_method_36_code
def yX8_suitRead : MethodName := ⟨RX8, "suitRead", "()I"⟩
abbrev cX8_next : ByteArray := prog_10_method_37_code
def yX8_next : MethodName := ⟨RX8, "next", "()V"⟩
abbrev cX8_takes : ByteArray := prog_10_method_38_code
def yX8_takes : MethodName := ⟨RX8, "takes", "(II)I"⟩
abbrev cX8_read : ByteArray := prog_10_method_39_code
def yX8_read : MethodName := ⟨RX8, "read", "()I"⟩
abbrev cX8_isTime : ByteArray := prog_10_method_40_code
def yX8_isTime : MethodName := ⟨RX8, "isTime", "(I)Z"⟩
abbrev cX8_isNumber : ByteArray := prog_10_method_41_code
def yX8_isNumber : MethodName := ⟨RX8, "isNumber", "(I)Z"⟩
abbrev cX8_isFair : ByteArray := prog_10_method_42_code
def yX8_isFair : MethodName := ⟨RX8, "isFair", "(I)Z"⟩
abbrev cX8_act : ByteArray := prog_10_method_43_code
def yX8_act : MethodName := ⟨RX8, "act", "()I"⟩
abbrev cX8_undo : ByteArray := prog_10_method_44_code
def yX8_undo : MethodName := ⟨RX8, "undo", "()I"⟩
abbrev cX8_log : ByteArray := prog_10_method_45_code
def yX8_log : MethodName := ⟨RX8, "log", "(II)I"⟩
abbrev cX8_textOf : ByteArray := prog_10_method_46_code
def yX8_textOf : MethodName := ⟨RX8, "textOf", "(I)Ljava/lang/String;"⟩
abbrev cX8_print : ByteArray := prog_10_method_47_code
def yX8_print : MethodName := ⟨RX8, "print", "(II)I"⟩
abbrev cX8_answer : ByteArray := prog_10_method_48_code
def yX8_answer : MethodName := ⟨RX8, "answer", "(I)I"⟩
abbrev cX8_told : ByteArray := prog_10_method_49_code
def yX8_told : MethodName := ⟨RX8, "told", "(I)I"⟩
abbrev cX8_hand : ByteArray := prog_10_method_50_code
def yX8_hand : MethodName := ⟨RX8, "hand", "(II)I"⟩
abbrev cX8_trick : ByteArray := prog_10_method_51_code
def yX8_trick : MethodName := ⟨RX8, "trick", "(II)I"⟩
abbrev cX8_strength : ByteArray := prog_10_method_52_code
def yX8_strength : MethodName := ⟨RX8, "strength", "(II)I"⟩
abbrev cX8_taken : ByteArray := prog_10_method_53_code
def yX8_taken : MethodName := ⟨RX8, "taken", "(II)I"⟩
abbrev cX8_isHouse : ByteArray := prog_10_method_54_code
def yX8_isHouse : MethodName := ⟨RX8, "isHouse", "(I)Z"⟩
abbrev cX8_score : ByteArray := prog_10_method_55_code
def yX8_score : MethodName := ⟨RX8, "score", "(I)I"⟩
abbrev cX8_table : ByteArray := prog_10_method_56_code
def yX8_table : MethodName := ⟨RX8, "table", "(IIIII)I"⟩
abbrev cX8_total : ByteArray := prog_10_method_57_code
def yX8_total : MethodName := ⟨RX8, "total", "(II)I"⟩
abbrev cX8_byLot : ByteArray := prog_10_method_58_code
def yX8_byLot : MethodName := ⟨RX8, "byLot", "(I)I"⟩
abbrev cX8_drawn : ByteArray := prog_10_method_59_code
def yX8_drawn : MethodName := ⟨RX8, "drawn", "(I)I"⟩
abbrev cX8_common : ByteArray := prog_10_method_60_code
def yX8_common : MethodName := ⟨RX8, "common", "(II)I"⟩
abbrev cX8_chance : ByteArray := prog_10_method_61_code
def yX8_chance : MethodName := ⟨RX8, "chance", "(III)I"⟩
abbrev cX8_replay : ByteArray := prog_10_method_62_code
def yX8_replay : MethodName := ⟨RX8, "replay", "(II)I"⟩
abbrev cX8_isSo : ByteArray := prog_10_method_63_code
def yX8_isSo : MethodName := ⟨RX8, "isSo", "(III)Z"⟩
abbrev cX8_tells : ByteArray := prog_10_method_64_code
def yX8_tells : MethodName := ⟨RX8, "tells", "(II)I"⟩
abbrev cX8_film : ByteArray := prog_10_method_65_code
def yX8_film : MethodName := ⟨RX8, "film", "(I)I"⟩
abbrev cX8_logRow : ByteArray := prog_10_method_66_code
def yX8_logRow : MethodName := ⟨RX8, "logRow", "(I)[I"⟩
abbrev cX8_image : ByteArray := prog_10_method_67_code
def yX8_image : MethodName := ⟨RX8, "image", "()I"⟩
abbrev cX8_back : ByteArray := prog_10_method_68_code
def yX8_back : MethodName := ⟨RX8, "back", "()I"⟩
abbrev cX8_isSheet : ByteArray := prog_10_method_69_code
def yX8_isSheet : MethodName := ⟨RX8, "isSheet", "(I)Z"⟩
abbrev cX8_sheet : ByteArray := prog_10_method_70_code
def yX8_sheet : MethodName := ⟨RX8, "sheet", "(III)I"⟩
abbrev cX8_cell : ByteArray := prog_10_method_71_code
def yX8_cell : MethodName := ⟨RX8, "cell", "(III)I"⟩
abbrev cX8_copy : ByteArray := prog_10_method_72_code
def yX8_copy : MethodName := ⟨RX8, "copy", "(IIIII)I"⟩
def RJ5 : String := "java/lang/AbstractStringBuilder"
def TJ5 : u_T := fun k => match k with
  | _ => ("", "", "", false)
def tyJ5 : Nat → FieldType := fun k => match k with
  | _ => .int
abbrev wsJ50 : List Cond := u_ws RJ5 TJ5 0
theorem nmJ5 : ∀ a, a < 0 → ∀ b, b < 0 → a ≠ b → (TJ5 a).2.1 ≠ (TJ5 b).2.1 := by decide +kernel
theorem tyJ5_ok : ∀ k, k < 0 → parseFieldDescriptor (TJ5 k).2.2.1 = some (tyJ5 k) := by decide +kernel
abbrev cJ5_init_d00df : ByteArray := prog_11_method_2_code
def yJ5_init_d00df : MethodName := ⟨RJ5, "<init>", "(I)V"⟩
abbrev cJ5_length_8abf5 : ByteArray := prog_11_method_6_code
def yJ5_length_8abf5 : MethodName := ⟨RJ5, "length", "()I"⟩
abbrev cJ5_ensureCapacityInternal_d00df : ByteArray := prog_11_method_9_code
def yJ5_ensureCapacityInternal_d00df : MethodName := ⟨RJ5, "ensureCapacityInternal", "(I)V"⟩
abbrev cJ5_newCapacity_0f7a4 : ByteArray := prog_11_method_10_code
def yJ5_newCapacity_0f7a4 : MethodName := ⟨RJ5, "newCapacity", "(I)I"⟩
abbrev cJ5_inflate_da8c8 : ByteArray := prog_11_method_11_code
def yJ5_inflate_da8c8 : MethodName := ⟨RJ5, "inflate", "()V"⟩
abbrev cJ5_setLength_d00df : ByteArray := prog_11_method_13_code
def yJ5_setLength_d00df : MethodName := ⟨RJ5, "setLength", "(I)V"⟩
abbrev cJ5_charAt_5068e : ByteArray := prog_11_method_14_code
def yJ5_charAt_5068e : MethodName := ⟨RJ5, "charAt", "(I)C"⟩
abbrev cJ5_append_cf1ce : ByteArray := prog_11_method_22_code
def yJ5_append_cf1ce : MethodName := ⟨RJ5, "append", "(Ljava/lang/String;)Ljava/lang/AbstractStringBuilder;"⟩
abbrev cJ5_appendNull_278bc : ByteArray := prog_11_method_26_code
def yJ5_appendNull_278bc : MethodName := ⟨RJ5, "appendNull", "()Ljava/lang/AbstractStringBuilder;"⟩
abbrev cJ5_append_3fe6f : ByteArray := prog_11_method_31_code
def yJ5_append_3fe6f : MethodName := ⟨RJ5, "append", "(C)Ljava/lang/AbstractStringBuilder;"⟩
abbrev cJ5_append_c97b9 : ByteArray := prog_11_method_32_code
def yJ5_append_c97b9 : MethodName := ⟨RJ5, "append", "(I)Ljava/lang/AbstractStringBuilder;"⟩
abbrev cJ5_getValue_6d5f1 : ByteArray := prog_11_method_64_code
def yJ5_getValue_6d5f1 : MethodName := ⟨RJ5, "getValue", "()[B"⟩
abbrev cJ5_isLatin1_aae02 : ByteArray := prog_11_method_68_code
def yJ5_isLatin1_aae02 : MethodName := ⟨RJ5, "isLatin1", "()Z"⟩
abbrev cJ5_inflateIfNeededFor_a7421 : ByteArray := prog_11_method_71_code
def yJ5_inflateIfNeededFor_a7421 : MethodName := ⟨RJ5, "inflateIfNeededFor", "(Ljava/lang/String;)V"⟩
abbrev cJ5_putStringAt_47b60 : ByteArray := prog_11_method_73_code
def yJ5_putStringAt_47b60 : MethodName := ⟨RJ5, "putStringAt", "(ILjava/lang/String;)V"⟩
def RJx8e188 : String := "java/lang/Cloneable"
def TJx8e188 : u_T := fun k => match k with
  | _ => ("", "", "", false)
def tyJx8e188 : Nat → FieldType := fun k => match k with
  | _ => .int
abbrev wsJx8e1880 : List Cond := u_ws RJx8e188 TJx8e188 0
theorem nmJx8e188 : ∀ a, a < 0 → ∀ b, b < 0 → a ≠ b → (TJx8e188 a).2.1 ≠ (TJx8e188 b).2.1 := by decide +kernel
theorem tyJx8e188_ok : ∀ k, k < 0 → parseFieldDescriptor (TJx8e188 k).2.2.1 = some (tyJx8e188 k) := by decide +kernel
def RJ6 : String := "java/lang/Integer"
def TJ6 : u_T := fun k => match k with
  | _ => ("", "", "", false)
def tyJ6 : Nat → FieldType := fun k => match k with
  | _ => .int
abbrev wsJ60 : List Cond := u_ws RJ6 TJ6 0
theorem nmJ6 : ∀ a, a < 0 → ∀ b, b < 0 → a ≠ b → (TJ6 a).2.1 ≠ (TJ6 b).2.1 := by decide +kernel
theorem tyJ6_ok : ∀ k, k < 0 → parseFieldDescriptor (TJ6 k).2.2.1 = some (tyJ6 k) := by decide +kernel
abbrev cJ6_getChars_ba4f3 : ByteArray := prog_13_method_12_code
def yJ6_getChars_ba4f3 : MethodName := ⟨RJ6, "getChars", "(II[B)I"⟩
abbrev cJ6_stringSize_0f7a4 : ByteArray := prog_13_method_13_code
def yJ6_stringSize_0f7a4 : MethodName := ⟨RJ6, "stringSize", "(I)I"⟩
abbrev cJ6_bitCount_0f7a4 : ByteArray := prog_13_method_49_code
def yJ6_bitCount_0f7a4 : MethodName := ⟨RJ6, "bitCount", "(I)I"⟩
def RJ9 : String := "java/lang/Math"
def TJ9 : u_T := fun k => match k with
  | _ => ("", "", "", false)
def tyJ9 : Nat → FieldType := fun k => match k with
  | _ => .int
abbrev wsJ90 : List Cond := u_ws RJ9 TJ9 0
theorem nmJ9 : ∀ a, a < 0 → ∀ b, b < 0 → a ≠ b → (TJ9 a).2.1 ≠ (TJ9 b).2.1 := by decide +kernel
theorem tyJ9_ok : ∀ k, k < 0 → parseFieldDescriptor (TJ9 k).2.2.1 = some (tyJ9 k) := by decide +kernel
abbrev cJ9_max_7cf53 : ByteArray := prog_14_method_65_code
def yJ9_max_7cf53 : MethodName := ⟨RJ9, "max", "(II)I"⟩
abbrev cJ9_min_7cf53 : ByteArray := prog_14_method_69_code
def yJ9_min_7cf53 : MethodName := ⟨RJ9, "min", "(II)I"⟩
def RJ0 : String := "java/lang/String"
def TJ0 : u_T := fun k => match k with
  | 0 => ("java/lang/String", "value", "[B", true)
  | 1 => ("java/lang/String", "coder", "B", true)
  | 2 => ("java/lang/String", "hash", "I", false)
  | _ => ("java/lang/String", "hashIsZero", "Z", false)
def tyJ0 : Nat → FieldType := fun k => match k with
  | 0 => .array .byte
  | 1 => .byte
  | 2 => .int
  | _ => .boolean
abbrev wsJ00 : List Cond := u_ws RJ0 TJ0 4
theorem nmJ0 : ∀ a, a < 4 → ∀ b, b < 4 → a ≠ b → (TJ0 a).2.1 ≠ (TJ0 b).2.1 := by decide +kernel
theorem tyJ0_ok : ∀ k, k < 4 → parseFieldDescriptor (TJ0 k).2.2.1 = some (tyJ0 k) := by decide +kernel
abbrev cJ0_init_81219 : ByteArray := prog_15_method_53_code
def yJ0_init_81219 : MethodName := ⟨RJ0, "<init>", "(Ljava/lang/StringBuilder;)V"⟩
abbrev cJ0_length_8abf5 : ByteArray := prog_15_method_54_code
def yJ0_length_8abf5 : MethodName := ⟨RJ0, "length", "()I"⟩
abbrev cJ0_charAt_5068e : ByteArray := prog_15_method_56_code
def yJ0_charAt_5068e : MethodName := ⟨RJ0, "charAt", "(I)C"⟩
abbrev cJ0_getBytes_840e7 : ByteArray := prog_15_method_147_code
def yJ0_getBytes_840e7 : MethodName := ⟨RJ0, "getBytes", "([BIB)V"⟩
abbrev cJ0_init_db425 : ByteArray := prog_15_method_150_code
def yJ0_init_db425 : MethodName := ⟨RJ0, "<init>", "(Ljava/lang/AbstractStringBuilder;Ljava/lang/Void;)V"⟩
abbrev cJ0_coder_7d493 : ByteArray := prog_15_method_152_code
def yJ0_coder_7d493 : MethodName := ⟨RJ0, "coder", "()B"⟩
abbrev cJ0_isLatin1_aae02 : ByteArray := prog_15_method_154_code
def yJ0_isLatin1_aae02 : MethodName := ⟨RJ0, "isLatin1", "()Z"⟩
abbrev cJ0_checkIndex_df160 : ByteArray := prog_15_method_155_code
def yJ0_checkIndex_df160 : MethodName := ⟨RJ0, "checkIndex", "(II)V"⟩
abbrev cJ0_checkBoundsOffCount_cabcc : ByteArray := prog_15_method_157_code
def yJ0_checkBoundsOffCount_cabcc : MethodName := ⟨RJ0, "checkBoundsOffCount", "(III)I"⟩
abbrev cJ0_checkBoundsBeginEnd_23922 : ByteArray := prog_15_method_158_code
def yJ0_checkBoundsBeginEnd_23922 : MethodName := ⟨RJ0, "checkBoundsBeginEnd", "(III)V"⟩
def RJ4 : String := "java/lang/StringBuilder"
def TJ4 : u_T := fun k => match k with
  | 0 => ("java/lang/AbstractStringBuilder", "value", "[B", false)
  | 1 => ("java/lang/AbstractStringBuilder", "coder", "B", false)
  | 2 => ("java/lang/AbstractStringBuilder", "maybeLatin1", "Z", false)
  | _ => ("java/lang/AbstractStringBuilder", "count", "I", false)
def tyJ4 : Nat → FieldType := fun k => match k with
  | 0 => .array .byte
  | 1 => .byte
  | 2 => .boolean
  | _ => .int
abbrev wsJ40 : List Cond := u_ws RJ4 TJ4 4
theorem nmJ4 : ∀ a, a < 4 → ∀ b, b < 4 → a ≠ b → (TJ4 a).2.1 ≠ (TJ4 b).2.1 := by decide +kernel
theorem tyJ4_ok : ∀ k, k < 4 → parseFieldDescriptor (TJ4 k).2.2.1 = some (tyJ4 k) := by decide +kernel
abbrev cJ4_init_da8c8 : ByteArray := prog_16_method_1_code
def yJ4_init_da8c8 : MethodName := ⟨RJ4, "<init>", "()V"⟩
abbrev cJ4_append_15ec4 : ByteArray := prog_16_method_7_code
def yJ4_append_15ec4 : MethodName := ⟨RJ4, "append", "(Ljava/lang/String;)Ljava/lang/StringBuilder;"⟩
abbrev cJ4_append_cf468 : ByteArray := prog_16_method_14_code
def yJ4_append_cf468 : MethodName := ⟨RJ4, "append", "(C)Ljava/lang/StringBuilder;"⟩
abbrev cJ4_append_bf812 : ByteArray := prog_16_method_15_code
def yJ4_append_bf812 : MethodName := ⟨RJ4, "append", "(I)Ljava/lang/StringBuilder;"⟩
abbrev cJ4_toString_0e30d : ByteArray := prog_16_method_42_code
def yJ4_toString_0e30d : MethodName := ⟨RJ4, "toString", "()Ljava/lang/String;"⟩
abbrev cJ4_charAt_5068e : ByteArray := prog_16_method_88_code
def yJ4_charAt_5068e : MethodName := ⟨RJ4, "charAt", "(I)C"⟩
abbrev cJ4_setLength_d00df : ByteArray := prog_16_method_89_code
def yJ4_setLength_d00df : MethodName := ⟨RJ4, "setLength", "(I)V"⟩
abbrev cJ4_length_8abf5 : ByteArray := prog_16_method_93_code
def yJ4_length_8abf5 : MethodName := ⟨RJ4, "length", "()I"⟩
def RJ1 : String := "java/lang/StringLatin1"
def TJ1 : u_T := fun k => match k with
  | _ => ("", "", "", false)
def tyJ1 : Nat → FieldType := fun k => match k with
  | _ => .int
abbrev wsJ10 : List Cond := u_ws RJ1 TJ1 0
theorem nmJ1 : ∀ a, a < 0 → ∀ b, b < 0 → a ≠ b → (TJ1 a).2.1 ≠ (TJ1 b).2.1 := by decide +kernel
theorem tyJ1_ok : ∀ k, k < 0 → parseFieldDescriptor (TJ1 k).2.2.1 = some (tyJ1 k) := by decide +kernel
abbrev cJ1_charAt_3b067 : ByteArray := prog_17_method_2_code
def yJ1_charAt_3b067 : MethodName := ⟨RJ1, "charAt", "([BI)C"⟩
abbrev cJ1_canEncode_fc78d : ByteArray := prog_17_method_3_code
def yJ1_canEncode_fc78d : MethodName := ⟨RJ1, "canEncode", "(C)Z"⟩
abbrev cJ1_fillNull_b72d1 : ByteArray := prog_17_method_48_code
def yJ1_fillNull_b72d1 : MethodName := ⟨RJ1, "fillNull", "([BII)V"⟩
abbrev cJ1_inflate_0e8fd : ByteArray := prog_17_method_50_code
def yJ1_inflate_0e8fd : MethodName := ⟨RJ1, "inflate", "([BI[BII)V"⟩
def RJ2 : String := "java/lang/StringUTF16"
def TJ2 : u_T := fun k => match k with
  | _ => ("", "", "", false)
def tyJ2 : Nat → FieldType := fun k => match k with
  | _ => .int
abbrev wsJ20 : List Cond := u_ws RJ2 TJ2 0
theorem nmJ2 : ∀ a, a < 0 → ∀ b, b < 0 → a ≠ b → (TJ2 a).2.1 ≠ (TJ2 b).2.1 := by decide +kernel
theorem tyJ2_ok : ∀ k, k < 0 → parseFieldDescriptor (TJ2 k).2.2.1 = some (tyJ2 k) := by decide +kernel
abbrev cJ2_newBytesFor_77867 : ByteArray := prog_18_method_2_code
def yJ2_newBytesFor_77867 : MethodName := ⟨RJ2, "newBytesFor", "(I)[B"⟩
abbrev cJ2_newBytesLength_0f7a4 : ByteArray := prog_18_method_3_code
def yJ2_newBytesLength_0f7a4 : MethodName := ⟨RJ2, "newBytesLength", "(I)I"⟩
abbrev cJ2_putChar_b72d1 : ByteArray := prog_18_method_4_code
def yJ2_putChar_b72d1 : MethodName := ⟨RJ2, "putChar", "([BII)V"⟩
abbrev cJ2_getChar_3b067 : ByteArray := prog_18_method_5_code
def yJ2_getChar_3b067 : MethodName := ⟨RJ2, "getChar", "([BI)C"⟩
abbrev cJ2_length_9d52b : ByteArray := prog_18_method_6_code
def yJ2_length_9d52b : MethodName := ⟨RJ2, "length", "([B)I"⟩
abbrev cJ2_coderFromArrayLen_85cad : ByteArray := prog_18_method_15_code
def yJ2_coderFromArrayLen_85cad : MethodName := ⟨RJ2, "coderFromArrayLen", "([BI)B"⟩
abbrev cJ2_compress_39247 : ByteArray := prog_18_method_17_code
def yJ2_compress_39247 : MethodName := ⟨RJ2, "compress", "([BII)[B"⟩
abbrev cJ2_compress_5af95 : ByteArray := prog_18_method_22_code
def yJ2_compress_5af95 : MethodName := ⟨RJ2, "compress", "([BI[BII)I"⟩
abbrev cJ2_fillNull_b72d1 : ByteArray := prog_18_method_70_code
def yJ2_fillNull_b72d1 : MethodName := ⟨RJ2, "fillNull", "([BII)V"⟩
abbrev cJ2_putCharSB_b72d1 : ByteArray := prog_18_method_71_code
def yJ2_putCharSB_b72d1 : MethodName := ⟨RJ2, "putCharSB", "([BII)V"⟩
abbrev cJ2_getChars_46870 : ByteArray := prog_18_method_77_code
def yJ2_getChars_46870 : MethodName := ⟨RJ2, "getChars", "(III[B)I"⟩
abbrev cJ2_putCharsAt_cd4e5 : ByteArray := prog_18_method_81_code
def yJ2_putCharsAt_cd4e5 : MethodName := ⟨RJ2, "putCharsAt", "([BICCCC)I"⟩
abbrev cJ2_charAt_3b067 : ByteArray := prog_18_method_83_code
def yJ2_charAt_3b067 : MethodName := ⟨RJ2, "charAt", "([BI)C"⟩
abbrev cJ2_inflate_0e8fd : ByteArray := prog_18_method_86_code
def yJ2_inflate_0e8fd : MethodName := ⟨RJ2, "inflate", "([BI[BII)V"⟩
abbrev cJ2_getChars_ba4f3 : ByteArray := prog_18_method_89_code
def yJ2_getChars_ba4f3 : MethodName := ⟨RJ2, "getChars", "(II[B)I"⟩
abbrev cJ2_checkIndex_2214a : ByteArray := prog_18_method_91_code
def yJ2_checkIndex_2214a : MethodName := ⟨RJ2, "checkIndex", "(I[B)V"⟩
abbrev cJ2_checkBoundsBeginEnd_d044e : ByteArray := prog_18_method_93_code
def yJ2_checkBoundsBeginEnd_d044e : MethodName := ⟨RJ2, "checkBoundsBeginEnd", "(II[B)V"⟩
abbrev cJ2_checkBoundsOffCount_d044e : ByteArray := prog_18_method_94_code
def yJ2_checkBoundsOffCount_d044e : MethodName := ⟨RJ2, "checkBoundsOffCount", "(II[B)V"⟩
def RJ10 : String := "java/lang/System"
def TJ10 : u_T := fun k => match k with
  | _ => ("", "", "", false)
def tyJ10 : Nat → FieldType := fun k => match k with
  | _ => .int
abbrev wsJ100 : List Cond := u_ws RJ10 TJ10 0
theorem nmJ10 : ∀ a, a < 0 → ∀ b, b < 0 → a ≠ b → (TJ10 a).2.1 ≠ (TJ10 b).2.1 := by decide +kernel
theorem tyJ10_ok : ∀ k, k < 0 → parseFieldDescriptor (TJ10 k).2.2.1 = some (tyJ10 k) := by decide +kernel
def RJ7 : String := "java/util/Arrays"
def TJ7 : u_T := fun k => match k with
  | _ => ("", "", "", false)
def tyJ7 : Nat → FieldType := fun k => match k with
  | _ => .int
abbrev wsJ70 : List Cond := u_ws RJ7 TJ7 0
theorem nmJ7 : ∀ a, a < 0 → ∀ b, b < 0 → a ≠ b → (TJ7 a).2.1 ≠ (TJ7 b).2.1 := by decide +kernel
theorem tyJ7_ok : ∀ k, k < 0 → parseFieldDescriptor (TJ7 k).2.2.1 = some (tyJ7 k) := by decide +kernel
abbrev cJ7_rangeCheck_23922 : ByteArray := prog_20_method_30_code
def yJ7_rangeCheck_23922 : MethodName := ⟨RJ7, "rangeCheck", "(III)V"⟩
abbrev cJ7_fill_eb02e : ByteArray := prog_20_method_110_code
def yJ7_fill_eb02e : MethodName := ⟨RJ7, "fill", "([BIIB)V"⟩
abbrev cJ7_copyOf_9075b : ByteArray := prog_20_method_121_code
def yJ7_copyOf_9075b : MethodName := ⟨RJ7, "copyOf", "([BI)[B"⟩
abbrev cJ7_checkLength_df160 : ByteArray := prog_20_method_131_code
def yJ7_checkLength_df160 : MethodName := ⟨RJ7, "checkLength", "(II)V"⟩
abbrev cJ7_copyOfRange_39247 : ByteArray := prog_20_method_132_code
def yJ7_copyOfRange_39247 : MethodName := ⟨RJ7, "copyOfRange", "([BII)[B"⟩
abbrev cJ7_copyOfRangeByte_39247 : ByteArray := prog_20_method_133_code
def yJ7_copyOfRangeByte_39247 : MethodName := ⟨RJ7, "copyOfRangeByte", "([BII)[B"⟩
def RJ8 : String := "jdk/internal/util/ArraysSupport"
def TJ8 : u_T := fun k => match k with
  | _ => ("", "", "", false)
def tyJ8 : Nat → FieldType := fun k => match k with
  | _ => .int
abbrev wsJ80 : List Cond := u_ws RJ8 TJ8 0
theorem nmJ8 : ∀ a, a < 0 → ∀ b, b < 0 → a ≠ b → (TJ8 a).2.1 ≠ (TJ8 b).2.1 := by decide +kernel
theorem tyJ8_ok : ∀ k, k < 0 → parseFieldDescriptor (TJ8 k).2.2.1 = some (tyJ8 k) := by decide +kernel
abbrev cJ8_newLength_cabcc : ByteArray := prog_21_method_27_code
def yJ8_newLength_cabcc : MethodName := ⟨RJ8, "newLength", "(III)I"⟩
abbrev cJ8_hugeLength_7cf53 : ByteArray := prog_21_method_28_code
def yJ8_hugeLength_7cf53 : MethodName := ⟨RJ8, "hugeLength", "(II)I"⟩
def RJ3 : String := "jdk/internal/util/Preconditions"
def TJ3 : u_T := fun k => match k with
  | _ => ("", "", "", false)
def tyJ3 : Nat → FieldType := fun k => match k with
  | _ => .int
abbrev wsJ30 : List Cond := u_ws RJ3 TJ3 0
theorem nmJ3 : ∀ a, a < 0 → ∀ b, b < 0 → a ≠ b → (TJ3 a).2.1 ≠ (TJ3 b).2.1 := by decide +kernel
theorem tyJ3_ok : ∀ k, k < 0 → parseFieldDescriptor (TJ3 k).2.2.1 = some (tyJ3 k) := by decide +kernel
abbrev cJ3_checkIndex_8e157 : ByteArray := prog_22_method_11_code
def yJ3_checkIndex_8e157 : MethodName := ⟨RJ3, "checkIndex", "(IILjava/util/function/BiFunction;)I"⟩
abbrev cJ3_checkFromToIndex_8c36e : ByteArray := prog_22_method_12_code
def yJ3_checkFromToIndex_8c36e : MethodName := ⟨RJ3, "checkFromToIndex", "(IIILjava/util/function/BiFunction;)I"⟩
abbrev cJ3_checkFromIndexSize_8c36e : ByteArray := prog_22_method_13_code
def yJ3_checkFromIndexSize_8c36e : MethodName := ⟨RJ3, "checkFromIndexSize", "(IIILjava/util/function/BiFunction;)I"⟩
def RL : String := "TrickHouseLaw"
abbrev cL_law : ByteArray := code
def yL_law : MethodName := ⟨RL, "law", "([I)Z"⟩
abbrev vwCl : List vw_C := [(RJ0, TJ0, 4), (RJ4, TJ4, 4), (RX0, TX0, 5), (RX1, TX1, 8), (RX2, TX2, 12), (RX3, TX3, 6), (RX4, TX4, 3), (RX5, TX5, 7), (RX6, TX6, 7), (RX7, TX7, 8), (RX8, TX8, 47)]
end
section
/-! ===== THE SMALL MACHINE: values, cells by number, and what an instruction asks (weakest preconditions) ===== -/
abbrev mV : Type := Int32 ⊕ Option Nat
abbrev mM : Type := Nat → Nat → Int32
abbrev mL : Type := List (Option mV)
abbrev mS : Type := Nat × mL × List mV × mM
/-- shape of a cell: kind (0 int[], 1 int[][], 2 Sheet[], 3 byte[], 5 + c an object of class c of vwCl), length, references -/
abbrev mH : Type := Nat × Nat × List (Option Nat)
abbrev mP : Type := Option mV → mM → Prop
abbrev mT : Type := List mV → mM → mP → Prop
/-- an instruction: as decoded, its length, a number (local, target), a constant, a switch's targets -/
abbrev mI : Type := Instr × Nat × Nat × Int32 × List (Int32 × Nat)
/-- a method: code, fields by pool index (class, field, 0 int | 1 boolean | 3 byte | 2 no put), calls by 3 * index + kind (how many are popped, what it asks), constants, statics, return type -/
abbrev mF : Type := (Nat → Option mI) × (Nat → Option (Nat × Nat × Nat)) × (Nat → Option (Nat × mT)) × (Nat → Option mV) × (Nat → Option mV) × Option FieldType
/-! constants that are read and never written: Strings at 1000 .. 1016, their bytes at 1100 .. 1116, Integer's digits at 1200, 1201 -/
def mRoB : List (List Int32) := [[100, 101, 97, 108], [98, 105, 100], [112, 97, 115, 115], [100, 111, 117, 98, 108, 101], [114, 101, 100, 111, 117, 98, 108, 101], [112, 108, 97, 121], [99, 108, 97, 105, 109], [114, 97, 110, 107], [114, 117, 108, 101], [], [99], [100], [104], [115], [110], [99, 100, 104, 115, 110], [32]]
def mDigT : List Int32 := [48, 48, 48, 48, 48, 48, 48, 48, 48, 48, 49, 49, 49, 49, 49, 49, 49, 49, 49, 49, 50, 50, 50, 50, 50, 50, 50, 50, 50, 50, 51, 51, 51, 51, 51, 51, 51, 51, 51, 51, 52, 52, 52, 52, 52, 52, 52, 52, 52, 52, 53, 53, 53, 53, 53, 53, 53, 53, 53, 53, 54, 54, 54, 54, 54, 54, 54, 54, 54, 54, 55, 55, 55, 55, 55, 55, 55, 55, 55, 55, 56, 56, 56, 56, 56, 56, 56, 56, 56, 56, 57, 57, 57, 57, 57, 57, 57, 57, 57, 57]
def mDigO : List Int32 := [48, 49, 50, 51, 52, 53, 54, 55, 56, 57, 48, 49, 50, 51, 52, 53, 54, 55, 56, 57, 48, 49, 50, 51, 52, 53, 54, 55, 56, 57, 48, 49, 50, 51, 52, 53, 54, 55, 56, 57, 48, 49, 50, 51, 52, 53, 54, 55, 56, 57, 48, 49, 50, 51, 52, 53, 54, 55, 56, 57, 48, 49, 50, 51, 52, 53, 54, 55, 56, 57, 48, 49, 50, 51, 52, 53, 54, 55, 56, 57, 48, 49, 50, 51, 52, 53, 54, 55, 56, 57, 48, 49, 50, 51, 52, 53, 54, 55, 56, 57]
def mRoS (a : Nat) : Bool := Nat.ble 1000 a && Nat.blt a 1017
def mRoA (a : Nat) : Option (List Int32) := match Nat.ble 1100 a && Nat.blt a 1117 with
  | true => mRoB[a - 1100]?
  | false => match Nat.beq a 1200 with
    | true => some mDigT
    | false => match Nat.beq a 1201 with
      | true => some mDigO
      | false => none
def mval (ad : Nat → Nat) (v : mV) : Value := match v with
  | .inl x => .int x
  | .inr r => va_rf (r.map ad)
def mUp (M : mM) (c : Nat) (g : Nat → Int32) : mM := fun c' => if c' = c then g else M c'
def mW1 (M : mM) (c k : Nat) (x : Int32) : mM := mUp M c (upd (M c) k x)
def mRes (r : Option mV) (S : List mV) : List mV := match r with
  | none => S
  | some v => v :: S
def mBin (X : mS → Prop) (f : Int32 → Int32 → Int32) (n pc : Nat) (L : mL) (S : List mV) (M : mM) : Prop := match S with
  | .inl y :: .inl x :: r => X (pc + n, L, .inl (f x y) :: r, M)
  | _ => False
def mDiv (X : mS → Prop) (f : Int32 → Int32 → Int32) (n pc : Nat) (L : mL) (S : List mV) (M : mM) : Prop := match S with
  | .inl y :: .inl x :: r => ¬ y = 0 ∧ X (pc + n, L, .inl (f x y) :: r, M)
  | _ => False
def mUn (X : mS → Prop) (f : Int32 → Int32) (n pc : Nat) (L : mL) (S : List mV) (M : mM) : Prop := match S with
  | .inl x :: r => X (pc + n, L, .inl (f x) :: r, M)
  | _ => False
def mIf1 (X : mS → Prop) (c : Int32 → Prop) (n t pc : Nat) (L : mL) (S : List mV) (M : mM) : Prop := match S with
  | .inl x :: r => (c x → X (t, L, r, M)) ∧ (¬ c x → X (pc + n, L, r, M))
  | _ => False
def mIf2 (X : mS → Prop) (c : Int32 → Int32 → Prop) (n t pc : Nat) (L : mL) (S : List mV) (M : mM) : Prop := match S with
  | .inl y :: .inl x :: r => (c x y → X (t, L, r, M)) ∧ (¬ c x y → X (pc + n, L, r, M))
  | _ => False
def mLd (X : mS → Prop) (i n pc : Nat) (L : mL) (S : List mV) (M : mM) : Prop := match L[i]? with
  | some (some (.inl x)) => X (pc + n, L, .inl x :: S, M)
  | _ => False
def mLa (X : mS → Prop) (i n pc : Nat) (L : mL) (S : List mV) (M : mM) : Prop := match L[i]? with
  | some (some (.inr x)) => X (pc + n, L, .inr x :: S, M)
  | _ => False
def mSt (X : mS → Prop) (i n pc : Nat) (L : mL) (S : List mV) (M : mM) : Prop := match S with
  | .inl x :: r => match Nat.blt i L.length with
    | true => X (pc + n, L.set i (some (.inl x)), r, M)
    | false => False
  | _ => False
def mSa (X : mS → Prop) (i n pc : Nat) (L : mL) (S : List mV) (M : mM) : Prop := match S with
  | .inr x :: r => match Nat.blt i L.length with
    | true => X (pc + n, L.set i (some (.inr x)), r, M)
    | false => False
  | _ => False
def mSw (X : mS → Prop) (x : Int32) (d : Nat) (L : mL) (S : List mV) (M : mM) : List (Int32 × Nat) → Prop
  | [] => X (d, L, S, M)
  | q :: tl => (x = q.1 → X (q.2, L, S, M)) ∧ (¬ x = q.1 → mSw X x d L S M tl)
def mGet (SH : List mH) (F : mF) (X : mS → Prop) (idx pc : Nat) (L : mL) (S : List mV) (M : mM) : Prop := match S with
  | .inr (some a) :: r => match mRoS a with
    | true => match F.2.1 idx with
      | some q => match q.1, q.2.1 with
        | 0, 0 => X (pc + 3, L, .inr (some (a + 100)) :: r, M)
        | 0, 1 => X (pc + 3, L, .inl 0 :: r, M)
        | _, _ => False
      | none => False
    | false => match SH[a]?, F.2.1 idx with
      | some h, some q => match Nat.beq h.1 (q.1 + 5), h.2.2[q.2.1]? with
        | true, some none => X (pc + 3, L, .inl (M a q.2.1) :: r, M)
        | true, some (some c) => X (pc + 3, L, .inr (some c) :: r, M)
        | _, _ => False
      | _, _ => False
  | _ => False
def mPut (SH : List mH) (F : mF) (X : mS → Prop) (idx pc : Nat) (L : mL) (S : List mV) (M : mM) : Prop := match S with
  | .inl v :: .inr (some a) :: r => match SH[a]?, F.2.1 idx with
    | some h, some q => match Nat.beq h.1 (q.1 + 5), h.2.2[q.2.1]? with
      | true, some none => match q.2.2 with
        | 0 => X (pc + 3, L, r, mW1 M a q.2.1 v)
        | 1 => (v = 0 ∨ v = 1) ∧ X (pc + 3, L, r, mW1 M a q.2.1 v)
        | 3 => v.toInt8.toInt32 = v ∧ X (pc + 3, L, r, mW1 M a q.2.1 v)
        | _ => False
      | _, _ => False
    | _, _ => False
  | _ => False
def mArr (SH : List mH) (X : mS → Prop) (kd pc : Nat) (L : mL) (S : List mV) (M : mM) : Prop := match S with
  | .inl i :: .inr (some a) :: r => match SH[a]? with
    | some h => match Nat.beq h.1 kd with
      | true => vp_in i h.2.1 ∧ X (pc + 1, L, .inl (M a i.toNatClampNeg) :: r, M)
      | false => False
    | none => False
  | _ => False
def mBal (SH : List mH) (X : mS → Prop) (pc : Nat) (L : mL) (S : List mV) (M : mM) : Prop := match S with
  | .inl i :: .inr (some a) :: r => match mRoA a with
    | some l => vp_in i l.length ∧ X (pc + 1, L, .inl (l.getD i.toNatClampNeg 0) :: r, M)
    | none => match SH[a]? with
      | some h => match Nat.beq h.1 3 with
        | true => vp_in i h.2.1 ∧ X (pc + 1, L, .inl (M a i.toNatClampNeg) :: r, M)
        | false => False
      | none => False
  | _ => False
def mArs (SH : List mH) (X : mS → Prop) (kd : Nat) (f : Int32 → Int32) (pc : Nat) (L : mL) (S : List mV) (M : mM) : Prop := match S with
  | .inl x :: .inl i :: .inr (some a) :: r => match SH[a]? with
    | some h => match Nat.beq h.1 kd with
      | true => vp_in i h.2.1 ∧ X (pc + 1, L, r, mW1 M a i.toNatClampNeg (f x))
      | false => False
    | none => False
  | _ => False
def mArq (SH : List mH) (X : mS → Prop) (pc : Nat) (L : mL) (S : List mV) (M : mM) : Prop := match S with
  | .inl i :: .inr (some a) :: r => match SH[a]? with
    | some h => match h.1 with
      | 1 => vp_in i h.2.1 ∧ X (pc + 1, L, .inr ((h.2.2[i.toNatClampNeg]?).getD none) :: r, M)
      | 2 => vp_in i h.2.1 ∧ X (pc + 1, L, .inr ((h.2.2[i.toNatClampNeg]?).getD none) :: r, M)
      | _ => False
    | none => False
  | _ => False
def mLen (SH : List mH) (X : mS → Prop) (pc : Nat) (L : mL) (S : List mV) (M : mM) : Prop := match S with
  | .inr (some a) :: r => match mRoA a with
    | some l => X (pc + 1, L, .inl (nI l.length) :: r, M)
    | none => match SH[a]? with
      | some h => match Nat.blt h.1 4 with
        | true => X (pc + 1, L, .inl (nI h.2.1) :: r, M)
        | false => False
      | none => False
  | _ => False
def mNul (X : mS → Prop) (yes no : Nat) (L : mL) (S : List mV) (M : mM) : Prop := match S with
  | .inr none :: r => X (yes, L, r, M)
  | .inr (some _) :: r => X (no, L, r, M)
  | _ => False
def mCal (F : mF) (X : mS → Prop) (idx pc : Nat) (L : mL) (S : List mV) (M : mM) : Prop := match F.2.2.1 idx with
  | some q => match Nat.ble q.1 S.length && Nat.ble S.length (q.1 + 8) with
    | true => q.2 ((S.take q.1).reverse) M (fun r M' => X (pc + 3, L, mRes r (S.drop q.1), M'))
    | false => False
  | none => False
def mEnd (ret : Option FieldType) (P : mP) (S : List mV) (M : mM) : Prop := match S with
  | [.inl v] => match ret with
    | some .int => P (some (.inl v)) M
    | some .boolean => (v = 0 ∨ v = 1) ∧ P (some (.inl v)) M
    | some .char => (v.toUInt32 % 65536).toInt32 = v ∧ P (some (.inl v)) M
    | some .byte => v.toInt8.toInt32 = v ∧ P (some (.inl v)) M
    | _ => False
  | _ => False
def mEndA (ret : Option FieldType) (P : mP) (S : List mV) (M : mM) : Prop := match S with
  | [.inr r] => match ret with
    | some (.object _) => P (some (.inr r)) M
    | some (.array _) => P (some (.inr r)) M
    | _ => False
  | _ => False
def mEndV (ret : Option FieldType) (P : mP) (S : List mV) (M : mM) : Prop := match S with
  | [] => match ret with
    | none => P none M
    | _ => False
  | _ => False
def mOp (SH : List mH) (F : mF) (P : mP) (X : mS → Prop) (e : mI) (pc : Nat) (L : mL) (S : List mV) (M : mM) : Prop := match e.1 with
  | .iconst _ => X (pc + 1, L, .inl e.2.2.2.1 :: S, M)
  | .bipush _ => X (pc + 2, L, .inl e.2.2.2.1 :: S, M)
  | .sipush _ => X (pc + 3, L, .inl e.2.2.2.1 :: S, M)
  | .ldc idx => match F.2.2.2.1 idx with
    | some v => X (pc + 2, L, v :: S, M)
    | none => False
  | .ldc_w idx => match F.2.2.2.1 idx with
    | some v => X (pc + 3, L, v :: S, M)
    | none => False
  | .getstatic idx => match F.2.2.2.2.1 idx with
    | some v => X (pc + 3, L, v :: S, M)
    | none => False
  | .aconst_null => X (pc + 1, L, .inr none :: S, M)
  | .iload_n _ => mLd X e.2.2.1 1 pc L S M
  | .iload _ => mLd X e.2.2.1 2 pc L S M
  | .aload_n _ => mLa X e.2.2.1 1 pc L S M
  | .aload _ => mLa X e.2.2.1 2 pc L S M
  | .istore_n _ => mSt X e.2.2.1 1 pc L S M
  | .istore _ => mSt X e.2.2.1 2 pc L S M
  | .astore_n _ => mSa X e.2.2.1 1 pc L S M
  | .astore _ => mSa X e.2.2.1 2 pc L S M
  | .iinc _ _ => match L[e.2.2.1]? with
    | some (some (.inl x)) => X (pc + 3, L.set e.2.2.1 (some (.inl (x + e.2.2.2.1))), S, M)
    | _ => False
  | .iadd => mBin X (fun x y => x + y) 1 pc L S M
  | .isub => mBin X (fun x y => x - y) 1 pc L S M
  | .imul => mBin X (fun x y => x * y) 1 pc L S M
  | .idiv => mDiv X (fun x y => x / y) 1 pc L S M
  | .irem => mDiv X (fun x y => x - x / y * y) 1 pc L S M
  | .ineg => mUn X (fun x => -x) 1 pc L S M
  | .ishl => mBin X (fun x y => x <<< (y &&& 31)) 1 pc L S M
  | .ishr => mBin X (fun x y => x >>> (y &&& 31)) 1 pc L S M
  | .iushr => mBin X (fun x y => (x.toUInt32 >>> (y.toUInt32 &&& Int32.toUInt32 31)).toInt32) 1 pc L S M
  | .iand => mBin X (fun x y => x &&& y) 1 pc L S M
  | .ior => mBin X (fun x y => x ||| y) 1 pc L S M
  | .ixor => mBin X (fun x y => x ^^^ y) 1 pc L S M
  | .i2b => mUn X (fun x => x.toInt8.toInt32) 1 pc L S M
  | .i2c => mUn X (fun x => (x.toUInt32 % 65536).toInt32) 1 pc L S M
  | .dup => match S with
    | v :: r => X (pc + 1, L, v :: v :: r, M)
    | _ => False
  | .pop => match S with
    | _ :: r => X (pc + 1, L, r, M)
    | _ => False
  | .dup_x1 => match S with
    | v :: w :: r => X (pc + 1, L, v :: w :: v :: r, M)
    | _ => False
  | .dup2 => match S with
    | v :: w :: r => X (pc + 1, L, v :: w :: v :: w :: r, M)
    | _ => False
  | .getfield idx => mGet SH F X idx pc L S M
  | .putfield idx => mPut SH F X idx pc L S M
  | .iaload => mArr SH X 0 pc L S M
  | .baload => mBal SH X pc L S M
  | .iastore => mArs SH X 0 (fun x => x) pc L S M
  | .bastore => mArs SH X 3 (fun x => x.toInt8.toInt32) pc L S M
  | .aaload => mArq SH X pc L S M
  | .arraylength => mLen SH X pc L S M
  | .ifCond .eq _ => mIf1 X (fun x => x = 0) 3 e.2.2.1 pc L S M
  | .ifCond .ne _ => mIf1 X (fun x => ¬ x = 0) 3 e.2.2.1 pc L S M
  | .ifCond .lt _ => mIf1 X (fun x => x < 0) 3 e.2.2.1 pc L S M
  | .ifCond .ge _ => mIf1 X (fun x => 0 ≤ x) 3 e.2.2.1 pc L S M
  | .ifCond .gt _ => mIf1 X (fun x => 0 < x) 3 e.2.2.1 pc L S M
  | .ifCond .le _ => mIf1 X (fun x => x ≤ 0) 3 e.2.2.1 pc L S M
  | .if_icmp .eq _ => mIf2 X (fun x y => x = y) 3 e.2.2.1 pc L S M
  | .if_icmp .ne _ => mIf2 X (fun x y => ¬ x = y) 3 e.2.2.1 pc L S M
  | .if_icmp .lt _ => mIf2 X (fun x y => x < y) 3 e.2.2.1 pc L S M
  | .if_icmp .ge _ => mIf2 X (fun x y => y ≤ x) 3 e.2.2.1 pc L S M
  | .if_icmp .gt _ => mIf2 X (fun x y => y < x) 3 e.2.2.1 pc L S M
  | .if_icmp .le _ => mIf2 X (fun x y => x ≤ y) 3 e.2.2.1 pc L S M
  | .goto _ => X (e.2.2.1, L, S, M)
  | .ifnull _ => mNul X e.2.2.1 (pc + 3) L S M
  | .ifnonnull _ => mNul X (pc + 3) e.2.2.1 L S M
  | .tableswitch _ _ _ _ => match S with
    | .inl x :: r => mSw X x e.2.2.1 L r M e.2.2.2.2
    | _ => False
  | .lookupswitch _ _ => match S with
    | .inl x :: r => mSw X x e.2.2.1 L r M e.2.2.2.2
    | _ => False
  | .invokevirtual idx => mCal F X (3 * idx) pc L S M
  | .invokestatic idx => mCal F X (3 * idx + 1) pc L S M
  | .invokespecial idx => mCal F X (3 * idx + 2) pc L S M
  | .ireturn => mEnd F.2.2.2.2.2 P S M
  | .areturn => mEndA F.2.2.2.2.2 P S M
  | .return_ => mEndV F.2.2.2.2.2 P S M
  | _ => False
def mWp (SH : List mH) (F : mF) (P : mP) (X : mS → Prop) (σ : mS) : Prop := match F.1 σ.1 with
  | none => False
  | some e => mOp SH F P X e σ.1 σ.2.1 σ.2.2.1 σ.2.2.2
/-- from σ on the method comes to an end where P holds: in every X that is closed under its steps -/
def mRun (SH : List mH) (F : mF) (P : mP) (σ : mS) : Prop := ∀ X : mS → Prop, (∀ σ', mWp SH F P X σ' → X σ') → X σ
def mMono (F : mF) : Prop := ∀ (idx n : Nat) (T : mT), F.2.2.1 idx = some (n, T) → ∀ (a : List mV) (M : mM) (P Q : mP), (∀ r M', P r M' → Q r M') → T a M P → T a M Q
theorem mSw_mono {X Y : mS → Prop} (h : ∀ σ, X σ → Y σ) {x : Int32} {d : Nat} {L : mL} {S : List mV} {M : mM} : ∀ tl, mSw X x d L S M tl → mSw Y x d L S M tl
  | [], k => h _ k
  | _ :: tl, k => ⟨fun e => h _ (k.1 e), fun e => mSw_mono h tl (k.2 e)⟩
end
section
set_option maxHeartbeats 4000000 in
theorem mOp_mono {SH : List mH} {F : mF} (hF : mMono F) {P : mP} {X Y : mS → Prop} (h : ∀ σ, X σ → Y σ) {e : mI} {pc : Nat} {L : mL} {S : List mV} {M : mM} (k : mOp SH F P X e pc L S M) : mOp SH F P Y e pc L S M := by
  obtain ⟨i, n, a, v, tl⟩ := e
  cases i
  case tableswitch =>
    simp only [mOp] at k ⊢
    split at k
    · exact mSw_mono h _ k
    · exact k
  case lookupswitch =>
    simp only [mOp] at k ⊢
    split at k
    · exact mSw_mono h _ k
    · exact k
  case invokevirtual idx =>
    simp only [mOp, mCal] at k ⊢
    split at k
    · rename_i q hq
      split at k
      · exact hF _ q.1 q.2 hq _ _ _ _ (fun r M' w => h _ w) k
      · exact k
    · exact k
  case invokestatic idx =>
    simp only [mOp, mCal] at k ⊢
    split at k
    · rename_i q hq
      split at k
      · exact hF _ q.1 q.2 hq _ _ _ _ (fun r M' w => h _ w) k
      · exact k
    · exact k
  case invokespecial idx =>
    simp only [mOp, mCal] at k ⊢
    split at k
    · rename_i q hq
      split at k
      · exact hF _ q.1 q.2 hq _ _ _ _ (fun r M' w => h _ w) k
      · exact k
    · exact k
  case ifCond c o =>
    cases c <;> (simp only [mOp, mIf1] at k ⊢; split at k <;> first | exact ⟨fun q => h _ (k.1 q), fun q => h _ (k.2 q)⟩ | exact k)
  case if_icmp c o =>
    cases c <;> (simp only [mOp, mIf2] at k ⊢; split at k <;> first | exact ⟨fun q => h _ (k.1 q), fun q => h _ (k.2 q)⟩ | exact k)
  all_goals first
    | exact k
    | exact h _ k
    | (simp only [mOp, mBin, mDiv, mUn, mLd, mLa, mSt, mSa, mGet, mPut, mArr, mBal, mArs, mArq, mLen, mNul] at k ⊢; repeat' split at k
       all_goals first | exact k | exact h _ k | exact ⟨k.1, h _ k.2⟩)
theorem mWp_mono {SH : List mH} {F : mF} (hF : mMono F) {P : mP} {X Y : mS → Prop} (h : ∀ σ, X σ → Y σ) {σ : mS} (k : mWp SH F P X σ) : mWp SH F P Y σ := by
  unfold mWp at k ⊢
  split at k
  · exact k
  · exact mOp_mono hF h k
theorem mRun.of {SH : List mH} {F : mF} (hF : mMono F) {P : mP} {σ : mS} (k : mWp SH F P (mRun SH F P) σ) : mRun SH F P σ :=
  fun X hX => hX σ (mWp_mono hF (fun _ h => h X hX) k)
/-- n steps at once, but not beyond the stops -/
def mVc (SH : List mH) (F : mF) (P : mP) (st : List Nat) (X : mS → Prop) : Nat → mS → Prop
  | 0, σ => X σ
  | n + 1, σ => mWp SH F P (fun τ => match st.elem τ.1 with
    | true => X τ
    | false => mVc SH F P st X n τ) σ
theorem mRun.vc {SH : List mH} {F : mF} (hF : mMono F) {P : mP} (st : List Nat) : ∀ (n : Nat) {σ : mS}, mVc SH F P st (mRun SH F P) n σ → mRun SH F P σ
  | 0, _, k => k
  | n + 1, σ, k => by
    refine mRun.of hF (mWp_mono hF (fun τ h => ?_) k)
    split at h
    · exact h
    · exact mRun.vc hF st n h
theorem mRun.post {SH : List mH} {F : mF} {P Q : mP} (h : ∀ r M, P r M → Q r M) {σ : mS} (k : mRun SH F P σ) (hF : mMono F) : mRun SH F Q σ := by
  refine k _ (fun σ' w => mRun.of hF ?_)
  unfold mWp at w ⊢
  split at w
  · exact w
  · rename_i e he
    obtain ⟨i, n, a, v, tl⟩ := e
    cases i
    case ireturn =>
      simp only [mOp, mEnd] at w ⊢
      repeat' split at w
      all_goals first | exact w | exact h _ _ w | exact ⟨w.1, h _ _ w.2⟩
    case areturn =>
      simp only [mOp, mEndA] at w ⊢
      repeat' split at w
      all_goals first | exact w | exact h _ _ w
    case return_ =>
      simp only [mOp, mEndV] at w ⊢
      repeat' split at w
      all_goals first | exact w | exact h _ _ w
    case ifCond cd o => cases cd <;> exact w
    case if_icmp cd o => cases cd <;> exact w
    all_goals exact w
end
section
/-! ===== THE SMALL MACHINE'S WORLD ON THE HEAP ===== -/
def mFld (ad : Nat → Nat) (f : Nat → Int32) : Nat → List (Option Nat) → List Value
  | _, [] => []
  | k, none :: t => .int (f k) :: mFld ad f (k + 1) t
  | k, some c :: t => .ref (ad c) :: mFld ad f (k + 1) t
theorem mFld_int {ad : Nat → Nat} {f : Nat → Int32} : ∀ {rs : List (Option Nat)} {k j : Nat}, rs[j]? = some none → (mFld ad f k rs)[j]? = some (.int (f (k + j)))
  | none :: t, k, 0, _ => rfl
  | some c :: t, k, 0, h => by simp at h
  | none :: t, k, j + 1, h => by
    have := mFld_int (ad := ad) (f := f) (rs := t) (k := k + 1) (j := j) (by simpa using h)
    simp only [mFld, List.getElem?_cons_succ, this]
    congr 3
    omega
  | some c :: t, k, j + 1, h => by
    have := mFld_int (ad := ad) (f := f) (rs := t) (k := k + 1) (j := j) (by simpa using h)
    simp only [mFld, List.getElem?_cons_succ, this]
    congr 3
    omega
  | [], k, j, h => by simp at h
theorem mFld_ref {ad : Nat → Nat} {f : Nat → Int32} : ∀ {rs : List (Option Nat)} {k j c : Nat}, rs[j]? = some (some c) → (mFld ad f k rs)[j]? = some (.ref (ad c))
  | none :: t, k, 0, c, h => by simp at h
  | some d :: t, k, 0, c, h => by
    have e : d = c := by simpa using h
    subst e
    rfl
  | none :: t, k, j + 1, c, h => by
    have := mFld_ref (ad := ad) (f := f) (rs := t) (k := k + 1) (j := j) (c := c) (by simpa using h)
    simpa only [mFld, List.getElem?_cons_succ] using this
  | some d :: t, k, j + 1, c, h => by
    have := mFld_ref (ad := ad) (f := f) (rs := t) (k := k + 1) (j := j) (c := c) (by simpa using h)
    simpa only [mFld, List.getElem?_cons_succ] using this
  | [], k, j, c, h => by simp at h
theorem mFld_len {ad : Nat → Nat} {f : Nat → Int32} : ∀ {rs : List (Option Nat)} {k : Nat}, (mFld ad f k rs).length = rs.length
  | [], _ => rfl
  | none :: t, k => by simp [mFld, mFld_len (rs := t)]
  | some c :: t, k => by simp [mFld, mFld_len (rs := t)]
theorem mFld_far {ad : Nat → Nat} {f : Nat → Int32} {x : Int32} {q : Nat} : ∀ {rs : List (Option Nat)} {k : Nat}, q < k → mFld ad (upd f q x) k rs = mFld ad f k rs
  | [], _, _ => rfl
  | none :: t, k, h => by
    have e : upd f q x k = f k := by simp [upd, show k ≠ q by omega]
    simp only [mFld, e, mFld_far (rs := t) (show q < k + 1 by omega)]
  | some c :: t, k, h => by simp only [mFld, mFld_far (rs := t) (show q < k + 1 by omega)]
theorem mFld_set {ad : Nat → Nat} {x : Int32} : ∀ {rs : List (Option Nat)} {f : Nat → Int32} {k j : Nat}, rs[j]? = some none → (mFld ad f k rs).set j (.int x) = mFld ad (upd f (k + j) x) k rs
  | none :: t, f, k, 0, _ => by
    simp only [mFld, List.set_cons_zero, Nat.add_zero, mFld_far (rs := t) (show k < k + 1 by omega)]
    simp [upd]
  | some c :: t, f, k, 0, h => by simp at h
  | none :: t, f, k, j + 1, h => by
    have := mFld_set (ad := ad) (x := x) (rs := t) (f := f) (k := k + 1) (j := j) (by simpa using h)
    simp only [mFld, List.set_cons_succ, this]
    rw [show k + 1 + j = k + (j + 1) by omega]
    congr 2
    simp [upd]
  | some c :: t, f, k, j + 1, h => by
    have := mFld_set (ad := ad) (x := x) (rs := t) (f := f) (k := k + 1) (j := j) (by simpa using h)
    simp only [mFld, List.set_cons_succ, this]
    rw [show k + 1 + j = k + (j + 1) by omega]
  | [], f, k, j, h => by simp at h
def mEnt (ad : Nat → Nat) (cy : Nat → ClassId) (h : mH) (f : Nat → Int32) : va_E := match h.1 with
  | 0 => .inl (cy 0, h.2.1, .inl f)
  | 1 => .inl (cy 1, h.2.1, .inr (.inr (.inr (.inr (fun j => ((h.2.2[j]?).getD none).map ad)))))
  | 2 => .inl (cy 2, h.2.1, .inr (.inr (.inr (.inr (fun j => ((h.2.2[j]?).getD none).map ad)))))
  | 3 => .inl (cy 3, h.2.1, .inl f)
  | 4 => .inl (cy 0, 0, .inl f)
  | k + 5 => .inr (k, mFld ad f 0 h.2.2)
def mWs (ad : Nat → Nat) (cy : Nat → ClassId) (SH : List mH) (M : mM) : va_W := (List.range SH.length).map (fun c => (ad c, mEnt ad cy (SH.getD c (0, 0, [])) (M c)))
theorem mWs_get {ad : Nat → Nat} {cy : Nat → ClassId} {SH : List mH} {M : mM} {c : Nat} {h : mH} (hc : SH[c]? = some h) : (mWs ad cy SH M)[c]? = some (ad c, mEnt ad cy h (M c)) := by
  have hl : c < SH.length := (List.getElem?_eq_some_iff.mp hc).1
  have hg : SH.getD c (0, 0, []) = h := by rw [List.getD_eq_getElem?_getD, hc]; rfl
  simp only [mWs, List.getElem?_map, List.getElem?_range hl, Option.map_some, hg]
theorem mWs_len {ad : Nat → Nat} {cy : Nat → ClassId} {SH : List mH} {M : mM} : (mWs ad cy SH M).length = SH.length := by simp [mWs]
theorem mWs_set {ad : Nat → Nat} {cy : Nat → ClassId} {SH : List mH} {M : mM} {c : Nat} {h : mH} {g : Nat → Int32} (hc : SH[c]? = some h) : (mWs ad cy SH M).set c (ad c, mEnt ad cy h g) = mWs ad cy SH (mUp M c g) := by
  have hl : c < SH.length := (List.getElem?_eq_some_iff.mp hc).1
  have hg : SH.getD c (0, 0, []) = h := by rw [List.getD_eq_getElem?_getD, hc]; rfl
  apply List.ext_getElem?
  intro i
  by_cases hi : i < SH.length
  · by_cases e : c = i
    · subst e
      rw [List.getElem?_set_self (by rw [mWs_len]; exact hi)]
      simp only [mWs, List.getElem?_map, List.getElem?_range hi, Option.map_some, hg, mUp, if_true]
    · rw [List.getElem?_set_ne e]
      simp only [mWs, List.getElem?_map, List.getElem?_range hi, Option.map_some, mUp, if_neg (Ne.symm e)]
  · rw [List.getElem?_eq_none (by rw [List.length_set, mWs_len]; omega), List.getElem?_eq_none (by rw [mWs_len]; omega)]
theorem mWs_at {ad : Nat → Nat} {cy : Nat → ClassId} {SH : List mH} {M : mM} {k : Nat} {q : Nat × va_E} (h : (mWs ad cy SH M)[k]? = some q) : k < SH.length ∧ q.1 = ad k := by
  have hl : k < SH.length := by have := (List.getElem?_eq_some_iff.mp h).1; rw [mWs_len] at this; exact this
  simp only [mWs, List.getElem?_map, List.getElem?_range hl, Option.map_some] at h
  exact ⟨hl, by rw [← Option.some.inj h]⟩
theorem mWs_D {A : Nat → Prop} {ad : Nat → Nat} {cy : Nat → ClassId} {SH : List mH} {M : mM} (h : va_D A (mWs ad cy SH M)) (M' : mM) : va_D A (mWs ad cy SH M') := by
  refine ⟨fun i j p q hi hj hpq => ?_, fun k q hk => ?_⟩
  · obtain ⟨li, ei⟩ := mWs_at hi
    obtain ⟨lj, ej⟩ := mWs_at hj
    refine h.1 i j (ad i, mEnt ad cy SH[i] (M i)) (ad j, mEnt ad cy SH[j] (M j)) (mWs_get (List.getElem?_eq_getElem li)) (mWs_get (List.getElem?_eq_getElem lj)) ?_
    show ad i = ad j
    rw [← ei, ← ej]
    exact hpq
  · obtain ⟨lk, ek⟩ := mWs_at hk
    have := h.2 k _ (mWs_get (M := M) (cy := cy) (ad := ad) (List.getElem?_eq_getElem lk))
    rw [ek]
    exact this
def mTys (cy : Nat → ClassId) : List (ClassId × FieldType) := [(cy 0, .int), (cy 1, .array .int), (cy 2, .object RX4), (cy 3, .byte)]
def mLH (ls : Array Slot) (nL : Nat) (ad : Nat → Nat) (L : mL) : Prop := ls.size = nL ∧ lv_wf ls ∧ L.length = nL ∧ ∀ (i : Nat) (v : mV), L[i]? = some (some v) → ls[i]? = some (.val (mval ad v))
theorem mval_cat (ad : Nat → Nat) (v : mV) : (mval ad v).category = 1 := by
  rcases v with x | (_ | c) <;> rfl
def mAs (ad : Nat → Nat) (L : mL) : List (Nat × Value) := (List.range L.length).filterMap (fun i => match L[i]? with
  | some (some v) => some (i, mval ad v)
  | _ => none)
theorem mAs_mem {ad : Nat → Nat} {L : mL} {q : Nat × Value} : q ∈ mAs ad L ↔ ∃ v, L[q.1]? = some (some v) ∧ q.2 = mval ad v := by
  unfold mAs
  rw [List.mem_filterMap]
  constructor
  · rintro ⟨i, -, hi⟩
    split at hi
    · rename_i v hv
      cases hi
      exact ⟨v, hv, rfl⟩
    · cases hi
  · rintro ⟨v, hv, e⟩
    refine ⟨q.1, List.mem_range.mpr (List.getElem?_eq_some_iff.mp hv).1, ?_⟩
    rw [hv]
    simp [← e]
theorem mLH.has {ls : Array Slot} {nL : Nat} {ad : Nat → Nat} {L : mL} (h : mLH ls nL ad L) : lv_has ls nL (mAs ad L) := by
  refine ⟨h.1, h.2.1, fun q hq => ?_⟩
  obtain ⟨v, hv, e⟩ := mAs_mem.mp hq
  rw [e]
  exact h.2.2.2 _ _ hv
theorem mLH.set {ls ls' : Array Slot} {nL : Nat} {ad : Nat → Nat} {L : mL} {i : Nat} {v : mV} (h : mLH ls nL ad L) (hi : i < nL) (h' : lv_has ls' nL ((i, mval ad v) :: (mAs ad L).filter (fun q => !(q.1 == i) && !(q.1 + 1 == i && q.2.category == 2)))) : mLH ls' nL ad (L.set i (some v)) := by
  refine ⟨h'.1, h'.2.1, by rw [List.length_set]; exact h.2.2.1, fun j w hj => ?_⟩
  by_cases e : i = j
  · subst e
    rw [List.getElem?_set_self (by rw [h.2.2.1]; exact hi)] at hj
    cases hj
    exact h'.2.2 (i, mval ad v) List.mem_cons_self
  · rw [List.getElem?_set_ne e] at hj
    refine h'.2.2 (j, mval ad w) (List.mem_cons_of_mem _ (List.mem_filter.mpr ⟨mAs_mem.mpr ⟨w, hj, rfl⟩, ?_⟩))
    have e1 : (j == i) = false := by simp; omega
    have e2 : ((mval ad w).category == 2) = false := by rw [mval_cat]; rfl
    simp [e1, e2]
theorem mLH.entry {ad : Nat → Nat} (vs : List mV) {n : Nat} (h : vs.length ≤ n) : ∃ ls : Array Slot, (lg_sl (vs.map (mval ad)) ++ List.replicate (n - (lg_sl (vs.map (mval ad))).length) Slot.unset).toArray = ls ∧ mLH ls n ad (vs.map some ++ List.replicate (n - vs.length) none) := by
  have hsl : ∀ ws : List mV, lg_sl (ws.map (mval ad)) = ws.map (fun v => Slot.val (mval ad v)) := by
    intro ws
    induction ws with
    | nil => rfl
    | cons v t ih =>
      have hc : ¬ (mval ad v).category = 2 := by rw [mval_cat]; decide
      have e : lg_sl ((v :: t).map (mval ad)) = Slot.val (mval ad v) :: lg_sl (t.map (mval ad)) := by simp [lg_sl, hc]
      rw [e, ih]
      rfl
  have hlen : (lg_sl (vs.map (mval ad))).length = vs.length := by rw [hsl]; simp
  have he := lv_entry (vs.map (mval ad)) (n := n) (by rw [hlen]; exact h)
  refine ⟨_, rfl, he.1, he.2.1, by simp; omega, fun i v hi => ?_⟩
  have hlt : i < vs.length := by
    apply Classical.byContradiction
    intro hn
    rw [List.getElem?_append_right (by simp; omega)] at hi
    have := List.mem_of_getElem? hi
    rw [List.mem_replicate] at this
    cases this.2
  rw [List.getElem?_append_left (by simp; exact hlt)] at hi
  simp only [List.getElem?_map] at hi
  have hv : vs[i]? = some v := by
    cases hq : vs[i]? with
    | none => rw [hq] at hi; cases hi
    | some w => rw [hq] at hi; cases hi; rfl
  rw [hlen]
  simp only [List.getElem?_toArray]
  rw [List.getElem?_append_left (by rw [hlen]; exact hlt), hsl, List.getElem?_map, hv]
  rfl
end
section
/-! ===== ONE STEP OF THE SMALL MACHINE IS ONE OF THE MACHINE'S ===== -/
def mTabs (pc : Nat) : Int → List Int → List (Int32 × Nat) → Bool
  | _, [], [] => true
  | lo, o :: os, q :: tl => decide (q.1.toInt = lo) && decide ((pc : Int) + o = (q.2 : Int)) && mTabs pc (lo + 1) os tl
  | _, _, _ => false
def mLks (pc : Nat) : List (Int × Int) → List (Int32 × Nat) → Bool
  | [], [] => true
  | a :: ps, q :: tl => decide (q.1.toInt = a.1) && decide ((pc : Int) + a.2 = (q.2 : Int)) && mLks pc ps tl
  | _, _ => false
theorem mTabs_sw {X : mS → Prop} {pc d : Nat} {x : Int32} {L : mL} {S : List mV} {M : mM} : ∀ {os : List Int} {tl : List (Int32 × Nat)} {lo : Int}, mTabs pc lo os tl = true → mSw X x d L S M tl →
    (∃ (o : Int) (t k : Nat), os[k]? = some o ∧ x.toInt = lo + k ∧ (pc : Int) + o = (t : Int) ∧ X (t, L, S, M)) ∨ ((x.toInt < lo ∨ lo + os.length ≤ x.toInt) ∧ X (d, L, S, M))
  | [], [], lo, _, k => Or.inr ⟨by
      have : lo + ([] : List Int).length = lo := by simp
      omega, k⟩
  | o :: os, q :: tl, lo, h, k => by
    simp only [mTabs, Bool.and_eq_true, decide_eq_true_eq] at h
    by_cases e : x = q.1
    · exact Or.inl ⟨o, q.2, 0, rfl, by rw [e, h.1.1]; simp, h.1.2, k.1 e⟩
    · rcases mTabs_sw h.2 (k.2 e) with ⟨o', t, i, h1, h2, h3, h4⟩ | ⟨h1, h2⟩
      · exact Or.inl ⟨o', t, i + 1, by simpa using h1, by rw [h2]; push_cast; omega, h3, h4⟩
      · refine Or.inr ⟨?_, h2⟩
        have hne : x.toInt ≠ lo := fun z => e (Int32.toInt_inj.mp (by rw [z, h.1.1]))
        have hlen : ((o :: os).length : Int) = (os.length : Int) + 1 := by simp
        omega
  | [], _ :: _, _, h, _ => by simp [mTabs] at h
  | _ :: _, [], _, h, _ => by simp [mTabs] at h
theorem mLks_sw {X : mS → Prop} {pc d : Nat} {x : Int32} {dflt : Int} {L : mL} {S : List mV} {M : mM} (hd : (pc : Int) + dflt = (d : Int)) : ∀ {ps : List (Int × Int)} {tl : List (Int32 × Nat)}, mLks pc ps tl = true → mSw X x d L S M tl →
    ∃ t : Nat, (pc : Int) + Op.lookupswitch.offset ps dflt x.toInt = (t : Int) ∧ X (t, L, S, M)
  | [], [], _, k => ⟨d, hd, k⟩
  | a :: ps, q :: tl, h, k => by
    simp only [mLks, Bool.and_eq_true, decide_eq_true_eq] at h
    obtain ⟨a1, a2⟩ := a
    by_cases e : x = q.1
    · exact ⟨q.2, by rw [Op.lookupswitch.offset_cons, if_pos (by rw [e]; exact h.1.1.symm)]; exact h.1.2, k.1 e⟩
    · obtain ⟨t, h1, h2⟩ := mLks_sw hd h.2 (k.2 e)
      exact ⟨t, by rw [lv_osw e h.1.1]; exact h1, h2⟩
  | [], _ :: _, h, _ => by simp [mLks] at h
  | _ :: _, [], h, _ => by simp [mLks] at h
/-- what a table's entry must say, beyond the decoded instruction -/
def mAux (pc : Nat) (e : mI) : Bool := match e.1 with
  | .iconst n => decide (Int32.ofInt n = e.2.2.2.1) && decide (e.2.1 = 1)
  | .bipush n => decide ((Int8.ofInt n).toInt32 = e.2.2.2.1) && decide (e.2.1 = 2)
  | .sipush n => decide ((Int16.ofInt n).toInt32 = e.2.2.2.1) && decide (e.2.1 = 3)
  | .ldc _ => decide (e.2.1 = 2)
  | .ldc_w _ => decide (e.2.1 = 3)
  | .iload_n k => decide ((k : Nat) = e.2.2.1) && decide (e.2.1 = 1)
  | .aload_n k => decide ((k : Nat) = e.2.2.1) && decide (e.2.1 = 1)
  | .istore_n k => decide ((k : Nat) = e.2.2.1) && decide (e.2.1 = 1)
  | .astore_n k => decide ((k : Nat) = e.2.2.1) && decide (e.2.1 = 1)
  | .iload i => decide (i = e.2.2.1) && decide (e.2.1 = 2)
  | .aload i => decide (i = e.2.2.1) && decide (e.2.1 = 2)
  | .istore i => decide (i = e.2.2.1) && decide (e.2.1 = 2)
  | .astore i => decide (i = e.2.2.1) && decide (e.2.1 = 2)
  | .iinc i n => (decide (i = e.2.2.1) && decide (Int32.ofInt n = e.2.2.2.1)) && decide (e.2.1 = 3)
  | .ifCond _ o => decide ((pc : Int) + o = (e.2.2.1 : Int)) && decide (e.2.1 = 3)
  | .if_icmp _ o => decide ((pc : Int) + o = (e.2.2.1 : Int)) && decide (e.2.1 = 3)
  | .goto o => decide ((pc : Int) + o = (e.2.2.1 : Int)) && decide (e.2.1 = 3)
  | .ifnull o => decide ((pc : Int) + o = (e.2.2.1 : Int)) && decide (e.2.1 = 3)
  | .ifnonnull o => decide ((pc : Int) + o = (e.2.2.1 : Int)) && decide (e.2.1 = 3)
  | .tableswitch d lo hi os => (decide ((pc : Int) + d = (e.2.2.1 : Int)) && decide (hi = lo + os.toList.length - 1)) && mTabs pc lo os.toList e.2.2.2.2
  | .lookupswitch d ps => (decide ((pc : Int) + d = (e.2.2.1 : Int)) && (ps.toList.zip (ps.toList.drop 1)).all (fun (a, next) => a.1 < next.1)) && mLks pc ps.toList e.2.2.2.2
  | .getfield _ => decide (e.2.1 = 3)
  | .getstatic _ => decide (e.2.1 = 3)
  | .putfield _ => decide (e.2.1 = 3)
  | .invokevirtual _ => decide (e.2.1 = 3)
  | .invokestatic _ => decide (e.2.1 = 3)
  | .invokespecial _ => decide (e.2.1 = 3)
  | _ => decide (e.2.1 = 1)
def mChk (cc : ByteArray) (pc : Nat) (e : mI) : Bool := decide (decode cc pc = .ok (e.1, e.2.1)) && mAux pc e
/-- fields: what the links and the class's table say -/
def mFldOK (own : String) (F : mF) (Ts : List Cond) : Prop := ∀ (idx ci k b : Nat), F.2.1 idx = some (ci, k, b) → ∃ (C : String) (T : u_T) (N : Nat) (ty : Nat → FieldType),
  vwCl[ci]? = some (C, T, N) ∧ k < N ∧ Cond.fieldLink own idx (T k).1 (T k).2.1 (T k).2.2.1 ∈ Ts ∧ (∀ w ∈ u_ws C T N, w ∈ Ts) ∧ (∀ j, j < N → parseFieldDescriptor (T j).2.2.1 = some (ty j)) ∧
  (∀ a, a < N → ∀ b, b < N → a ≠ b → (T a).2.1 ≠ (T b).2.1) ∧ (b = 2 ∨ (T k).2.2.2 = false) ∧ (b = 0 → ty k = .int) ∧ (b = 1 → ty k = .boolean) ∧ (b = 3 → ty k = .byte)
def mCstOK (own : String) (F : mF) (ad : Nat → Nat) (args : Array Value) (s : State) : Prop := ∀ (idx : Nat) (v : mV), F.2.2.2.1 idx = some v → (∃ x, v = .inl x ∧ (Cond.constant own idx x).before args s = true) ∨ (∃ (c : Nat) (tx : String), v = .inr (some c) ∧ vk_R own idx tx (ad c) s)
def mStaOK (own : String) (F : mF) (ad : Nat → Nat) (A : Nat → Prop) (s : State) (Ts : List Cond) : Prop := ∀ (idx : Nat) (v : mV), F.2.2.2.2.1 idx = some v → ∃ C n d : String, va_Z C n d (mval ad v) A s s.heap ∧ Cond.fieldLink own idx C n d ∈ Ts
/-- the constants on the heap -/
def mStr (ad : Nat → Nat) (A : Nat → Prop) (U : State) (H : Heap) : Prop :=
  (∀ i : Nat, i < 17 → va_O "java/lang/String" (ad (1000 + i)) A U H ∧ va_OF "java/lang/String" "coder" "B" (.int 0) (ad (1000 + i)) A U H ∧ va_OF "java/lang/String" "value" "[B" (.ref (ad (1100 + i))) (ad (1000 + i)) A U H ∧ va_T .byte (ad (1100 + i)) (mRoB.getD i []).length (fun j => .int ((mRoB.getD i []).getD j 0)) A U H) ∧
  va_T .byte (ad 1200) 100 (fun j => .int (mDigT.getD j 0)) A U H ∧ va_T .byte (ad 1201) 100 (fun j => .int (mDigO.getD j 0)) A U H
theorem mStr.moved {ad : Nat → Nat} {A : Nat → Prop} {u U : State} {H : Heap} (hvm : u.vm.Alike U.vm) (h : mStr ad A u H) : mStr ad A U H :=
  ⟨fun i hi => ⟨va_O.moved hvm (h.1 i hi).1, va_OF.moved hvm (h.1 i hi).2.1, va_OF.moved hvm (h.1 i hi).2.2.1, va_T.moved hvm (h.1 i hi).2.2.2⟩, va_T.moved hvm h.2.1, va_T.moved hvm h.2.2⟩
theorem mStr.kept {ad : Nat → Nat} {A : Nat → Prop} {U : State} {H H1 : Heap} (h : mStr ad A U H) (hq : ∀ a : Nat, a < H.size → ¬ A a → H1[a]? = H[a]?) : mStr ad A U H1 :=
  ⟨fun i hi => ⟨(h.1 i hi).1.kept hq, (h.1 i hi).2.1.kept hq, (h.1 i hi).2.2.1.kept hq, (h.1 i hi).2.2.2.kept hq⟩, h.2.1.kept hq, h.2.2.kept hq⟩
theorem mStr.narrow {ad : Nat → Nat} {A B : Nat → Prop} {U : State} {H : Heap} (h : mStr ad A U H) (hAB : ∀ q, B q → A q) : mStr ad B U H :=
  ⟨fun i hi => ⟨(h.1 i hi).1.narrow hAB, (h.1 i hi).2.1.narrow hAB, (h.1 i hi).2.2.1.narrow hAB, (h.1 i hi).2.2.2.narrow hAB⟩, h.2.1.narrow hAB, h.2.2.narrow hAB⟩
/-- an array that is never written -/
theorem mStr.arr {ad : Nat → Nat} {A : Nat → Prop} {U : State} {H : Heap} (h : mStr ad A U H) {a : Nat} {l : List Int32} (ha : mRoA a = some l) : va_T .byte (ad a) l.length (fun j => .int (l.getD j 0)) A U H := by
  unfold mRoA at ha
  split at ha
  · rename_i h1
    simp only [Bool.and_eq_true, Nat.ble_eq] at h1
    have h2 : a < 1117 := by simpa using h1.2
    have h3 := (h.1 (a - 1100) (by omega)).2.2.2
    have e : mRoB.getD (a - 1100) [] = l := by rw [List.getD_eq_getElem?_getD, ha]; rfl
    rw [e, show 1100 + (a - 1100) = a by omega] at h3
    exact h3
  · split at ha
    · rename_i h2
      cases ha
      have : a = 1200 := by simpa using h2
      subst this
      exact h.2.1
    · split at ha
      · rename_i h2
        cases ha
        have : a = 1201 := by simpa using h2
        subst this
        exact h.2.2
      · cases ha
end
section
section MSIM
variable {p : Program} {l : Launch} {e : Env} {R : Room} {s : State} {m : MethodId} {args : Array Value} {below : List Frame} {meth : Method} {c : Code} {cells slots : Nat} {Q : State → Prop}
variable {cc : ByteArray} {D : va_G} {A : Nat → Prop} {ad : Nat → Nat} {cy : Nat → ClassId} {SH : List mH} {own : String} {Ts : List Cond} {nL : Nat} {F : mF} {P : mP}
/-- the machine's goal at a state of the small one -/
def mX (p : Program) (l : Launch) (e : Env) (R : Room) (s : State) (m : MethodId) (args : Array Value) (below : List Frame) (meth : Method) (c : Code) (cells slots : Nat) (Q : State → Prop) (D : va_G) (A : Nat → Prop) (ad : Nat → Nat) (cy : Nat → ClassId) (SH : List mH) (nL : Nat) (σ : mS) : Prop :=
  ∀ (H : Heap) (locs : List Loc) (ls : Array Slot), va_P D vwCl (mWs ad cy SH σ.2.2.2) H → va_S A s.heap H locs → mLH ls nL ad σ.2.1 → W p l e R s m args below meth c H locs cells slots Q (F0 m σ.1 ls (σ.2.2.1.map (mval ad)))
/-- the instruction of a call, by its key -/
def mIns (key : Nat) : Instr := match key % 3 with
  | 0 => .invokevirtual (key / 3)
  | 1 => .invokestatic (key / 3)
  | _ => .invokespecial (key / 3)
/-- a call, as the machine makes it -/
def mCallOK (p : Program) (l : Launch) (e : Env) (R : Room) (s : State) (m : MethodId) (args : Array Value) (below : List Frame) (meth : Method) (c : Code) (cells slots : Nat) (Q : State → Prop) (D : va_G) (A : Nat → Prop) (ad : Nat → Nat) (cy : Nat → ClassId) (SH : List mH) (nL : Nat) (cc : ByteArray) (key n : Nat) (T : mT) : Prop :=
  ∀ (pc : Nat) (H : Heap) (locs : List Loc) (ls : Array Slot) (M : mM) (as rest : List mV) (Po : mP), decode cc pc = .ok (mIns key, 3) → va_P D vwCl (mWs ad cy SH M) H → va_S A s.heap H locs → ls.size = nL → as.length = n → rest.length ≤ 8 → T as M Po →
    (∀ (r : Option mV) (M' : mM) (H' : Heap) (locs' : List Loc), va_P D vwCl (mWs ad cy SH M') H' → va_S A s.heap H' locs' → Po r M' → W p l e R s m args below meth c H' locs' cells slots Q (F0 m (pc + 3) ls ((mRes r rest).map (mval ad)))) →
    W p l e R s m args below meth c H locs cells slots Q (F0 m pc ls ((as.reverse ++ rest).map (mval ad)))
def mCalOK (p : Program) (l : Launch) (e : Env) (R : Room) (s : State) (m : MethodId) (args : Array Value) (below : List Frame) (meth : Method) (c : Code) (cells slots : Nat) (Q : State → Prop) (D : va_G) (A : Nat → Prop) (ad : Nat → Nat) (cy : Nat → ClassId) (SH : List mH) (nL : Nat) (cc : ByteArray) (F : mF) : Prop :=
  ∀ (key n : Nat) (T : mT), F.2.2.1 key = some (n, T) → mCallOK p l e R s m args below meth c cells slots Q D A ad cy SH nL cc key n T
theorem mIns_v (k : Nat) : mIns (3 * k) = .invokevirtual k := by
  unfold mIns
  rw [show 3 * k % 3 = 0 by omega, show 3 * k / 3 = k by omega]
  rfl
theorem mIns_s (k : Nat) : mIns (3 * k + 1) = .invokestatic k := by
  unfold mIns
  rw [show (3 * k + 1) % 3 = 1 by omega, show (3 * k + 1) / 3 = k by omega]
  rfl
theorem mIns_p (k : Nat) : mIns (3 * k + 2) = .invokespecial k := by
  unfold mIns
  rw [show (3 * k + 2) % 3 = 2 by omega, show (3 * k + 2) / 3 = k by omega]
  rfl
def mEndOK (s : State) (args : Array Value) (D : va_G) (A : Nat → Prop) (ad : Nat → Nat) (cy : Nat → ClassId) (SH : List mH) (P : mP) (Qc : Array Value → State → Outcome → State → Prop) : Prop :=
  ∀ (r : Option mV) (M : mM) (H : Heap) (locs : List Loc), P r M → va_P D vwCl (mWs ad cy SH M) H → va_S A s.heap H locs → ∀ t : State, t.heap = H → s.WarmedH t.vm → Qc args s (.returned (r.map (mval ad))) t
theorem mLdcwS {rest : List Value} {pc : Nat} {ls : Array Slot} {H : Heap} {locs : List Loc} (hexec : p.tables.exec = Jvm.exec) (hb : c.code = cc) {own tx : String} {index q : Nat} (hown : s.vm.findClass own = some m.cls) (hZ : vk_R own index tx q s) (hdg : decode cc pc = .ok (.ldc_w index, 3))
    (k : W p l e R s m args below meth c H locs cells slots Q (F0 m (pc + 3) ls (.ref q :: rest))) : W p l e R s m args below meth c H locs cells slots Q (F0 m pc ls rest) := by
  intro T hT X
  obtain ⟨t, a1, b1⟩ := k T hT X
  refine ⟨t, ?_, b1⟩
  obtain ⟨k, cf, i, a', hk, hcf, hcp, -, hr, hev'⟩ := Cond.stringRef_spec hown hZ.1
  cases hZ.2.symm.trans hev'
  obtain ⟨k', hk', he⟩ := X.warmed.alike.2.2 _ _ hk
  have hr' : k'.resolved[index]? = some (some (.string q)) := by
    rcases X.warmed.entry hk hk' index with h | ⟨h, -⟩
    · rw [h]; exact hr
    · rw [hr] at h; cases h
  subst hb
  jvm_step X.here [hexec, hdg, ldc_w.wp_string (e := e) (s := T) (f := F0 m pc ls rest) X.here.top hk' (by rw [he]; exact hcf) hcp hr']
  exact a1
theorem mAald {ws : va_W} {H : Heap} {locs : List Loc} {pc : Nat} {ls : Array Slot} {rest : List Value} {tys : List (ClassId × FieldType)} {cl : List vw_C} {a : Nat} (hexec : p.tables.exec = Jvm.exec) (hb : c.code = cc) (hK : va_K D cl tys s) (hP : va_P D cl ws H) (q0 t0 : Nat) {cA : ClassId} {ty : FieldType} {n : Nat} {f : Nat → Option Nat} (ha : ws[q0]? = some (a, .inl (cA, n, .inr (.inr (.inr (.inr f)))))) (ht : tys[t0]? = some (cA, ty)) (hty : ty.isReference = true) {i : Int32} (hin : vp_in i n) (hdg : decode cc pc = .ok (.aaload, 1))
    (kk : W p l e R s m args below meth c H locs cells slots Q (F0 m (pc + 1) ls (va_rf (f i.toNatClampNeg) :: rest))) : W p l e R s m args below meth c H locs cells slots Q (F0 m pc ls (.int i :: .ref a :: rest)) := by
  have hlt : i.toNatClampNeg < n := Nat.not_le.mp fun q => hin (Or.inr q)
  exact W.aald (v := va_rf (f i.toNatClampNeg)) (ty := ty) hexec hb (hP q0 _ ha) ((hK.2 t0 _ ht).1 n (fun j => va_rf (f j))) hty (fun q => by cases q) (by show ¬ (i < 0 ∨ (arrV _ _ _).slots.size ≤ _); rw [arrV_size]; exact hin) (by show (arrV _ _ _).slots[_]? = _; rw [arrV_read _ _ hlt]) rfl rfl hdg kk
set_option maxHeartbeats 8000000 in
theorem mOp_sim {Qc : Array Value → State → Outcome → State → Prop} (hx : p.tables.exec = Jvm.exec) (hb : c.code = cc) (hml : c.maxLocals = nL) (hr : meth.sig.returnType = F.2.2.2.2.2) (hlk : meth.locks = false) (hts : ∀ w ∈ Ts, w.before args s = true) (hown : s.vm.findClass own = some m.cls)
    (hK : va_K D vwCl (mTys cy) s) (hD : ∀ M, va_D A (mWs ad cy SH M)) (hfld : mFldOK own F Ts) (hcst : mCstOK own F ad args s) (hsta : mStaOK own F ad A s Ts) (hstr : mStr ad A s s.heap) (hcal : mCalOK p l e R s m args below meth c cells slots (MQ below Qc args s cells slots A) D A ad cy SH nL cc F) (hend : mEndOK s args D A ad cy SH P Qc)
    {x : mI} {pc : Nat} {L : mL} {S : List mV} {M : mM} (hdg : decode cc pc = .ok (x.1, x.2.1)) (haux : mAux pc x = true)
    (w : mOp SH F P (mX p l e R s m args below meth c cells slots (MQ below Qc args s cells slots A) D A ad cy SH nL) x pc L S M) : mX p l e R s m args below meth c cells slots (MQ below Qc args s cells slots A) D A ad cy SH nL (pc, L, S, M) := by
  obtain ⟨i, n, a, v, tl⟩ := x
  intro H locs ls hP hS hL
  dsimp only at hP hL ⊢
  cases i
  case iconst k =>
    simp only [mAux, Bool.and_eq_true, decide_eq_true_eq] at haux
    obtain ⟨h1, rfl⟩ := haux
    exact lv_iconst hx hb hdg h1 (w H locs ls hP hS hL)
  case bipush k =>
    simp only [mAux, Bool.and_eq_true, decide_eq_true_eq] at haux
    obtain ⟨h1, rfl⟩ := haux
    exact lv_bipush hx hb hdg h1 (w H locs ls hP hS hL)
  case sipush k =>
    simp only [mAux, Bool.and_eq_true, decide_eq_true_eq] at haux
    obtain ⟨h1, rfl⟩ := haux
    exact lv_sipush hx hb hdg h1 (w H locs ls hP hS hL)
  case ldc k =>
    simp only [mAux, decide_eq_true_eq] at haux
    subst haux
    simp only [mOp] at w
    split at w
    · rename_i u hu
      rcases hcst k u hu with ⟨y, rfl, h2⟩ | ⟨q, tx, rfl, h2⟩
      · exact lv_ldc hx hb hown h2 hdg (w H locs ls hP hS hL)
      · exact va_ldcS hx hb hown h2 hdg (w H locs ls hP hS hL)
    · exact w.elim
  case aconst_null =>
    simp only [mAux, decide_eq_true_eq] at haux
    subst haux
    exact lv_null hx hb hdg (w H locs ls hP hS hL)
  case iload_n k =>
    simp only [mAux, Bool.and_eq_true, decide_eq_true_eq] at haux
    obtain ⟨h1, rfl⟩ := haux
    simp only [mOp, mLd] at w
    split at w
    · rename_i y hv
      exact lv_iload_n hx hb hdg h1 (hL.2.2.2 _ _ hv) (w H locs ls hP hS hL)
    · exact w.elim
  case iload k =>
    simp only [mAux, Bool.and_eq_true, decide_eq_true_eq] at haux
    obtain ⟨rfl, rfl⟩ := haux
    simp only [mOp, mLd] at w
    split at w
    · rename_i y hv
      exact lv_iload hx hb hdg (hL.2.2.2 _ _ hv) (w H locs ls hP hS hL)
    · exact w.elim
  case aload_n k =>
    simp only [mAux, Bool.and_eq_true, decide_eq_true_eq] at haux
    obtain ⟨h1, rfl⟩ := haux
    simp only [mOp, mLa] at w
    split at w
    · rename_i y hv
      cases y with
      | none => exact lv_aload_nN hx hb hdg h1 (hL.2.2.2 _ _ hv) (w H locs ls hP hS hL)
      | some q => exact lv_aload_n hx hb hdg h1 (hL.2.2.2 _ _ hv) (w H locs ls hP hS hL)
    · exact w.elim
  case aload k =>
    simp only [mAux, Bool.and_eq_true, decide_eq_true_eq] at haux
    obtain ⟨rfl, rfl⟩ := haux
    simp only [mOp, mLa] at w
    split at w
    · rename_i y hv
      cases y with
      | none => exact lv_aloadN hx hb hdg (hL.2.2.2 _ _ hv) (w H locs ls hP hS hL)
      | some q => exact lv_aload hx hb hdg (hL.2.2.2 _ _ hv) (w H locs ls hP hS hL)
    · exact w.elim
  case istore_n k =>
    simp only [mAux, Bool.and_eq_true, decide_eq_true_eq] at haux
    obtain ⟨h1, rfl⟩ := haux
    simp only [mOp, mSt] at w
    split at w
    · split at w
      · rename_i hlt
        have hi : a < nL := by rw [← hL.2.2.1]; simpa using hlt
        exact lv_istore_n hx hb hdg h1 hL.has hi rfl (fun ls' h' => w H locs ls' hP hS (hL.set hi h'))
      · exact w.elim
    · exact w.elim
  case istore k =>
    simp only [mAux, Bool.and_eq_true, decide_eq_true_eq] at haux
    obtain ⟨rfl, rfl⟩ := haux
    simp only [mOp, mSt] at w
    split at w
    · split at w
      · rename_i hlt
        have hi : k < nL := by rw [← hL.2.2.1]; simpa using hlt
        exact lv_istore hx hb hdg hL.has hi rfl (fun ls' h' => w H locs ls' hP hS (hL.set hi h'))
      · exact w.elim
    · exact w.elim
  case astore_n k =>
    simp only [mAux, Bool.and_eq_true, decide_eq_true_eq] at haux
    obtain ⟨h1, rfl⟩ := haux
    simp only [mOp, mSa] at w
    split at w
    · rename_i y r
      split at w
      · rename_i hlt
        have hi : a < nL := by rw [← hL.2.2.1]; simpa using hlt
        cases y with
        | none => exact lv_astore_nN hx hb hdg h1 hL.has hi rfl (fun ls' h' => w H locs ls' hP hS (hL.set hi h'))
        | some q => exact lv_astore_n hx hb hdg h1 hL.has hi rfl (fun ls' h' => w H locs ls' hP hS (hL.set hi h'))
      · exact w.elim
    · exact w.elim
  case astore k =>
    simp only [mAux, Bool.and_eq_true, decide_eq_true_eq] at haux
    obtain ⟨rfl, rfl⟩ := haux
    simp only [mOp, mSa] at w
    split at w
    · rename_i y r
      split at w
      · rename_i hlt
        have hi : k < nL := by rw [← hL.2.2.1]; simpa using hlt
        cases y with
        | none => exact lv_astoreN hx hb hdg hL.has hi rfl (fun ls' h' => w H locs ls' hP hS (hL.set hi h'))
        | some q => exact lv_astore hx hb hdg hL.has hi rfl (fun ls' h' => w H locs ls' hP hS (hL.set hi h'))
      · exact w.elim
    · exact w.elim
  case iinc k z =>
    simp only [mAux, Bool.and_eq_true, decide_eq_true_eq] at haux
    obtain ⟨⟨rfl, h2⟩, rfl⟩ := haux
    simp only [mOp] at w
    split at w
    · rename_i y hv
      have hi : k < nL := by rw [← hL.2.2.1]; exact (List.getElem?_eq_some_iff.mp hv).1
      obtain ⟨j, hj⟩ := List.getElem?_of_mem (mAs_mem (ad := ad) (q := (k, Value.int y)).mpr ⟨_, hv, rfl⟩)
      exact lv_iinc (v := y + v) hx hb hdg hL.has hj (by rw [h2]) hi rfl (fun ls' h' => w H locs ls' hP hS (hL.set hi h'))
    · exact w.elim
  case iadd | isub | imul | ishl | ishr | iand | ior | ixor =>
    simp only [mAux, decide_eq_true_eq] at haux
    subst haux
    simp only [mOp, mBin] at w
    split at w
    · first
        | exact lv_iadd hx hb hdg (w H locs ls hP hS hL)
        | exact lv_isub hx hb hdg (w H locs ls hP hS hL)
        | exact lv_imul hx hb hdg (w H locs ls hP hS hL)
        | exact lv_ishl hx hb hdg (w H locs ls hP hS hL)
        | exact lv_ishr hx hb hdg (w H locs ls hP hS hL)
        | exact lv_iand hx hb hdg (w H locs ls hP hS hL)
        | exact lv_ior hx hb hdg (w H locs ls hP hS hL)
        | exact lv_ixor hx hb hdg (w H locs ls hP hS hL)
    · exact w.elim
  case iushr =>
    simp only [mAux, decide_eq_true_eq] at haux
    subst haux
    simp only [mOp, mBin] at w
    split at w
    · exact lv_iushr hx hb hdg rfl (w H locs ls hP hS hL)
    · exact w.elim
  case idiv =>
    simp only [mAux, decide_eq_true_eq] at haux
    subst haux
    simp only [mOp, mDiv] at w
    split at w
    · exact lv_idiv hx hb hdg w.1 (w.2 H locs ls hP hS hL)
    · exact w.elim
  case irem =>
    simp only [mAux, decide_eq_true_eq] at haux
    subst haux
    simp only [mOp, mDiv] at w
    split at w
    · exact lv_irem hx hb hdg w.1 (w.2 H locs ls hP hS hL)
    · exact w.elim
  case ineg =>
    simp only [mAux, decide_eq_true_eq] at haux
    subst haux
    simp only [mOp, mUn] at w
    split at w
    · exact lv_ineg hx hb hdg (w H locs ls hP hS hL)
    · exact w.elim
  case i2b =>
    simp only [mAux, decide_eq_true_eq] at haux
    subst haux
    simp only [mOp, mUn] at w
    split at w
    · exact lv_i2b hx hb hdg rfl (w H locs ls hP hS hL)
    · exact w.elim
  case i2c =>
    simp only [mAux, decide_eq_true_eq] at haux
    subst haux
    simp only [mOp, mUn] at w
    split at w
    · exact lv_i2c hx hb hdg rfl (w H locs ls hP hS hL)
    · exact w.elim
  case ldc_w k =>
    simp only [mAux, decide_eq_true_eq] at haux
    subst haux
    simp only [mOp] at w
    split at w
    · rename_i u hu
      rcases hcst k u hu with ⟨y, rfl, h2⟩ | ⟨q, tx, rfl, h2⟩
      · exact lv_ldcw hx hb hown h2 hdg (w H locs ls hP hS hL)
      · exact mLdcwS hx hb hown h2 hdg (w H locs ls hP hS hL)
    · exact w.elim
  case dup =>
    simp only [mAux, decide_eq_true_eq] at haux
    subst haux
    simp only [mOp] at w
    split at w
    · exact lv_dup hx hb hdg (mval_cat _ _) (w H locs ls hP hS hL)
    · exact w.elim
  case pop =>
    simp only [mAux, decide_eq_true_eq] at haux
    subst haux
    simp only [mOp] at w
    split at w
    · exact lv_pop hx hb hdg (mval_cat _ _) (w H locs ls hP hS hL)
    · exact w.elim
  case dup_x1 =>
    simp only [mAux, decide_eq_true_eq] at haux
    subst haux
    simp only [mOp] at w
    split at w
    · exact lv_dup_x1 hx hb hdg (mval_cat _ _) (mval_cat _ _) (w H locs ls hP hS hL)
    · exact w.elim
  case dup2 =>
    simp only [mAux, decide_eq_true_eq] at haux
    subst haux
    simp only [mOp] at w
    split at w
    · exact lv_dup2_11 hx hb hdg (mval_cat _ _) (mval_cat _ _) (w H locs ls hP hS hL)
    · exact w.elim
  case getstatic k =>
    simp only [mAux, decide_eq_true_eq] at haux
    subst haux
    simp only [mOp] at w
    split at w
    · rename_i u hu
      obtain ⟨C, nm, d, h1, h2⟩ := hsta k u hu
      exact va_gets hx hb h1 hS hown (hts _ h2) (fun _ z => z) hdg (w H locs ls hP hS hL)
    · exact w.elim
  case getfield k =>
    simp only [mAux, decide_eq_true_eq] at haux
    subst haux
    simp only [mOp, mGet] at w
    split at w
    · rename_i q r
      split at w
      · rename_i hro
        have hq : 1000 ≤ q ∧ q < 1017 := by simpa [mRoS] using hro
        obtain ⟨-, hs1, hs2, -⟩ := hstr.1 (q - 1000) (by omega)
        rw [show 1000 + (q - 1000) = q by omega] at hs1 hs2
        split at w
        · rename_i z hz
          obtain ⟨ci, fk, b⟩ := z
          obtain ⟨C, T, N, ty, h1, h2, h3, h4, -⟩ := hfld k ci fk b hz
          split at w
          · rename_i e1 e2
            dsimp only at e1 e2
            subst e1; subst e2
            cases h1
            rw [show 1100 + (q - 1000) = q + 100 by omega] at hs2
            exact vk_getf hx hb hs2 hS hown (hts _ h3) (fun _ z => z) hdg (w H locs ls hP hS hL)
          · rename_i e1 e2
            dsimp only at e1 e2
            subst e1; subst e2
            cases h1
            exact vk_getf hx hb hs1 hS hown (hts _ h3) (fun _ z => z) hdg (w H locs ls hP hS hL)
          · exact w.elim
        · exact w.elim
      · split at w
        · rename_i h z hh hz
          obtain ⟨ci, fk, b⟩ := z
          obtain ⟨C, T, N, ty, h1, h2, h3, h4, -⟩ := hfld k ci fk b hz
          have he := mWs_get (ad := ad) (cy := cy) (M := M) hh
          split at w
          · rename_i h5 h6
            obtain ⟨kd, sz, rs⟩ := h
            obtain rfl : kd = ci + 5 := by simpa using h5
            exact va_get hx hb hts h4 hown hK hP q he h1 fk h2 (hts _ h3) (fun _ z => z) (by rw [mFld_int (ad := ad) (f := M q) (k := 0) h6, Nat.zero_add]; rfl) hdg (w H locs ls hP hS hL)
          · rename_i c2 h5 h6
            obtain ⟨kd, sz, rs⟩ := h
            obtain rfl : kd = ci + 5 := by simpa using h5
            exact va_get hx hb hts h4 hown hK hP q he h1 fk h2 (hts _ h3) (fun _ z => z) (mFld_ref (ad := ad) (f := M q) (k := 0) h6) hdg (w H locs ls hP hS hL)
          · exact w.elim
        · exact w.elim
    · exact w.elim
  case putfield k =>
    simp only [mAux, decide_eq_true_eq] at haux
    subst haux
    simp only [mOp, mPut] at w
    split at w
    · rename_i x q r
      split at w
      · rename_i h z hh hz
        obtain ⟨ci, fk, b⟩ := z
        obtain ⟨C, T, N, ty, h1, h2, h3, h4, h5, h6, h7, h8, h9, h10⟩ := hfld k ci fk b hz
        have he := mWs_get (ad := ad) (cy := cy) (M := M) hh
        split at w
        · rename_i h11 h12
          obtain ⟨kd, sz, rs⟩ := h
          obtain rfl : kd = ci + 5 := by simpa using h11
          have hset : ∀ H1 : Heap, va_P D vwCl ((mWs ad cy SH M).set q (ad q, .inr (ci, (mFld ad (M q) 0 rs).set fk (.int x)))) H1 → va_P D vwCl (mWs ad cy SH (mW1 M q fk x)) H1 := by
            intro H1 h
            rw [mFld_set h12, Nat.zero_add] at h
            rw [mW1, ← mWs_set hh]
            exact h
          have hlen : fk < (mFld ad (M q) 0 rs).length := by rw [mFld_len]; exact (List.getElem?_eq_some_iff.mp h12).1
          split at w
          · rename_i hb0
            dsimp only at hb0
            subst hb0
            exact va_put hx hb hts h4 ty h5 h6 hown hK hP (hD M) hS q he h1 fk h2 (hts _ h3) (fun _ z => z) (h7.resolve_left (by decide)) (h5 fk h2) (ty := ty fk) (by rw [h8 rfl]; rfl) (by rw [h8 rfl]; rfl) hlen hdg (fun H1 locs1 hP1 _ hS1 => w H1 locs1 ls (hset H1 hP1) hS1 hL)
          · rename_i hb0
            dsimp only at hb0
            subst hb0
            refine va_put hx hb hts h4 ty h5 h6 hown hK hP (hD M) hS q he h1 fk h2 (hts _ h3) (fun _ z => z) (h7.resolve_left (by decide)) (h5 fk h2) (ty := ty fk) ?_ ?_ hlen hdg (fun H1 locs1 hP1 _ hS1 => w.2 H1 locs1 ls (hset H1 hP1) hS1 hL)
            · rw [h9 rfl]
              rcases w.1 with rfl | rfl <;> rfl
            · rw [h9 rfl]
              rcases w.1 with rfl | rfl <;> rfl
          · rename_i hb0
            dsimp only at hb0
            subst hb0
            refine va_put hx hb hts h4 ty h5 h6 hown hK hP (hD M) hS q he h1 fk h2 (hts _ h3) (fun _ z => z) (h7.resolve_left (by decide)) (h5 fk h2) (ty := ty fk) ?_ ?_ hlen hdg (fun H1 locs1 hP1 _ hS1 => w.2 H1 locs1 ls (hset H1 hP1) hS1 hL)
            · rw [h10 rfl, ← w.1]
              exact pk_nb x
            · rw [h10 rfl, ← w.1]
              exact pk_fb x
          · exact w.elim
        · exact w.elim
      · exact w.elim
    · exact w.elim
  case iaload =>
    simp only [mAux, decide_eq_true_eq] at haux
    subst haux
    simp only [mOp, mArr] at w
    split at w
    · rename_i i q r
      split at w
      · rename_i h hh
        have he := mWs_get (ad := ad) (cy := cy) (M := M) hh
        split at w
        · rename_i h5
          obtain ⟨kd, sz, rs⟩ := h
          obtain rfl : kd = 0 := by simpa using h5
          exact va_iald hx hb hK hP q 0 he rfl w.1 hdg (w.2 H locs ls hP hS hL)
        · exact w.elim
      · exact w.elim
    · exact w.elim
  case baload =>
    simp only [mAux, decide_eq_true_eq] at haux
    subst haux
    simp only [mOp, mBal] at w
    split at w
    · rename_i i q r
      split at w
      · rename_i lst hro
        exact va_tb hx hb (hstr.arr hro) hS w.1 rfl hdg (w.2 H locs ls hP hS hL)
      · split at w
        · rename_i h hh
          have he := mWs_get (ad := ad) (cy := cy) (M := M) hh
          split at w
          · rename_i h5
            obtain ⟨kd, sz, rs⟩ := h
            obtain rfl : kd = 3 := by simpa using h5
            exact va_bald hx hb hK hP q 3 he rfl w.1 hdg (w.2 H locs ls hP hS hL)
          · exact w.elim
        · exact w.elim
    · exact w.elim
  case iastore =>
    simp only [mAux, decide_eq_true_eq] at haux
    subst haux
    simp only [mOp, mArs] at w
    split at w
    · rename_i x i q r
      split at w
      · rename_i h hh
        have he := mWs_get (ad := ad) (cy := cy) (M := M) hh
        split at w
        · rename_i h5
          obtain ⟨kd, sz, rs⟩ := h
          obtain rfl : kd = 0 := by simpa using h5
          exact va_iast hx hb hK hP (hD M) hS q 0 he rfl w.1 hdg (fun H1 locs1 hP1 _ hS1 => w.2 H1 locs1 ls (by rw [mW1, ← mWs_set hh]; exact hP1) hS1 hL)
        · exact w.elim
      · exact w.elim
    · exact w.elim
  case bastore =>
    simp only [mAux, decide_eq_true_eq] at haux
    subst haux
    simp only [mOp, mArs] at w
    split at w
    · rename_i x i q r
      split at w
      · rename_i h hh
        have he := mWs_get (ad := ad) (cy := cy) (M := M) hh
        split at w
        · rename_i h5
          obtain ⟨kd, sz, rs⟩ := h
          obtain rfl : kd = 3 := by simpa using h5
          exact va_bast hx hb hK hP (hD M) hS q 3 he rfl w.1 hdg (fun H1 locs1 hP1 _ hS1 => w.2 H1 locs1 ls (by rw [mW1, ← mWs_set hh]; exact hP1) hS1 hL)
        · exact w.elim
      · exact w.elim
    · exact w.elim
  case aaload =>
    simp only [mAux, decide_eq_true_eq] at haux
    subst haux
    simp only [mOp, mArq] at w
    split at w
    · rename_i i q r
      split at w
      · rename_i h hh
        have he := mWs_get (ad := ad) (cy := cy) (M := M) hh
        split at w
        · rename_i h5
          obtain ⟨kd, sz, rs⟩ := h
          obtain rfl : kd = 1 := h5
          exact mAald hx hb hK hP q 1 he rfl (by rfl) w.1 hdg (w.2 H locs ls hP hS hL)
        · rename_i h5
          obtain ⟨kd, sz, rs⟩ := h
          obtain rfl : kd = 2 := h5
          exact mAald hx hb hK hP q 2 he rfl (by rfl) w.1 hdg (w.2 H locs ls hP hS hL)
        · exact w.elim
      · exact w.elim
    · exact w.elim
  case arraylength =>
    simp only [mAux, decide_eq_true_eq] at haux
    subst haux
    simp only [mOp, mLen] at w
    split at w
    · rename_i q r
      split at w
      · rename_i lst hro
        exact va_tlen hx hb (hstr.arr hro) hS rfl hdg (w H locs ls hP hS hL)
      · split at w
        · rename_i h hh
          have he := mWs_get (ad := ad) (cy := cy) (M := M) hh
          split at w
          · rename_i h5
            obtain ⟨kd, sz, rs⟩ := h
            have h6 : kd < 4 := by simpa using h5
            obtain rfl | rfl | rfl | rfl : kd = 0 ∨ kd = 1 ∨ kd = 2 ∨ kd = 3 := by omega
            · exact va_alen hx hb hK hP q 0 he rfl rfl hdg (w H locs ls hP hS hL)
            · exact va_alen hx hb hK hP q 1 he rfl rfl hdg (w H locs ls hP hS hL)
            · exact va_alen hx hb hK hP q 2 he rfl rfl hdg (w H locs ls hP hS hL)
            · exact va_alen hx hb hK hP q 3 he rfl rfl hdg (w H locs ls hP hS hL)
          · exact w.elim
        · exact w.elim
    · exact w.elim
  case ifCond k o =>
    simp only [mAux, Bool.and_eq_true, decide_eq_true_eq] at haux
    obtain ⟨h1, rfl⟩ := haux
    cases k <;> simp only [mOp, mIf1] at w <;> split at w
    all_goals first
      | exact w.elim
      | exact lv_if_eq hx hb hdg h1 (fun z => w.1 z H locs ls hP hS hL) (fun z => w.2 z H locs ls hP hS hL)
      | exact lv_if_ne hx hb hdg h1 (fun z => w.1 z H locs ls hP hS hL) (fun z => w.2 (fun y => y z) H locs ls hP hS hL)
      | exact lv_if_lt hx hb hdg h1 (fun z => w.1 z H locs ls hP hS hL) (fun z => w.2 z H locs ls hP hS hL)
      | exact lv_if_ge hx hb hdg h1 (fun z => w.1 z H locs ls hP hS hL) (fun z => w.2 z H locs ls hP hS hL)
      | exact lv_if_gt hx hb hdg h1 (fun z => w.1 z H locs ls hP hS hL) (fun z => w.2 z H locs ls hP hS hL)
      | exact lv_if_le hx hb hdg h1 (fun z => w.1 z H locs ls hP hS hL) (fun z => w.2 z H locs ls hP hS hL)
  case if_icmp k o =>
    simp only [mAux, Bool.and_eq_true, decide_eq_true_eq] at haux
    obtain ⟨h1, rfl⟩ := haux
    cases k <;> simp only [mOp, mIf2] at w <;> split at w
    all_goals first
      | exact w.elim
      | exact lv_icmp_eq hx hb hdg h1 (fun z => w.1 z H locs ls hP hS hL) (fun z => w.2 z H locs ls hP hS hL)
      | exact lv_icmp_ne hx hb hdg h1 (fun z => w.1 z H locs ls hP hS hL) (fun z => w.2 (fun y => y z) H locs ls hP hS hL)
      | exact lv_icmp_lt hx hb hdg h1 (fun z => w.1 z H locs ls hP hS hL) (fun z => w.2 z H locs ls hP hS hL)
      | exact lv_icmp_ge hx hb hdg h1 (fun z => w.1 z H locs ls hP hS hL) (fun z => w.2 z H locs ls hP hS hL)
      | exact lv_icmp_gt hx hb hdg h1 (fun z => w.1 z H locs ls hP hS hL) (fun z => w.2 z H locs ls hP hS hL)
      | exact lv_icmp_le hx hb hdg h1 (fun z => w.1 z H locs ls hP hS hL) (fun z => w.2 z H locs ls hP hS hL)
  case goto o =>
    simp only [mAux, Bool.and_eq_true, decide_eq_true_eq] at haux
    obtain ⟨h1, rfl⟩ := haux
    exact lv_goto hx hb hdg h1 (w H locs ls hP hS hL)
  case ifnull o =>
    simp only [mAux, Bool.and_eq_true, decide_eq_true_eq] at haux
    obtain ⟨h1, rfl⟩ := haux
    simp only [mOp, mNul] at w
    split at w
    · exact lv_ifnullN hx hb hdg h1 (w H locs ls hP hS hL)
    · exact lv_ifnull hx hb hdg (w H locs ls hP hS hL)
    · exact w.elim
  case ifnonnull o =>
    simp only [mAux, Bool.and_eq_true, decide_eq_true_eq] at haux
    obtain ⟨h1, rfl⟩ := haux
    simp only [mOp, mNul] at w
    split at w
    · exact lv_ifnonnullN hx hb hdg (w H locs ls hP hS hL)
    · exact lv_ifnonnull hx hb hdg h1 (w H locs ls hP hS hL)
    · exact w.elim
  case tableswitch d lo hi os =>
    simp only [mAux, Bool.and_eq_true, decide_eq_true_eq] at haux
    obtain ⟨⟨h1, h2⟩, h3⟩ := haux
    simp only [mOp] at w
    split at w
    · rename_i x r
      rcases mTabs_sw h3 w with ⟨o, t, k, k1, k2, k3, k4⟩ | ⟨k1, k2⟩
      · have hk : k < os.toList.length := (List.getElem?_eq_some_iff.mp k1).1
        exact lv_tableIn hx hb hdg (by omega) (by omega) (off := o) (tgt := t) (by rw [show (x.toInt - lo).toNat = k by omega, ← Array.getElem?_toList]; exact k1) k3 (k4 H locs ls hP hS hL)
      · exact lv_tableOut hx hb hdg (by omega) h1 (k2 H locs ls hP hS hL)
    · exact w.elim
  case lookupswitch d ps =>
    simp only [mAux, Bool.and_eq_true, decide_eq_true_eq] at haux
    obtain ⟨⟨h1, h2⟩, h3⟩ := haux
    simp only [mOp] at w
    split at w
    · rename_i x r
      obtain ⟨t, k1, k2⟩ := mLks_sw h1 h3 w
      exact lv_lookup hx hb hdg h2 rfl k1 (k2 H locs ls hP hS hL)
    · exact w.elim
  case invokevirtual k =>
    simp only [mAux, decide_eq_true_eq] at haux
    subst haux
    simp only [mOp, mCal] at w
    split at w
    · rename_i q hq
      split at w
      · rename_i hlen
        simp only [Bool.and_eq_true, Nat.ble_eq] at hlen
        have e : (((S.take q.1).reverse).reverse ++ S.drop q.1) = S := by rw [List.reverse_reverse, List.take_append_drop]
        have := hcal (3 * k) q.1 q.2 hq pc H locs ls M ((S.take q.1).reverse) (S.drop q.1) _ (by rw [mIns_v]; exact hdg) hP hS hL.1 (by simp; omega) (by simp; omega) w (fun r M' H' locs' hP' hS' hw => hw H' locs' ls hP' hS' hL)
        rw [e] at this
        exact this
      · exact w.elim
    · exact w.elim
  case invokestatic k =>
    simp only [mAux, decide_eq_true_eq] at haux
    subst haux
    simp only [mOp, mCal] at w
    split at w
    · rename_i q hq
      split at w
      · rename_i hlen
        simp only [Bool.and_eq_true, Nat.ble_eq] at hlen
        have e : (((S.take q.1).reverse).reverse ++ S.drop q.1) = S := by rw [List.reverse_reverse, List.take_append_drop]
        have := hcal (3 * k + 1) q.1 q.2 hq pc H locs ls M ((S.take q.1).reverse) (S.drop q.1) _ (by rw [mIns_s]; exact hdg) hP hS hL.1 (by simp; omega) (by simp; omega) w (fun r M' H' locs' hP' hS' hw => hw H' locs' ls hP' hS' hL)
        rw [e] at this
        exact this
      · exact w.elim
    · exact w.elim
  case invokespecial k =>
    simp only [mAux, decide_eq_true_eq] at haux
    subst haux
    simp only [mOp, mCal] at w
    split at w
    · rename_i q hq
      split at w
      · rename_i hlen
        simp only [Bool.and_eq_true, Nat.ble_eq] at hlen
        have e : (((S.take q.1).reverse).reverse ++ S.drop q.1) = S := by rw [List.reverse_reverse, List.take_append_drop]
        have := hcal (3 * k + 2) q.1 q.2 hq pc H locs ls M ((S.take q.1).reverse) (S.drop q.1) _ (by rw [mIns_p]; exact hdg) hP hS hL.1 (by simp; omega) (by simp; omega) w (fun r M' H' locs' hP' hS' hw => hw H' locs' ls hP' hS' hL)
        rw [e] at this
        exact this
      · exact w.elim
    · exact w.elim
  case ireturn =>
    simp only [mAux, decide_eq_true_eq] at haux
    subst haux
    simp only [mOp, mEnd] at w
    split at w
    · rename_i y
      generalize hret : F.2.2.2.2.2 = ret at w hr
      split at w
      · exact W.zret hx hb hr rfl (fun t ht hW => hend _ M H locs w hP hS t ht hW) hS.2.2 hdg
      · exact W.zret hx hb hr (by rcases w.1 with rfl | rfl <;> decide) (fun t ht hW => hend _ M H locs w.2 hP hS t ht hW) hS.2.2 hdg
      · exact W.zret hx hb hr (by have := pk_nc y; rw [w.1] at this; exact this) (fun t ht hW => hend _ M H locs w.2 hP hS t ht hW) hS.2.2 hdg
      · exact W.zret hx hb hr (by have := pk_nb y; rw [w.1] at this; exact this) (fun t ht hW => hend _ M H locs w.2 hP hS t ht hW) hS.2.2 hdg
      · exact w.elim
    · exact w.elim
  case areturn =>
    simp only [mAux, decide_eq_true_eq] at haux
    subst haux
    simp only [mOp, mEndA] at w
    split at w
    · rename_i y
      have hy : va_rf (y.map ad) = .null ∨ ∃ a, va_rf (y.map ad) = .ref a := by
        cases y with
        | none => exact Or.inl rfl
        | some z => exact Or.inr ⟨_, rfl⟩
      generalize hret : F.2.2.2.2.2 = ret at w hr
      split at w
      · rename_i n
        exact W.aret hx hb hr (Or.inl ⟨n, rfl⟩) hy (fun t ht hW => hend _ M H locs w hP hS t ht hW) hS.2.2 hdg
      · rename_i n
        exact W.aret hx hb hr (Or.inr ⟨n, rfl⟩) hy (fun t ht hW => hend _ M H locs w hP hS t ht hW) hS.2.2 hdg
      · exact w.elim
    · exact w.elim
  case return_ =>
    simp only [mAux, decide_eq_true_eq] at haux
    subst haux
    simp only [mOp, mEndV] at w
    split at w
    · generalize hret : F.2.2.2.2.2 = ret at w hr
      split at w
      · exact W.vret hx hb hr (fun t ht hW => hend none M H locs w hP hS t ht hW) hS.2.2 hdg
      · exact w.elim
    · exact w.elim
  all_goals exact (show False from w).elim
end MSIM
end
section
/-! ===== CONTRACTS OF THE SMALL MACHINE'S METHODS ===== -/
def mGW : List Cond := lw_tbl.filter goodWord
theorem mGW_good : ∀ w ∈ mGW, w ∈ lw_tbl ∧ ((w.onTables && w.keeps) = true ∨ ∃ ty, w = .arrayClass ty) := fun w h => by
  obtain ⟨h1, h2⟩ := List.mem_filter.mp h
  exact ⟨h1, good_of_word h2⟩
def mNest : Cond → Bool
  | .methodLinkNest .. => true
  | _ => false
def mWd (y : MethodName) (bytes : ByteArray) (maxL : Nat) (ret : Option FieldType) : List Cond := .code y bytes maxL ret :: mGW
def mRm (d : Nat) : Room := { frames := d, cells := 0, slots := 0, locals := 48 * d }
def mRf (ad : Nat → Nat) (U : State) : Prop := ∀ q ∈ ([("TrickHouse", 326, "deal", 0), ("TrickHouse", 328, "bid", 1), ("TrickHouse", 330, "pass", 2), ("TrickHouse", 332, "double", 3), ("TrickHouse", 334, "redouble", 4), ("TrickHouse", 336, "play", 5), ("TrickHouse", 337, "claim", 6), ("TrickHouse", 339, "rank", 7), ("TrickHouse", 341, "rule", 8), ("TrickHouse", 343, "", 9), ("TrickHouseModel", 267, "c", 10), ("TrickHouseModel", 269, "d", 11), ("TrickHouseModel", 271, "h", 12), ("TrickHouseModel", 273, "s", 13), ("TrickHouseModel", 275, "n", 14), ("TrickHouseModel", 243, "deal", 0), ("TrickHouseModel", 245, "bid", 1), ("TrickHouseModel", 246, "pass", 2), ("TrickHouseModel", 248, "double", 3), ("TrickHouseModel", 250, "redouble", 4), ("TrickHouseModel", 252, "play", 5), ("TrickHouseModel", 254, "claim", 6), ("TrickHouseModel", 256, "rank", 7), ("TrickHouseModel", 258, "rule", 8), ("TrickHouseModel", 326, "cdhsn", 15), ("TrickHouseModel", 335, " ", 16)] : List (String × Nat × String × Nat)), vk_R q.1 q.2.1 q.2.2.1 (ad (1000 + q.2.2.2)) U
def mZs (ad : Nat → Nat) (o : Option Nat) (A : Nat → Prop) (U : State) (H : Heap) : Prop :=
  va_Z "java/lang/String" "COMPACT_STRINGS" "Z" (.int 1) A U H ∧ va_Z "java/lang/Integer" "DigitTens" "[B" (.ref (ad 1200)) A U H ∧ va_Z "java/lang/Integer" "DigitOnes" "[B" (.ref (ad 1201)) A U H ∧
  va_Z "jdk/internal/util/Preconditions" "SIOOBE_FORMATTER" "Ljava/util/function/BiFunction;" (va_rf (o.map ad)) A U H
/-- where things stand: addresses, class tables, array classes, the formatter, the shapes -/
abbrev mG : Type := (Nat → Nat) × va_G × (Nat → ClassId) × Option Nat × List mH
/-- what every method needs of the state -/
def mEnv (g : mG) (A : Nat → Prop) (U : State) (H : Heap) : Prop :=
  va_K g.2.1 vwCl (mTys g.2.2.1) U ∧ (∀ w ∈ lw_tbl, mNest w = true → va_Nw w U) ∧ mRf g.1 U ∧ mStr g.1 A U H ∧ mZs g.1 g.2.2.2.1 A U H
theorem mEnv.warm {g : mG} {A : Nat → Prop} {s U : State} {H : Heap} (hW : s.WarmedH U.vm) (h : mEnv g A s H) : mEnv g A U H := by
  obtain ⟨h1, h2, h3, h4, h5, h6, h7, h8⟩ := h
  refine ⟨va_K.moved hW.alike h1, fun w hw hn => ?_, fun q hq => vk_R.warm hW (h3 q hq), mStr.moved hW.alike h4, va_Z.moved hW.alike h5, va_Z.moved hW.alike h6, va_Z.moved hW.alike h7, va_Z.moved hW.alike h8⟩
  cases w <;> first | (simp [mNest] at hn; done) | exact va_Nw.warmM hW (h2 _ hw hn)
theorem mEnv.kept {g : mG} {A : Nat → Prop} {U : State} {H H1 : Heap} (h : mEnv g A U H) (hq : ∀ a : Nat, a < H.size → ¬ A a → H1[a]? = H[a]?) : mEnv g A U H1 := by
  obtain ⟨h1, h2, h3, h4, h5, h6, h7, h8⟩ := h
  exact ⟨h1, h2, h3, h4.kept hq, h5.kept hq, h6.kept hq, h7.kept hq, h8.kept hq⟩
theorem mEnv.narrow {g : mG} {A B : Nat → Prop} {U : State} {H : Heap} (h : mEnv g A U H) (hAB : ∀ q, B q → A q) : mEnv g B U H := by
  obtain ⟨h1, h2, h3, h4, h5, h6, h7, h8⟩ := h
  exact ⟨h1, h2, h3, h4.narrow hAB, h5.narrow hAB, h6.narrow hAB, h7.narrow hAB, h8.narrow hAB⟩
theorem mEnv.same {g : mG} {A : Nat → Prop} {u U : State} {H : Heap} (hv : u.vm = U.vm) (h : mEnv g A u H) : mEnv g A U H := by
  obtain ⟨h1, h2, h3, h4, h5, h6, h7, h8⟩ := h
  have ha : u.vm.Alike U.vm := by rw [hv]; exact Vm.Alike.refl _
  refine ⟨va_K.moved ha h1, fun w hw hn => ?_, fun q hq => vk_R.same hv.symm (h3 q hq), mStr.moved ha h4, va_Z.moved ha h5, va_Z.moved ha h6, va_Z.moved ha h7, va_Z.moved ha h8⟩
  cases w <;> first | (simp [mNest] at hn; done) | exact va_Nw.same rfl hv (h2 _ hw hn)
/-- the addresses that a method may write: its cells, and what is new -/
def mA (g : mG) (sz : Nat) : Nat → Prop := fun q => (∃ c, c < g.2.2.2.2.length ∧ g.1 c = q) ∨ sz ≤ q
def mB (g : mG) (sz : Nat) (M : mM) : State → Prop := fun U => U.heap.size = sz ∧ va_P g.2.1 vwCl (mWs g.1 g.2.2.1 g.2.2.2.2 M) U.heap ∧ va_D (fun _ => True) (mWs g.1 g.2.2.1 g.2.2.2.2 M) ∧ mEnv g (mA g sz) U U.heap
def mQ (g : mG) (P : mP) (A : Nat → Prop) : Array Value → State → Outcome → State → Prop := fun _ st oc t => (∃ (r : Option mV) (M' : mM), oc = .returned (r.map (mval g.1)) ∧ P r M' ∧ va_P g.2.1 vwCl (mWs g.1 g.2.2.1 g.2.2.2.2 M') t.heap) ∧ va_F A st t
/-- method y meets, at room level d, what T says of it -/
def mOK (y : MethodName) (bytes : ByteArray) (maxL : Nat) (ret : Option FieldType) (d : Nat) (T : mG → mT) : Prop :=
  ∀ (l : Launch) (g : mG) (sz : Nat) (as : List mV) (M : mM) (P : mP), T g as M P → Met l y (mWd y bytes maxL ret) (mRm d) (va_Pc (as.map (mval g.1)) (mB g sz M)) (mQ g P (mA g sz)) 0 0 (mA g sz)
theorem mB_blind {g : mG} {sz : Nat} {M : mM} {av : List Value} : FrameBlind (va_Pc av (mB g sz M)) := by
  intro a U gf mk h
  obtain ⟨h1, h2, h3, h4, h5⟩ := h
  exact ⟨h1, h2, h3, h4, mEnv.same (u := U) (U := U.calling gf mk a) rfl h5⟩
theorem mDself {g : mG} {M M' : mM} {sz : Nat} (h : va_D (fun _ => True) (mWs g.1 g.2.2.1 g.2.2.2.2 M)) : va_D (mA g sz) (mWs g.1 g.2.2.1 g.2.2.2.2 M') :=
  (mWs_D h M').weaken (fun k q hk _ => Or.inl ⟨k, (mWs_at hk).1, (mWs_at hk).2.symm⟩)
/-- a call's site, in class own at room level d -/
def mSite (own : String) (d key n : Nat) (T : mG → mT) : Prop :=
  ∀ {p : Program} {l : Launch} {e : Env} {s : State} {m : MethodId} {args : Array Value} {below : List Frame} {meth : Method} {c : Code} {Q : State → Prop} {cc : ByteArray} {nL : Nat} (g : mG), p.tables.exec = Jvm.exec → c.code = cc → c.maxLocals = nL → s.vm.findClass own = some m.cls → (∀ w ∈ mGW, w.before args s = true) → va_D (mA g s.heap.size) (mWs g.1 g.2.2.1 g.2.2.2.2 (fun _ _ => 0)) → mEnv g (mA g s.heap.size) s s.heap →
    mCallOK p l e (mRm d) s m args below meth c 0 0 Q g.2.1 (mA g s.heap.size) g.1 g.2.2.1 g.2.2.2.2 nL cc key n (T g)
end
section
theorem mRun_sim {p : Program} {l : Launch} {e : Env} {R : Room} {s : State} {m : MethodId} {args : Array Value} {below : List Frame} {meth : Method} {c : Code} {cells slots : Nat} {cc : ByteArray} {D : va_G} {A : Nat → Prop} {ad : Nat → Nat} {cy : Nat → ClassId} {SH : List mH} {own : String} {Ts : List Cond} {nL : Nat} {F : mF} {P : mP}
    {Qc : Array Value → State → Outcome → State → Prop} (hx : p.tables.exec = Jvm.exec) (hb : c.code = cc) (hml : c.maxLocals = nL) (hr : meth.sig.returnType = F.2.2.2.2.2) (hlk : meth.locks = false) (hts : ∀ w ∈ Ts, w.before args s = true) (hown : s.vm.findClass own = some m.cls)
    (hK : va_K D vwCl (mTys cy) s) (hD : ∀ M, va_D A (mWs ad cy SH M)) (hfld : mFldOK own F Ts) (hcst : mCstOK own F ad args s) (hsta : mStaOK own F ad A s Ts) (hstr : mStr ad A s s.heap) (hcal : mCalOK p l e R s m args below meth c cells slots (MQ below Qc args s cells slots A) D A ad cy SH nL cc F) (hend : mEndOK s args D A ad cy SH P Qc)
    (hcode : ∀ (pc : Nat) (x : mI), F.1 pc = some x → mChk cc pc x = true) {σ : mS} (h : mRun SH F P σ) : mX p l e R s m args below meth c cells slots (MQ below Qc args s cells slots A) D A ad cy SH nL σ := by
  refine h _ (fun σ' w => ?_)
  unfold mWp at w
  split at w
  · exact w.elim
  · rename_i x hx2
    have hc := hcode _ _ hx2
    unfold mChk at hc
    simp only [Bool.and_eq_true, decide_eq_true_eq] at hc
    exact mOp_sim hx hb hml hr hlk hts hown hK hD hfld hcst hsta hstr hcal hend hc.1 hc.2 w
/-- constants by their words -/
def mCstT (own : String) (F : mG → mF) : Prop := ∀ (g : mG) (idx : Nat) (v : mV), (F g).2.2.2.1 idx = some v → (∃ x, v = .inl x ∧ Cond.constant own idx x ∈ mGW) ∨ (∃ (i : Nat) (tx : String), v = .inr (some (1000 + i)) ∧ ((own, idx, tx, i) : String × Nat × String × Nat) ∈ ([("TrickHouse", 326, "deal", 0), ("TrickHouse", 328, "bid", 1), ("TrickHouse", 330, "pass", 2), ("TrickHouse", 332, "double", 3), ("TrickHouse", 334, "redouble", 4), ("TrickHouse", 336, "play", 5), ("TrickHouse", 337, "claim", 6), ("TrickHouse", 339, "rank", 7), ("TrickHouse", 341, "rule", 8), ("TrickHouse", 343, "", 9), ("TrickHouseModel", 267, "c", 10), ("TrickHouseModel", 269, "d", 11), ("TrickHouseModel", 271, "h", 12), ("TrickHouseModel", 273, "s", 13), ("TrickHouseModel", 275, "n", 14), ("TrickHouseModel", 243, "deal", 0), ("TrickHouseModel", 245, "bid", 1), ("TrickHouseModel", 246, "pass", 2), ("TrickHouseModel", 248, "double", 3), ("TrickHouseModel", 250, "redouble", 4), ("TrickHouseModel", 252, "play", 5), ("TrickHouseModel", 254, "claim", 6), ("TrickHouseModel", 256, "rank", 7), ("TrickHouseModel", 258, "rule", 8), ("TrickHouseModel", 326, "cdhsn", 15), ("TrickHouseModel", 335, " ", 16)] : List (String × Nat × String × Nat)))
/-- statics by their links -/
def mStaT (own : String) (F : mG → mF) : Prop := ∀ (g : mG) (idx : Nat) (v : mV), (F g).2.2.2.2.1 idx = some v →
  (v = .inl 1 ∧ Cond.fieldLink own idx "java/lang/String" "COMPACT_STRINGS" "Z" ∈ mGW) ∨ (v = .inr (some 1200) ∧ Cond.fieldLink own idx "java/lang/Integer" "DigitTens" "[B" ∈ mGW) ∨ (v = .inr (some 1201) ∧ Cond.fieldLink own idx "java/lang/Integer" "DigitOnes" "[B" ∈ mGW) ∨
  (v = .inr g.2.2.2.1 ∧ Cond.fieldLink own idx "jdk/internal/util/Preconditions" "SIOOBE_FORMATTER" "Ljava/util/function/BiFunction;" ∈ mGW)
set_option maxHeartbeats 1000000 in
/-- a method's contract out of the small machine's run of it -/
theorem mOK.of {y : MethodName} {bytes : ByteArray} {maxL : Nat} {ret : Option FieldType} {d : Nat} {T : mG → mT} (F : mG → mF) (hy : plainName y.cls = true) (hret : ∀ g, (F g).2.2.2.2.2 = ret) (hcode : ∀ (g : mG) (pc : Nat) (x : mI), (F g).1 pc = some x → mChk bytes pc x = true)
    (hfld : ∀ g, mFldOK y.cls (F g) mGW) (hcst : mCstT y.cls F) (hsta : mStaT y.cls F) (hcal : ∀ (g : mG) (key n : Nat) (T' : mT), (F g).2.2.1 key = some (n, T') → ∃ T2 : mG → mT, T' = T2 g ∧ mSite y.cls d key n T2)
    (hrun : ∀ (g : mG) (as : List mV) (M : mM) (P : mP), T g as M P → as.length ≤ maxL ∧ mRun g.2.2.2.2 (F g) P (0, as.map some ++ List.replicate (maxL - as.length) none, [], M)) : mOK y bytes maxL ret d T := by
  intro l g sz as M P hT
  obtain ⟨hlen, hrun⟩ := hrun g as M P hT
  refine Met.ofW (cc := bytes) (maxL := maxL) (ret := ret) hy rfl ?_
  intro p e s m args below meth c s₁ B hml hv
  obtain ⟨rfl, hsz, hP, hD, hE⟩ := hv
  have hx := B.exec
  have hb := B.bytes
  have hr := B.returns
  have hts := atoms_spec (ws := mWd y bytes maxL ret) B.pre
  have hown : s.vm.findClass y.cls = some m.cls := findClass_of_methodNamed B.named
  subst hsz
  have hts' : ∀ w ∈ mGW, w.before (as.map (mval g.1)).toArray s = true := fun w h => hts w (List.mem_cons_of_mem _ h)
  obtain ⟨ls, hls, hL⟩ := mLH.entry (ad := g.1) as (n := maxL) hlen
  have hDs : ∀ M' : mM, va_D (mA g s.heap.size) (mWs g.1 g.2.2.1 g.2.2.2.2 M') := fun M' => mDself hD
  have hsim := mRun_sim (p := p) (l := l) (e := e) (R := mRm d) (below := below) (cells := 0) (slots := 0) (Qc := mQ g P (mA g s.heap.size)) hx hb hml (hr.trans (hret g).symm) B.notSynchronized hts' hown hE.1 hDs (hfld g)
    (by
      intro idx v h
      rcases hcst g idx v h with ⟨x, h1, h2⟩ | ⟨i, tx, h1, h2⟩
      · exact Or.inl ⟨x, h1, hts' _ h2⟩
      · exact Or.inr ⟨1000 + i, tx, h1, hE.2.2.1 _ h2⟩)
    (by
      intro idx v h
      obtain ⟨-, -, -, -, z1, z2, z3, z4⟩ := hE
      rcases hsta g idx v h with ⟨rfl, h2⟩ | ⟨rfl, h2⟩ | ⟨rfl, h2⟩ | ⟨rfl, h2⟩
      · exact ⟨_, _, _, z1, h2⟩
      · exact ⟨_, _, _, z2, h2⟩
      · exact ⟨_, _, _, z3, h2⟩
      · exact ⟨_, _, _, z4, h2⟩)
    hE.2.2.2.1
    (by
      intro key n T' h
      obtain ⟨T2, rfl, h2⟩ := hcal g key n T' h
      exact h2 g hx hb hml hown hts' (hDs _) hE)
    (by
      intro r M' H locs hPr hP' hS' t ht hW
      exact ⟨⟨r, M', rfl, hPr, by rw [ht]; exact hP'⟩, hS'.F ht⟩)
    (hcode g) hrun
  have := hsim s.heap [] ls hP va_S.rf hL
  rw [lg_entry_eq, hls]
  exact this
theorem mRm_call {d d' maxL : Nat} (hd : d' < d) (hm : maxL ≤ 29) : (mRm d').frames + 1 ≤ (mRm d).frames ∧ 8 + (maxL + 11) + (mRm d').locals ≤ (mRm d).locals := by
  simp only [mRm]
  omega
theorem mGoodIn {y : MethodName} {bytes : ByteArray} {maxL : Nat} {ret : Option FieldType} (h : Cond.code y bytes maxL ret ∈ mGW) : GoodIn mGW (mWd y bytes maxL ret) := by
  intro w hw
  rcases List.mem_cons.mp hw with rfl | hw
  · exact ⟨h, Or.inl (by rfl)⟩
  · exact ⟨hw, (mGW_good w hw).2⟩
/-- behind a call: the world, and the rest of the walk -/
theorem mBack {p : Program} {l : Launch} {e : Env} {R : Room} {s : State} {m : MethodId} {args : Array Value} {below : List Frame} {meth : Method} {c : Code} {Q : State → Prop} {H : Heap} {locs : List Loc} {g : mG} {a : Array Value} {P : mP} {pc : Nat} {ls : Array Slot} {st0 : List Value} {rest : List mV}
    (hr : va_Run p l e R s m args below meth c H locs 0 0 0 0 (F0 m pc ls st0) (rest.map (mval g.1)) (mQ g P (mA g H.size) a) (mA g H.size)) (hS : va_S (mA g s.heap.size) s.heap H locs)
    (kk : ∀ (r : Option mV) (M' : mM) (H' : Heap) (locs' : List Loc), va_P g.2.1 vwCl (mWs g.1 g.2.2.1 g.2.2.2.2 M') H' → va_S (mA g s.heap.size) s.heap H' locs' → P r M' → W p l e R s m args below meth c H' locs' 0 0 Q (F0 m (pc + 3) ls ((mRes r rest).map (mval g.1)))) :
    W p l e R s m args below meth c H locs 0 0 Q (F0 m pc ls st0) := by
  intro T hT X
  obtain ⟨v, st₀, t, T', L, h0, X', hL, e1, e2, ⟨⟨r, M', hv, hp, hw⟩, hz, hk⟩, st⟩ := hr T hT X
  cases hv
  rw [h0] at hz hk
  have hA : ∀ q, q < H.size → mA g H.size q → mA g s.heap.size q := fun q hq h => by
    rcases h with h | h
    · exact Or.inl h
    · omega
  have hf : ∀ q, mA g H.size q → mA g s.heap.size q := fun q h => by
    rcases h with h | h
    · exact Or.inl h
    · exact Or.inr (Nat.le_trans hS.1 h)
  have hS' : va_S (mA g s.heap.size) s.heap T'.heap (locs ++ L) := ⟨Nat.le_trans hS.1 (by rw [e1]; exact hz), fun q h1 h2 => by rw [e1, hk q (Nat.lt_of_lt_of_le h1 hS.1) (fun z => h2 (hA q (Nat.lt_of_lt_of_le h1 hS.1) z))]; exact hS.2.1 q h1 h2, fun q hq => by
      rcases List.mem_append.mp hq with h | h
      · exact hS.2.2 q h
      · exact hf _ (hL q h)⟩
  obtain ⟨t2, a1, b1⟩ := kk r M' T'.heap (locs ++ L) (by rw [e1]; exact hw) hS' hp T' rfl X'
  refine ⟨t2, st t2 ?_, b1⟩
  have e3 : (r.map (mval g.1)).toList ++ rest.map (mval g.1) = (mRes r rest).map (mval g.1) := by cases r <;> rfl
  rw [e3]
  exact a1
/-- what a callee needs, of any state that the call makes -/
theorem mPre {s : State} {g : mG} {H : Heap} {locs : List Loc} {M : mM} (hD : va_D (mA g s.heap.size) (mWs g.1 g.2.2.1 g.2.2.2.2 (fun _ _ => 0))) (hE : mEnv g (mA g s.heap.size) s s.heap) (hP : va_P g.2.1 vwCl (mWs g.1 g.2.2.1 g.2.2.2.2 M) H) (hS : va_S (mA g s.heap.size) s.heap H locs) (U : State) (hU : U.heap = H) (hW : s.WarmedH U.vm) : mB g H.size M U := by
  refine ⟨by rw [hU], by rw [hU]; exact hP, (mWs_D hD M).weaken (fun _ _ _ _ => trivial), ?_⟩
  rw [hU]
  refine mEnv.warm hW ((hE.kept hS.2.1).narrow (fun q h => ?_))
  rcases h with h | h
  · exact Or.inl h
  · exact Or.inr (Nat.le_trans hS.1 h)
theorem mMonoT {T : mG → mT} (h : ∀ (g : mG) (a : List mV) (M : mM) (P Q : mP), (∀ r M', P r M' → Q r M') → T g a M P → T g a M Q) : True := trivial
end
section
/-- cell a is an object of class C, in the world or among the constants -/
def mIsA (SH : List mH) (C : String) (a : Nat) : Prop := (∃ (ci sz : Nat) (rs : List (Option Nat)) (q : vw_C), SH[a]? = some (ci + 5, sz, rs) ∧ vwCl[ci]? = some q ∧ q.1 = C) ∨ (C = "java/lang/String" ∧ mRoS a = true)
def mHasR (y : MethodName) (n : Nat) (T : mG → mT) : Prop := ∀ (g : mG) (as : List mV) (M : mM) (P : mP), T g as M P → as.length = n + 1 → ∃ (a : Nat) (rs : List mV), as = .inr (some a) :: rs ∧ mIsA g.2.2.2.2 y.cls a
theorem mIsA.recv {s : State} {H : Heap} {locs : List Loc} {g : mG} {M : mM} {C : String} {a : Nat} (h : mIsA g.2.2.2.2 C a) (hE : mEnv g (mA g s.heap.size) s s.heap) (hP : va_P g.2.1 vwCl (mWs g.1 g.2.2.1 g.2.2.2.2 M) H) (hS : va_S (mA g s.heap.size) s.heap H locs) : ∃ cell : Cell, H[g.1 a]? = some cell ∧ cell.vm.isStatics = false ∧ s.vm.findClass C = some cell.cls := by
  rcases h with ⟨ci, sz, rs, q, h1, h2, rfl⟩ | ⟨rfl, h⟩
  · exact va_recv hE.1 hP h2 (mWs_get (M := M) h1)
  · have hq : 1000 ≤ a ∧ a < 1017 := by simpa [mRoS] using h
    obtain ⟨hs0, -⟩ := hE.2.2.2.1.1 (a - 1000) (by omega)
    rw [show 1000 + (a - 1000) = a by omega] at hs0
    obtain ⟨cell, h1, h2, h3, -⟩ := hs0.kept hS.2.1
    exact ⟨cell, h1, h2, h3⟩
theorem mMap_rev {ad : Nat → Nat} {a : Nat} {rs rest : List mV} : (((Sum.inr (some a) :: rs).reverse ++ rest).map (mval ad)) = (rs.map (mval ad)).reverse ++ .ref (ad a) :: rest.map (mval ad) := by
  simp [mval, va_rf]
theorem mMap_rev0 {ad : Nat → Nat} {rs rest : List mV} : ((rs.reverse ++ rest).map (mval ad)) = (rs.map (mval ad)).reverse ++ rest.map (mval ad) := by
  simp
theorem mCats {ad : Nat → Nat} : ∀ (rest : List mV), ((rest.map (mval ad)).map fun v => v.category).sum = rest.length
  | [] => rfl
  | v :: t => by
    rw [List.map_cons, List.map_cons, List.sum_cons, mCats t, mval_cat]
    simp
    omega
theorem mRoomOK {pc : Nat} {ls : Array Slot} {m : MethodId} {st : List Value} {ad : Nat → Nat} {rest : List mV} (h : rest.length ≤ 8) : 2 * (F0 m pc ls st).monitorRoom + ((rest.map (mval ad)).map fun v => v.category).sum ≤ 8 := by
  rw [mCats]
  show 2 * 0 + _ ≤ 8
  omega
theorem mSite.V {own : String} {d d' n idx : Nat} {y : MethodName} {bytes : ByteArray} {maxL : Nat} {ret : Option FieldType} {T : mG → mT} (hM : mOK y bytes maxL ret d' T) (hd : d' < d) (hm : maxL ≤ 29) (hrec : mHasR y n T)
    (hcode : Cond.code y bytes maxL ret ∈ mGW) (hlink : Cond.methodLink own idx y ∈ mGW) (hinst : Cond.instanceMethod y ∈ mGW) (hsel : Cond.selects y.cls y y ∈ mGW) (hini : Cond.initialized y.cls ∈ mGW)
    (hy : y.cls ≠ "java/lang/invoke/MethodHandle" ∧ y.cls ≠ "java/lang/invoke/VarHandle" ∧ (parseMethodDescriptor y.desc).map (fun d => d.parameters.length) = some n) : mSite own d (3 * idx) (n + 1) T := by
  intro p l e s m args below meth c Q cc nL g hx hb hml hown hts hD hE pc H locs ls M as rest Po hdg hP hS hsz hlen hrest hT kk
  rw [mIns_v] at hdg
  obtain ⟨a, rs, rfl, hisa⟩ := hrec g as M Po hT hlen
  have hMet := hM l g H.size (.inr (some a) :: rs) M Po hT
  have hrun := va_runV (p := p) (l := l) (e := e) (R := mRm d) (s := s) (m := m) (args := args) (below := below) (meth := meth) (c := c) (H := H) (locs := locs) (cells := 0) (slots := 0) (own := own) (C := y.cls) (b := g.1 a) (As := rs.map (mval g.1)) (rest := rest.map (mval g.1)) (n := n) (index := idx) (g := F0 m pc ls (((Sum.inr (some a) :: rs).reverse ++ rest).map (mval g.1)))
    ⟨hx, hb, hml, hown, hts⟩ hMet
    ⟨callB_of n hts (mGoodIn hcode) rfl rfl rfl (hts _ hini) (hts _ hlink) hy (mRm_call hd hm), hts _ hinst, hts _ hsel⟩
    ⟨mB_blind, hisa.recv hE hP hS, fun U hU hW => ⟨rfl, mPre hD hE hP hS U hU hW⟩⟩ rfl (by simpa using hlen) hsz (by show List.map (mval g.1) _ = _; rw [mMap_rev]) (mRoomOK hrest) hdg ⟨Nat.zero_le _, Nat.zero_le _⟩
  exact mBack hrun hS kk
theorem mSite.VN {own host : String} {d d' n idx : Nat} {y : MethodName} {bytes : ByteArray} {maxL : Nat} {ret : Option FieldType} {T : mG → mT} (hM : mOK y bytes maxL ret d' T) (hd : d' < d) (hm : maxL ≤ 29) (hrec : mHasR y n T)
    (hcode : Cond.code y bytes maxL ret ∈ mGW) (hlink : Cond.methodLinkNest own idx y host ∈ lw_tbl) (hinst : Cond.instanceMethod y ∈ mGW) (hsel : Cond.selects y.cls y y ∈ mGW) (hini : Cond.initialized y.cls ∈ mGW)
    (hy : y.cls ≠ "java/lang/invoke/MethodHandle" ∧ y.cls ≠ "java/lang/invoke/VarHandle" ∧ (parseMethodDescriptor y.desc).map (fun d => d.parameters.length) = some n) : mSite own d (3 * idx) (n + 1) T := by
  intro p l e s m args below meth c Q cc nL g hx hb hml hown hts hD hE pc H locs ls M as rest Po hdg hP hS hsz hlen hrest hT kk
  rw [mIns_v] at hdg
  obtain ⟨a, rs, rfl, hisa⟩ := hrec g as M Po hT hlen
  have hMet := hM l g H.size (.inr (some a) :: rs) M Po hT
  have hrun := va_runVN (p := p) (l := l) (e := e) (R := mRm d) (s := s) (m := m) (args := args) (below := below) (meth := meth) (c := c) (H := H) (locs := locs) (cells := 0) (slots := 0) (own := own) (C := y.cls) (host := host) (b := g.1 a) (As := rs.map (mval g.1)) (rest := rest.map (mval g.1)) (n := n) (index := idx) (g := F0 m pc ls (((Sum.inr (some a) :: rs).reverse ++ rest).map (mval g.1)))
    ⟨hx, hb, hml, hown, hts⟩ hMet
    ⟨va_cnB n hts (mGoodIn hcode) rfl rfl rfl (hE.2.1 _ hlink rfl) (hts _ hini) hy (mRm_call hd hm), hts _ hinst, hts _ hsel⟩
    ⟨mB_blind, hisa.recv hE hP hS, fun U hU hW => ⟨rfl, mPre hD hE hP hS U hU hW⟩⟩ rfl (by simpa using hlen) hsz (by show List.map (mval g.1) _ = _; rw [mMap_rev]) (mRoomOK hrest) hdg ⟨Nat.zero_le _, Nat.zero_le _⟩
  exact mBack hrun hS kk
theorem mSite.S {own : String} {d d' n idx : Nat} {y : MethodName} {bytes : ByteArray} {maxL : Nat} {ret : Option FieldType} {T : mG → mT} (hM : mOK y bytes maxL ret d' T) (hd : d' < d) (hm : maxL ≤ 29)
    (hcode : Cond.code y bytes maxL ret ∈ mGW) (hlink : Cond.methodLink own idx y ∈ mGW) (hst : Cond.static y ∈ mGW) (hini : Cond.initialized y.cls ∈ mGW)
    (hy : y.cls ≠ "java/lang/invoke/MethodHandle" ∧ y.cls ≠ "java/lang/invoke/VarHandle" ∧ (parseMethodDescriptor y.desc).map (fun d => d.parameters.length) = some n) : mSite own d (3 * idx + 1) n T := by
  intro p l e s m args below meth c Q cc nL g hx hb hml hown hts hD hE pc H locs ls M as rest Po hdg hP hS hsz hlen hrest hT kk
  rw [mIns_s] at hdg
  have hMet := hM l g H.size as M Po hT
  have hrun := va_runS (p := p) (l := l) (e := e) (R := mRm d) (s := s) (m := m) (args := args) (below := below) (meth := meth) (c := c) (H := H) (locs := locs) (cells := 0) (slots := 0) (own := own) (As := as.map (mval g.1)) (rest := rest.map (mval g.1)) (n := n) (index := idx) (g := F0 m pc ls ((as.reverse ++ rest).map (mval g.1)))
    ⟨hx, hb, hml, hown, hts⟩ hMet
    ⟨callB_of n hts (mGoodIn hcode) rfl rfl rfl (hts _ hini) (hts _ hlink) hy (mRm_call hd hm), hts _ hst⟩
    ⟨mB_blind, fun U hU hW => ⟨rfl, mPre hD hE hP hS U hU hW⟩⟩ rfl (by simpa using hlen) hsz (by show List.map (mval g.1) _ = _; rw [mMap_rev0]) (mRoomOK hrest) hdg ⟨Nat.zero_le _, Nat.zero_le _⟩
  exact mBack hrun hS kk
theorem mSite.SN {own host : String} {d d' n idx : Nat} {y : MethodName} {bytes : ByteArray} {maxL : Nat} {ret : Option FieldType} {T : mG → mT} (hM : mOK y bytes maxL ret d' T) (hd : d' < d) (hm : maxL ≤ 29)
    (hcode : Cond.code y bytes maxL ret ∈ mGW) (hlink : Cond.methodLinkNest own idx y host ∈ lw_tbl) (hst : Cond.static y ∈ mGW) (hini : Cond.initialized y.cls ∈ mGW)
    (hy : y.cls ≠ "java/lang/invoke/MethodHandle" ∧ y.cls ≠ "java/lang/invoke/VarHandle" ∧ (parseMethodDescriptor y.desc).map (fun d => d.parameters.length) = some n) : mSite own d (3 * idx + 1) n T := by
  intro p l e s m args below meth c Q cc nL g hx hb hml hown hts hD hE pc H locs ls M as rest Po hdg hP hS hsz hlen hrest hT kk
  rw [mIns_s] at hdg
  have hMet := hM l g H.size as M Po hT
  have hrun := va_runSN (p := p) (l := l) (e := e) (R := mRm d) (s := s) (m := m) (args := args) (below := below) (meth := meth) (c := c) (H := H) (locs := locs) (cells := 0) (slots := 0) (own := own) (host := host) (As := as.map (mval g.1)) (rest := rest.map (mval g.1)) (n := n) (index := idx) (g := F0 m pc ls ((as.reverse ++ rest).map (mval g.1)))
    ⟨hx, hb, hml, hown, hts⟩ hMet
    ⟨va_cnB n hts (mGoodIn hcode) rfl rfl rfl (hE.2.1 _ hlink rfl) (hts _ hini) hy (mRm_call hd hm), hts _ hst, trivial⟩
    ⟨mB_blind, fun U hU hW => ⟨rfl, mPre hD hE hP hS U hU hW⟩⟩ rfl (by simpa using hlen) hsz (by show List.map (mval g.1) _ = _; rw [mMap_rev0]) (mRoomOK hrest) hdg ⟨Nat.zero_le _, Nat.zero_le _⟩
  exact mBack hrun hS kk
def tMax : mG → mT := fun _ as M P => match as with
  | [.inl x, .inl y] => P (some (.inl (if x < y then y else x))) M
  | _ => False
def tMin : mG → mT := fun _ as M P => match as with
  | [.inl x, .inl y] => P (some (.inl (if y < x then y else x))) M
  | _ => False
theorem mSite.max {own : String} {d idx : Nat} (hd : 0 < d) (hcode : Cond.code Lib.Math.max.name Lib.Math.max.code 2 (some .int) ∈ mGW) (hlink : Cond.methodLink own idx Lib.Math.max.name ∈ mGW) (hst : Cond.static Lib.Math.max.name ∈ mGW) (hini : Cond.initialized "java/lang/Math" ∈ mGW) : mSite own d (3 * idx + 1) 2 tMax := by
  intro p l e s m args below meth c Q cc nL g hx hb hml hown hts hD hE pc H locs ls M as rest Po hdg hP hS hsz hlen hrest hT kk
  rw [mIns_s] at hdg
  have hloc : ((rest.map (mval g.1)).map fun v => v.category).sum + 13 ≤ (mRm d).locals := by rw [mCats]; show rest.length + 13 ≤ 48 * d; omega
  unfold tMax at hT
  split at hT
  · rename_i x y
    exact va_mmax hx hb (hml.trans hsz.symm) hown (hts _ hlink) (hts _ hst) (hts _ hini) (hts _ hcode) (show 1 ≤ (mRm d).frames from hd) hloc (Nat.zero_le _) (Nat.zero_le _) hdg (kk _ M H locs hP hS hT)
  · exact hT.elim
theorem mSite.min {own : String} {d idx : Nat} (hd : 0 < d) (hcode : Cond.code Lib.Math.min.name Lib.Math.min.code 2 (some .int) ∈ mGW) (hlink : Cond.methodLink own idx Lib.Math.min.name ∈ mGW) (hst : Cond.static Lib.Math.min.name ∈ mGW) (hini : Cond.initialized "java/lang/Math" ∈ mGW) : mSite own d (3 * idx + 1) 2 tMin := by
  intro p l e s m args below meth c Q cc nL g hx hb hml hown hts hD hE pc H locs ls M as rest Po hdg hP hS hsz hlen hrest hT kk
  rw [mIns_s] at hdg
  have hloc : ((rest.map (mval g.1)).map fun v => v.category).sum + 13 ≤ (mRm d).locals := by rw [mCats]; show rest.length + 13 ≤ 48 * d; omega
  unfold tMin at hT
  split at hT
  · rename_i x y
    exact va_mmin hx hb (hml.trans hsz.symm) hown (hts _ hlink) (hts _ hst) (hts _ hini) (hts _ hcode) (show 1 ≤ (mRm d).frames from hd) hloc (Nat.zero_le _) (Nat.zero_le _) hdg (kk _ M H locs hP hS hT)
  · exact hT.elim
/-- System.arraycopy between two int arrays -/
def tCopy : mG → mT := fun g as M P => match as with
  | [.inr (some a), .inl i, .inr (some b), .inl j, .inl n] => ∃ na nb : Nat, (∃ ra, g.2.2.2.2[a]? = some (0, na, ra)) ∧ (∃ rb, g.2.2.2.2[b]? = some (0, nb, rb)) ∧ ¬ i < 0 ∧ ¬ j < 0 ∧ ¬ n < 0 ∧ i.toNatClampNeg + n.toNatClampNeg ≤ na ∧ j.toNatClampNeg + n.toNatClampNeg ≤ nb ∧ P none (mUp M b (va_cpy (M a) (M b) i.toNatClampNeg j.toNatClampNeg n.toNatClampNeg))
  | _ => False
theorem mSite.copy {own : String} {d idx : Nat} (hd : 0 < d) (hlink : Cond.methodLink own idx arraycopyName ∈ mGW) (hnat : Cond.native arraycopyName ∈ mGW) (hst : Cond.static arraycopyName ∈ mGW) (hini : Cond.initialized "java/lang/System" ∈ mGW) : mSite own d (3 * idx + 1) 5 tCopy := by
  intro p l e s m args below meth c Q cc nL g hx hb hml hown hts hD hE pc H locs ls M as rest Po hdg hP hS hsz hlen hrest hT kk
  rw [mIns_s] at hdg
  have hnw : nativeFrameWords "java/lang/System" "arraycopy" 5 ≤ 20 := by decide +kernel
  have hloc : ((rest.map (mval g.1)).map fun v => v.category).sum + (nativeFrameWords "java/lang/System" "arraycopy" 5 + 11) ≤ (mRm d).locals := by rw [mCats]; show rest.length + _ ≤ 48 * d; omega
  unfold tCopy at hT
  split at hT
  · rename_i a i b j n
    obtain ⟨na, nb, ⟨ra, h1⟩, ⟨rb, h2⟩, h3, h4, h5, h6, h7, h8⟩ := hT
    have e1 := mWs_get (ad := g.1) (cy := g.2.2.1) (M := M) h1
    have e2 := mWs_get (ad := g.1) (cy := g.2.2.1) (M := M) h2
    exact va_copyi hx hb (hml.trans hsz.symm) hown (hts _ hlink) (hts _ hnat) (hts _ hst) (hts _ hini) hE.1 hP (mWs_D hD M) hS a b 0 0 e1 e2 rfl rfl rfl h3 h4 h5 h6 h7 (fun _ _ => rfl) (show 1 ≤ (mRm d).frames from hd) hloc hdg (fun H1 locs1 hP1 _ hS1 => kk none _ H1 locs1 (by rw [← mWs_set h2]; exact hP1) hS1 h8)
  · exact hT.elim
end
