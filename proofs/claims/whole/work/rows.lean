section
-- ===== PART A: goes FIRST, ahead of the names: the tables' words, and 'selects' of the private methods out of them =====
/-- a private method of a class that the tables say can be made, by its rows of tables_1 -/
def lw_okq (q : MethodName × Nat) : Prop := (q.1.cls ≠ "java/lang/invoke/MethodHandle" ∧ q.1.cls ≠ "java/lang/invoke/VarHandle") ∧ Cond.instantiable q.1.cls q.2 ∈ tables_1 ∧ Cond.privateMethod q.1 ∈ tables_1 ∧ Cond.instanceMethod q.1 ∈ tables_1
theorem lw_p0 : lw_okq (⟨"HashgraphDesk", "startAnew", "(I)V"⟩, 7) := ⟨⟨by decide +kernel, by decide +kernel⟩, List.mem_of_getElem? (i := 32) (by decide +kernel), List.mem_of_getElem? (i := 320) (by decide +kernel), List.mem_of_getElem? (i := 321) (by decide +kernel)⟩
theorem lw_p1 : lw_okq (⟨"HashgraphDesk", "makeEvent", "(IIIJI)I"⟩, 7) := ⟨⟨by decide +kernel, by decide +kernel⟩, List.mem_of_getElem? (i := 32) (by decide +kernel), List.mem_of_getElem? (i := 351) (by decide +kernel), List.mem_of_getElem? (i := 352) (by decide +kernel)⟩
theorem lw_p2 : lw_okq (⟨"HashgraphDesk$Events", "putParentHash", "(I)V"⟩, 11) := ⟨⟨by decide +kernel, by decide +kernel⟩, List.mem_of_getElem? (i := 58) (by decide +kernel), List.mem_of_getElem? (i := 391) (by decide +kernel), List.mem_of_getElem? (i := 392) (by decide +kernel)⟩
theorem lw_p3 : lw_okq (⟨"HashgraphDesk$Sha256", "fillSchedule", "(I)V"⟩, 4) := ⟨⟨by decide +kernel, by decide +kernel⟩, List.mem_of_getElem? (i := 64) (by decide +kernel), List.mem_of_getElem? (i := 416) (by decide +kernel), List.mem_of_getElem? (i := 417) (by decide +kernel)⟩
theorem lw_p4 : lw_okq (⟨"HashgraphDesk$Sha256", "mixSchedule", "()V"⟩, 4) := ⟨⟨by decide +kernel, by decide +kernel⟩, List.mem_of_getElem? (i := 64) (by decide +kernel), List.mem_of_getElem? (i := 423) (by decide +kernel), List.mem_of_getElem? (i := 424) (by decide +kernel)⟩
theorem lw_p5 : lw_okq (⟨"HashgraphDesk$Graph", "findAncestors", "(I)V"⟩, 14) := ⟨⟨by decide +kernel, by decide +kernel⟩, List.mem_of_getElem? (i := 148) (by decide +kernel), List.mem_of_getElem? (i := 433) (by decide +kernel), List.mem_of_getElem? (i := 434) (by decide +kernel)⟩
theorem lw_p6 : lw_okq (⟨"java/lang/Throwable", "fillInStackTrace", "(I)Ljava/lang/Throwable;"⟩, 6) := ⟨⟨by decide +kernel, by decide +kernel⟩, List.mem_of_getElem? (i := 487) (by decide +kernel), List.mem_of_getElem? (i := 485) (by decide +kernel), List.mem_of_getElem? (i := 486) (by decide +kernel)⟩
theorem lw_p7 : lw_okq (⟨"HashgraphDesk$Graph", "countForks", "(I)V"⟩, 14) := ⟨⟨by decide +kernel, by decide +kernel⟩, List.mem_of_getElem? (i := 148) (by decide +kernel), List.mem_of_getElem? (i := 788) (by decide +kernel), List.mem_of_getElem? (i := 789) (by decide +kernel)⟩
theorem lw_p8 : lw_okq (⟨"HashgraphDesk$Graph", "findSeen", "(I)V"⟩, 14) := ⟨⟨by decide +kernel, by decide +kernel⟩, List.mem_of_getElem? (i := 148) (by decide +kernel), List.mem_of_getElem? (i := 792) (by decide +kernel), List.mem_of_getElem? (i := 793) (by decide +kernel)⟩
theorem lw_p9 : lw_okq (⟨"HashgraphDesk$Graph", "countAncestorsByCreator", "(I)V"⟩, 14) := ⟨⟨by decide +kernel, by decide +kernel⟩, List.mem_of_getElem? (i := 148) (by decide +kernel), List.mem_of_getElem? (i := 796) (by decide +kernel), List.mem_of_getElem? (i := 797) (by decide +kernel)⟩
theorem lw_p10 : lw_okq (⟨"HashgraphDesk$Graph", "isForker", "(I)Z"⟩, 14) := ⟨⟨by decide +kernel, by decide +kernel⟩, List.mem_of_getElem? (i := 148) (by decide +kernel), List.mem_of_getElem? (i := 805) (by decide +kernel), List.mem_of_getElem? (i := 806) (by decide +kernel)⟩
theorem lw_p11 : lw_okq (⟨"HashgraphDesk$Graph", "findStronglySeen", "(I)V"⟩, 14) := ⟨⟨by decide +kernel, by decide +kernel⟩, List.mem_of_getElem? (i := 148) (by decide +kernel), List.mem_of_getElem? (i := 809) (by decide +kernel), List.mem_of_getElem? (i := 810) (by decide +kernel)⟩
theorem lw_p12 : lw_okq (⟨"HashgraphDesk$Graph", "findRound", "(I)V"⟩, 14) := ⟨⟨by decide +kernel, by decide +kernel⟩, List.mem_of_getElem? (i := 148) (by decide +kernel), List.mem_of_getElem? (i := 822) (by decide +kernel), List.mem_of_getElem? (i := 823) (by decide +kernel)⟩
theorem lw_p13 : lw_okq (⟨"HashgraphDesk$Graph", "stronglySeesMostOf", "(II)Z"⟩, 14) := ⟨⟨by decide +kernel, by decide +kernel⟩, List.mem_of_getElem? (i := 148) (by decide +kernel), List.mem_of_getElem? (i := 826) (by decide +kernel), List.mem_of_getElem? (i := 827) (by decide +kernel)⟩
theorem lw_p14 : lw_okq (⟨"HashgraphDesk$Election", "findElectors", "(I)V"⟩, 8) := ⟨⟨by decide +kernel, by decide +kernel⟩, List.mem_of_getElem? (i := 214) (by decide +kernel), List.mem_of_getElem? (i := 840) (by decide +kernel), List.mem_of_getElem? (i := 841) (by decide +kernel)⟩
theorem lw_p15 : lw_okq (⟨"HashgraphDesk$Election", "castVote", "(II)V"⟩, 8) := ⟨⟨by decide +kernel, by decide +kernel⟩, List.mem_of_getElem? (i := 214) (by decide +kernel), List.mem_of_getElem? (i := 847) (by decide +kernel), List.mem_of_getElem? (i := 848) (by decide +kernel)⟩
def lw_privs_1 : List (MethodName × Nat) := [(⟨"HashgraphDesk", "startAnew", "(I)V"⟩, 7), (⟨"HashgraphDesk", "makeEvent", "(IIIJI)I"⟩, 7), (⟨"HashgraphDesk$Events", "putParentHash", "(I)V"⟩, 11), (⟨"HashgraphDesk$Sha256", "fillSchedule", "(I)V"⟩, 4), (⟨"HashgraphDesk$Sha256", "mixSchedule", "()V"⟩, 4), (⟨"HashgraphDesk$Graph", "findAncestors", "(I)V"⟩, 14), (⟨"java/lang/Throwable", "fillInStackTrace", "(I)Ljava/lang/Throwable;"⟩, 6), (⟨"HashgraphDesk$Graph", "countForks", "(I)V"⟩, 14), (⟨"HashgraphDesk$Graph", "findSeen", "(I)V"⟩, 14), (⟨"HashgraphDesk$Graph", "countAncestorsByCreator", "(I)V"⟩, 14), (⟨"HashgraphDesk$Graph", "isForker", "(I)Z"⟩, 14), (⟨"HashgraphDesk$Graph", "findStronglySeen", "(I)V"⟩, 14), (⟨"HashgraphDesk$Graph", "findRound", "(I)V"⟩, 14), (⟨"HashgraphDesk$Graph", "stronglySeesMostOf", "(II)Z"⟩, 14), (⟨"HashgraphDesk$Election", "findElectors", "(I)V"⟩, 8), (⟨"HashgraphDesk$Election", "castVote", "(II)V"⟩, 8)]
theorem lw_r1 : ∀ q ∈ lw_privs_1, lw_okq q := List.forall_mem_cons.mpr ⟨lw_p0, List.forall_mem_cons.mpr ⟨lw_p1, List.forall_mem_cons.mpr ⟨lw_p2, List.forall_mem_cons.mpr ⟨lw_p3, List.forall_mem_cons.mpr ⟨lw_p4, List.forall_mem_cons.mpr ⟨lw_p5, List.forall_mem_cons.mpr ⟨lw_p6, List.forall_mem_cons.mpr ⟨lw_p7, List.forall_mem_cons.mpr ⟨lw_p8, List.forall_mem_cons.mpr ⟨lw_p9, List.forall_mem_cons.mpr ⟨lw_p10, List.forall_mem_cons.mpr ⟨lw_p11, List.forall_mem_cons.mpr ⟨lw_p12, List.forall_mem_cons.mpr ⟨lw_p13, List.forall_mem_cons.mpr ⟨lw_p14, List.forall_mem_cons.mpr ⟨lw_p15, fun _ h => absurd h List.not_mem_nil⟩⟩⟩⟩⟩⟩⟩⟩⟩⟩⟩⟩⟩⟩⟩⟩
theorem lw_p16 : lw_okq (⟨"HashgraphDesk$Election", "write", "(IIZZ)V"⟩, 8) := ⟨⟨by decide +kernel, by decide +kernel⟩, List.mem_of_getElem? (i := 214) (by decide +kernel), List.mem_of_getElem? (i := 851) (by decide +kernel), List.mem_of_getElem? (i := 852) (by decide +kernel)⟩
theorem lw_p17 : lw_okq (⟨"HashgraphDesk", "give", "(II)V"⟩, 7) := ⟨⟨by decide +kernel, by decide +kernel⟩, List.mem_of_getElem? (i := 32) (by decide +kernel), List.mem_of_getElem? (i := 873) (by decide +kernel), List.mem_of_getElem? (i := 874) (by decide +kernel)⟩
theorem lw_p18 : lw_okq (⟨"HashgraphDesk", "isNode", "(I)Z"⟩, 7) := ⟨⟨by decide +kernel, by decide +kernel⟩, List.mem_of_getElem? (i := 32) (by decide +kernel), List.mem_of_getElem? (i := 927) (by decide +kernel), List.mem_of_getElem? (i := 928) (by decide +kernel)⟩
theorem lw_p19 : lw_okq (⟨"HashgraphDesk", "isHeld", "(II)Z"⟩, 7) := ⟨⟨by decide +kernel, by decide +kernel⟩, List.mem_of_getElem? (i := 32) (by decide +kernel), List.mem_of_getElem? (i := 976) (by decide +kernel), List.mem_of_getElem? (i := 977) (by decide +kernel)⟩
theorem lw_p20 : lw_okq (⟨"HashgraphDesk", "isEvent", "(I)Z"⟩, 7) := ⟨⟨by decide +kernel, by decide +kernel⟩, List.mem_of_getElem? (i := 32) (by decide +kernel), List.mem_of_getElem? (i := 980) (by decide +kernel), List.mem_of_getElem? (i := 981) (by decide +kernel)⟩
theorem lw_p21 : lw_okq (⟨"HashgraphDesk", "freshView", "(I)LHashgraphDesk$View;"⟩, 7) := ⟨⟨by decide +kernel, by decide +kernel⟩, List.mem_of_getElem? (i := 32) (by decide +kernel), List.mem_of_getElem? (i := 1050) (by decide +kernel), List.mem_of_getElem? (i := 1051) (by decide +kernel)⟩
theorem lw_p22 : lw_okq (⟨"HashgraphDesk$View", "findFame", "()V"⟩, 18) := ⟨⟨by decide +kernel, by decide +kernel⟩, List.mem_of_getElem? (i := 250) (by decide +kernel), List.mem_of_getElem? (i := 1058) (by decide +kernel), List.mem_of_getElem? (i := 1059) (by decide +kernel)⟩
theorem lw_p23 : lw_okq (⟨"HashgraphDesk$View", "holds", "(I)Z"⟩, 18) := ⟨⟨by decide +kernel, by decide +kernel⟩, List.mem_of_getElem? (i := 250) (by decide +kernel), List.mem_of_getElem? (i := 1063) (by decide +kernel), List.mem_of_getElem? (i := 1064) (by decide +kernel)⟩
theorem lw_p24 : lw_okq (⟨"HashgraphDesk$View", "deciderOf", "(I)I"⟩, 18) := ⟨⟨by decide +kernel, by decide +kernel⟩, List.mem_of_getElem? (i := 250) (by decide +kernel), List.mem_of_getElem? (i := 1068) (by decide +kernel), List.mem_of_getElem? (i := 1069) (by decide +kernel)⟩
theorem lw_p25 : lw_okq (⟨"HashgraphDesk$View", "findUniques", "()V"⟩, 18) := ⟨⟨by decide +kernel, by decide +kernel⟩, List.mem_of_getElem? (i := 250) (by decide +kernel), List.mem_of_getElem? (i := 1074) (by decide +kernel), List.mem_of_getElem? (i := 1075) (by decide +kernel)⟩
theorem lw_p26 : lw_okq (⟨"HashgraphDesk$View", "isOnlyFamousOne", "(I)Z"⟩, 18) := ⟨⟨by decide +kernel, by decide +kernel⟩, List.mem_of_getElem? (i := 250) (by decide +kernel), List.mem_of_getElem? (i := 1078) (by decide +kernel), List.mem_of_getElem? (i := 1079) (by decide +kernel)⟩
theorem lw_p27 : lw_okq (⟨"HashgraphDesk$View", "addUnique", "(II)V"⟩, 18) := ⟨⟨by decide +kernel, by decide +kernel⟩, List.mem_of_getElem? (i := 250) (by decide +kernel), List.mem_of_getElem? (i := 1082) (by decide +kernel), List.mem_of_getElem? (i := 1083) (by decide +kernel)⟩
theorem lw_p28 : lw_okq (⟨"HashgraphDesk$View", "settleRounds", "()V"⟩, 18) := ⟨⟨by decide +kernel, by decide +kernel⟩, List.mem_of_getElem? (i := 250) (by decide +kernel), List.mem_of_getElem? (i := 1087) (by decide +kernel), List.mem_of_getElem? (i := 1088) (by decide +kernel)⟩
theorem lw_p29 : lw_okq (⟨"HashgraphDesk$View", "leastOpenRound", "()I"⟩, 18) := ⟨⟨by decide +kernel, by decide +kernel⟩, List.mem_of_getElem? (i := 250) (by decide +kernel), List.mem_of_getElem? (i := 1091) (by decide +kernel), List.mem_of_getElem? (i := 1092) (by decide +kernel)⟩
theorem lw_p30 : lw_okq (⟨"HashgraphDesk$View", "findReceived", "()V"⟩, 18) := ⟨⟨by decide +kernel, by decide +kernel⟩, List.mem_of_getElem? (i := 250) (by decide +kernel), List.mem_of_getElem? (i := 1096) (by decide +kernel), List.mem_of_getElem? (i := 1097) (by decide +kernel)⟩
theorem lw_p31 : lw_okq (⟨"HashgraphDesk$View", "roundReceiving", "(I)I"⟩, 18) := ⟨⟨by decide +kernel, by decide +kernel⟩, List.mem_of_getElem? (i := 250) (by decide +kernel), List.mem_of_getElem? (i := 1100) (by decide +kernel), List.mem_of_getElem? (i := 1101) (by decide +kernel)⟩
def lw_privs_2 : List (MethodName × Nat) := [(⟨"HashgraphDesk$Election", "write", "(IIZZ)V"⟩, 8), (⟨"HashgraphDesk", "give", "(II)V"⟩, 7), (⟨"HashgraphDesk", "isNode", "(I)Z"⟩, 7), (⟨"HashgraphDesk", "isHeld", "(II)Z"⟩, 7), (⟨"HashgraphDesk", "isEvent", "(I)Z"⟩, 7), (⟨"HashgraphDesk", "freshView", "(I)LHashgraphDesk$View;"⟩, 7), (⟨"HashgraphDesk$View", "findFame", "()V"⟩, 18), (⟨"HashgraphDesk$View", "holds", "(I)Z"⟩, 18), (⟨"HashgraphDesk$View", "deciderOf", "(I)I"⟩, 18), (⟨"HashgraphDesk$View", "findUniques", "()V"⟩, 18), (⟨"HashgraphDesk$View", "isOnlyFamousOne", "(I)Z"⟩, 18), (⟨"HashgraphDesk$View", "addUnique", "(II)V"⟩, 18), (⟨"HashgraphDesk$View", "settleRounds", "()V"⟩, 18), (⟨"HashgraphDesk$View", "leastOpenRound", "()I"⟩, 18), (⟨"HashgraphDesk$View", "findReceived", "()V"⟩, 18), (⟨"HashgraphDesk$View", "roundReceiving", "(I)I"⟩, 18)]
theorem lw_r2 : ∀ q ∈ lw_privs_2, lw_okq q := List.forall_mem_cons.mpr ⟨lw_p16, List.forall_mem_cons.mpr ⟨lw_p17, List.forall_mem_cons.mpr ⟨lw_p18, List.forall_mem_cons.mpr ⟨lw_p19, List.forall_mem_cons.mpr ⟨lw_p20, List.forall_mem_cons.mpr ⟨lw_p21, List.forall_mem_cons.mpr ⟨lw_p22, List.forall_mem_cons.mpr ⟨lw_p23, List.forall_mem_cons.mpr ⟨lw_p24, List.forall_mem_cons.mpr ⟨lw_p25, List.forall_mem_cons.mpr ⟨lw_p26, List.forall_mem_cons.mpr ⟨lw_p27, List.forall_mem_cons.mpr ⟨lw_p28, List.forall_mem_cons.mpr ⟨lw_p29, List.forall_mem_cons.mpr ⟨lw_p30, List.forall_mem_cons.mpr ⟨lw_p31, fun _ h => absurd h List.not_mem_nil⟩⟩⟩⟩⟩⟩⟩⟩⟩⟩⟩⟩⟩⟩⟩⟩
theorem lw_p32 : lw_okq (⟨"HashgraphDesk$View", "isBelowAllUniques", "(II)Z"⟩, 18) := ⟨⟨by decide +kernel, by decide +kernel⟩, List.mem_of_getElem? (i := 250) (by decide +kernel), List.mem_of_getElem? (i := 1104) (by decide +kernel), List.mem_of_getElem? (i := 1105) (by decide +kernel)⟩
theorem lw_p33 : lw_okq (⟨"HashgraphDesk$View", "stampIn", "(II)J"⟩, 18) := ⟨⟨by decide +kernel, by decide +kernel⟩, List.mem_of_getElem? (i := 250) (by decide +kernel), List.mem_of_getElem? (i := 1108) (by decide +kernel), List.mem_of_getElem? (i := 1109) (by decide +kernel)⟩
theorem lw_p34 : lw_okq (⟨"HashgraphDesk$View", "firstAbove", "(II)I"⟩, 18) := ⟨⟨by decide +kernel, by decide +kernel⟩, List.mem_of_getElem? (i := 250) (by decide +kernel), List.mem_of_getElem? (i := 1112) (by decide +kernel), List.mem_of_getElem? (i := 1113) (by decide +kernel)⟩
theorem lw_p35 : lw_okq (⟨"HashgraphDesk$View", "findOrder", "()V"⟩, 18) := ⟨⟨by decide +kernel, by decide +kernel⟩, List.mem_of_getElem? (i := 250) (by decide +kernel), List.mem_of_getElem? (i := 1116) (by decide +kernel), List.mem_of_getElem? (i := 1117) (by decide +kernel)⟩
theorem lw_p36 : lw_okq (⟨"HashgraphDesk$View", "insert", "(I)V"⟩, 18) := ⟨⟨by decide +kernel, by decide +kernel⟩, List.mem_of_getElem? (i := 250) (by decide +kernel), List.mem_of_getElem? (i := 1120) (by decide +kernel), List.mem_of_getElem? (i := 1121) (by decide +kernel)⟩
theorem lw_p37 : lw_okq (⟨"HashgraphDesk$View", "isBefore", "(II)Z"⟩, 18) := ⟨⟨by decide +kernel, by decide +kernel⟩, List.mem_of_getElem? (i := 250) (by decide +kernel), List.mem_of_getElem? (i := 1124) (by decide +kernel), List.mem_of_getElem? (i := 1125) (by decide +kernel)⟩
theorem lw_p38 : lw_okq (⟨"HashgraphDesk$View", "findBalances", "(I)V"⟩, 18) := ⟨⟨by decide +kernel, by decide +kernel⟩, List.mem_of_getElem? (i := 250) (by decide +kernel), List.mem_of_getElem? (i := 1129) (by decide +kernel), List.mem_of_getElem? (i := 1130) (by decide +kernel)⟩
theorem lw_p39 : lw_okq (⟨"HashgraphDesk$View", "pay", "(III)V"⟩, 18) := ⟨⟨by decide +kernel, by decide +kernel⟩, List.mem_of_getElem? (i := 250) (by decide +kernel), List.mem_of_getElem? (i := 1137) (by decide +kernel), List.mem_of_getElem? (i := 1138) (by decide +kernel)⟩
theorem lw_p40 : lw_okq (⟨"HashgraphDeskModel", "anew", "(I)V"⟩, 39) := ⟨⟨by decide +kernel, by decide +kernel⟩, List.mem_of_getElem? (i := 1196) (by decide +kernel), List.mem_of_getElem? (i := 1275) (by decide +kernel), List.mem_of_getElem? (i := 1276) (by decide +kernel)⟩
theorem lw_p41 : lw_okq (⟨"HashgraphDeskModel", "make", "(IIIJ)I"⟩, 39) := ⟨⟨by decide +kernel, by decide +kernel⟩, List.mem_of_getElem? (i := 1196) (by decide +kernel), List.mem_of_getElem? (i := 1279) (by decide +kernel), List.mem_of_getElem? (i := 1280) (by decide +kernel)⟩
theorem lw_p42 : lw_okq (⟨"HashgraphDeskModel", "hash", "(I)V"⟩, 39) := ⟨⟨by decide +kernel, by decide +kernel⟩, List.mem_of_getElem? (i := 1196) (by decide +kernel), List.mem_of_getElem? (i := 1283) (by decide +kernel), List.mem_of_getElem? (i := 1284) (by decide +kernel)⟩
theorem lw_p43 : lw_okq (⟨"HashgraphDeskModel", "octet", "(I)V"⟩, 39) := ⟨⟨by decide +kernel, by decide +kernel⟩, List.mem_of_getElem? (i := 1196) (by decide +kernel), List.mem_of_getElem? (i := 1287) (by decide +kernel), List.mem_of_getElem? (i := 1288) (by decide +kernel)⟩
theorem lw_p44 : lw_okq (⟨"HashgraphDeskModel", "four", "(I)V"⟩, 39) := ⟨⟨by decide +kernel, by decide +kernel⟩, List.mem_of_getElem? (i := 1196) (by decide +kernel), List.mem_of_getElem? (i := 1291) (by decide +kernel), List.mem_of_getElem? (i := 1292) (by decide +kernel)⟩
theorem lw_p45 : lw_okq (⟨"HashgraphDeskModel", "compress", "(I)V"⟩, 39) := ⟨⟨by decide +kernel, by decide +kernel⟩, List.mem_of_getElem? (i := 1196) (by decide +kernel), List.mem_of_getElem? (i := 1295) (by decide +kernel), List.mem_of_getElem? (i := 1296) (by decide +kernel)⟩
theorem lw_p46 : lw_okq (⟨"HashgraphDeskModel", "isForked", "(II)Z"⟩, 39) := ⟨⟨by decide +kernel, by decide +kernel⟩, List.mem_of_getElem? (i := 1196) (by decide +kernel), List.mem_of_getElem? (i := 1302) (by decide +kernel), List.mem_of_getElem? (i := 1303) (by decide +kernel)⟩
theorem lw_p47 : lw_okq (⟨"HashgraphDeskModel", "isFork", "(II)Z"⟩, 39) := ⟨⟨by decide +kernel, by decide +kernel⟩, List.mem_of_getElem? (i := 1196) (by decide +kernel), List.mem_of_getElem? (i := 1306) (by decide +kernel), List.mem_of_getElem? (i := 1307) (by decide +kernel)⟩
def lw_privs_3 : List (MethodName × Nat) := [(⟨"HashgraphDesk$View", "isBelowAllUniques", "(II)Z"⟩, 18), (⟨"HashgraphDesk$View", "stampIn", "(II)J"⟩, 18), (⟨"HashgraphDesk$View", "firstAbove", "(II)I"⟩, 18), (⟨"HashgraphDesk$View", "findOrder", "()V"⟩, 18), (⟨"HashgraphDesk$View", "insert", "(I)V"⟩, 18), (⟨"HashgraphDesk$View", "isBefore", "(II)Z"⟩, 18), (⟨"HashgraphDesk$View", "findBalances", "(I)V"⟩, 18), (⟨"HashgraphDesk$View", "pay", "(III)V"⟩, 18), (⟨"HashgraphDeskModel", "anew", "(I)V"⟩, 39), (⟨"HashgraphDeskModel", "make", "(IIIJ)I"⟩, 39), (⟨"HashgraphDeskModel", "hash", "(I)V"⟩, 39), (⟨"HashgraphDeskModel", "octet", "(I)V"⟩, 39), (⟨"HashgraphDeskModel", "four", "(I)V"⟩, 39), (⟨"HashgraphDeskModel", "compress", "(I)V"⟩, 39), (⟨"HashgraphDeskModel", "isForked", "(II)Z"⟩, 39), (⟨"HashgraphDeskModel", "isFork", "(II)Z"⟩, 39)]
theorem lw_r3 : ∀ q ∈ lw_privs_3, lw_okq q := List.forall_mem_cons.mpr ⟨lw_p32, List.forall_mem_cons.mpr ⟨lw_p33, List.forall_mem_cons.mpr ⟨lw_p34, List.forall_mem_cons.mpr ⟨lw_p35, List.forall_mem_cons.mpr ⟨lw_p36, List.forall_mem_cons.mpr ⟨lw_p37, List.forall_mem_cons.mpr ⟨lw_p38, List.forall_mem_cons.mpr ⟨lw_p39, List.forall_mem_cons.mpr ⟨lw_p40, List.forall_mem_cons.mpr ⟨lw_p41, List.forall_mem_cons.mpr ⟨lw_p42, List.forall_mem_cons.mpr ⟨lw_p43, List.forall_mem_cons.mpr ⟨lw_p44, List.forall_mem_cons.mpr ⟨lw_p45, List.forall_mem_cons.mpr ⟨lw_p46, List.forall_mem_cons.mpr ⟨lw_p47, fun _ h => absurd h List.not_mem_nil⟩⟩⟩⟩⟩⟩⟩⟩⟩⟩⟩⟩⟩⟩⟩⟩
theorem lw_p48 : lw_okq (⟨"HashgraphDeskModel", "isSelf", "(II)Z"⟩, 39) := ⟨⟨by decide +kernel, by decide +kernel⟩, List.mem_of_getElem? (i := 1196) (by decide +kernel), List.mem_of_getElem? (i := 1310) (by decide +kernel), List.mem_of_getElem? (i := 1311) (by decide +kernel)⟩
theorem lw_p49 : lw_okq (⟨"HashgraphDeskModel", "strongly", "(II)Z"⟩, 39) := ⟨⟨by decide +kernel, by decide +kernel⟩, List.mem_of_getElem? (i := 1196) (by decide +kernel), List.mem_of_getElem? (i := 1314) (by decide +kernel), List.mem_of_getElem? (i := 1315) (by decide +kernel)⟩
theorem lw_p50 : lw_okq (⟨"HashgraphDeskModel", "sees", "(II)Z"⟩, 39) := ⟨⟨by decide +kernel, by decide +kernel⟩, List.mem_of_getElem? (i := 1196) (by decide +kernel), List.mem_of_getElem? (i := 1318) (by decide +kernel), List.mem_of_getElem? (i := 1319) (by decide +kernel)⟩
theorem lw_p51 : lw_okq (⟨"HashgraphDeskModel", "isMost", "(I)Z"⟩, 39) := ⟨⟨by decide +kernel, by decide +kernel⟩, List.mem_of_getElem? (i := 1196) (by decide +kernel), List.mem_of_getElem? (i := 1323) (by decide +kernel), List.mem_of_getElem? (i := 1324) (by decide +kernel)⟩
theorem lw_p52 : lw_okq (⟨"HashgraphDeskModel", "fails", "(ZI)Z"⟩, 39) := ⟨⟨by decide +kernel, by decide +kernel⟩, List.mem_of_getElem? (i := 1196) (by decide +kernel), List.mem_of_getElem? (i := 1456) (by decide +kernel), List.mem_of_getElem? (i := 1457) (by decide +kernel)⟩
theorem lw_p53 : lw_okq (⟨"HashgraphDeskModel", "isNode", "(I)Z"⟩, 39) := ⟨⟨by decide +kernel, by decide +kernel⟩, List.mem_of_getElem? (i := 1196) (by decide +kernel), List.mem_of_getElem? (i := 1464) (by decide +kernel), List.mem_of_getElem? (i := 1465) (by decide +kernel)⟩
theorem lw_p54 : lw_okq (⟨"HashgraphDeskModel", "holds", "(II)Z"⟩, 39) := ⟨⟨by decide +kernel, by decide +kernel⟩, List.mem_of_getElem? (i := 1196) (by decide +kernel), List.mem_of_getElem? (i := 1477) (by decide +kernel), List.mem_of_getElem? (i := 1478) (by decide +kernel)⟩
theorem lw_p55 : lw_okq (⟨"HashgraphDeskModel", "isEvent", "(I)Z"⟩, 39) := ⟨⟨by decide +kernel, by decide +kernel⟩, List.mem_of_getElem? (i := 1196) (by decide +kernel), List.mem_of_getElem? (i := 1481) (by decide +kernel), List.mem_of_getElem? (i := 1482) (by decide +kernel)⟩
theorem lw_p56 : lw_okq (⟨"HashgraphDeskModel", "voteOf", "(II)I"⟩, 39) := ⟨⟨by decide +kernel, by decide +kernel⟩, List.mem_of_getElem? (i := 1196) (by decide +kernel), List.mem_of_getElem? (i := 1501) (by decide +kernel), List.mem_of_getElem? (i := 1502) (by decide +kernel)⟩
theorem lw_p57 : lw_okq (⟨"HashgraphDeskModel", "find", "(I)V"⟩, 39) := ⟨⟨by decide +kernel, by decide +kernel⟩, List.mem_of_getElem? (i := 1196) (by decide +kernel), List.mem_of_getElem? (i := 1509) (by decide +kernel), List.mem_of_getElem? (i := 1510) (by decide +kernel)⟩
theorem lw_p58 : lw_okq (⟨"HashgraphDeskModel", "receive", "(II)V"⟩, 39) := ⟨⟨by decide +kernel, by decide +kernel⟩, List.mem_of_getElem? (i := 1196) (by decide +kernel), List.mem_of_getElem? (i := 1513) (by decide +kernel), List.mem_of_getElem? (i := 1514) (by decide +kernel)⟩
theorem lw_p59 : lw_okq (⟨"HashgraphDeskModel", "isUnique", "(II)Z"⟩, 39) := ⟨⟨by decide +kernel, by decide +kernel⟩, List.mem_of_getElem? (i := 1196) (by decide +kernel), List.mem_of_getElem? (i := 1517) (by decide +kernel), List.mem_of_getElem? (i := 1518) (by decide +kernel)⟩
theorem lw_p60 : lw_okq (⟨"HashgraphDeskModel", "comesBefore", "(II)Z"⟩, 39) := ⟨⟨by decide +kernel, by decide +kernel⟩, List.mem_of_getElem? (i := 1196) (by decide +kernel), List.mem_of_getElem? (i := 1521) (by decide +kernel), List.mem_of_getElem? (i := 1522) (by decide +kernel)⟩
def lw_privs_4 : List (MethodName × Nat) := [(⟨"HashgraphDeskModel", "isSelf", "(II)Z"⟩, 39), (⟨"HashgraphDeskModel", "strongly", "(II)Z"⟩, 39), (⟨"HashgraphDeskModel", "sees", "(II)Z"⟩, 39), (⟨"HashgraphDeskModel", "isMost", "(I)Z"⟩, 39), (⟨"HashgraphDeskModel", "fails", "(ZI)Z"⟩, 39), (⟨"HashgraphDeskModel", "isNode", "(I)Z"⟩, 39), (⟨"HashgraphDeskModel", "holds", "(II)Z"⟩, 39), (⟨"HashgraphDeskModel", "isEvent", "(I)Z"⟩, 39), (⟨"HashgraphDeskModel", "voteOf", "(II)I"⟩, 39), (⟨"HashgraphDeskModel", "find", "(I)V"⟩, 39), (⟨"HashgraphDeskModel", "receive", "(II)V"⟩, 39), (⟨"HashgraphDeskModel", "isUnique", "(II)Z"⟩, 39), (⟨"HashgraphDeskModel", "comesBefore", "(II)Z"⟩, 39)]
theorem lw_r4 : ∀ q ∈ lw_privs_4, lw_okq q := List.forall_mem_cons.mpr ⟨lw_p48, List.forall_mem_cons.mpr ⟨lw_p49, List.forall_mem_cons.mpr ⟨lw_p50, List.forall_mem_cons.mpr ⟨lw_p51, List.forall_mem_cons.mpr ⟨lw_p52, List.forall_mem_cons.mpr ⟨lw_p53, List.forall_mem_cons.mpr ⟨lw_p54, List.forall_mem_cons.mpr ⟨lw_p55, List.forall_mem_cons.mpr ⟨lw_p56, List.forall_mem_cons.mpr ⟨lw_p57, List.forall_mem_cons.mpr ⟨lw_p58, List.forall_mem_cons.mpr ⟨lw_p59, List.forall_mem_cons.mpr ⟨lw_p60, fun _ h => absurd h List.not_mem_nil⟩⟩⟩⟩⟩⟩⟩⟩⟩⟩⟩⟩⟩
def lw_privs : List (MethodName × Nat) := lw_privs_1 ++ (lw_privs_2 ++ (lw_privs_3 ++ (lw_privs_4)))
def lw_tbl : List Cond := k2_sels lw_privs ++ tables_1
theorem lw_privs_ok : ∀ q ∈ lw_privs, lw_okq q := by
  show ∀ q ∈ lw_privs_1 ++ (lw_privs_2 ++ (lw_privs_3 ++ (lw_privs_4))), lw_okq q
  exact List.forall_mem_append.mpr ⟨lw_r1, List.forall_mem_append.mpr ⟨lw_r2, List.forall_mem_append.mpr ⟨lw_r3, lw_r4⟩⟩⟩
-- ===== end of PART A; then your names; then what follows =====
end
section
def RX0 : String := "HashgraphDesk$BitTable"
def TX0 : u_T := fun k => match k with
  | 0 => ("HashgraphDesk$BitTable", "rows", "I", true)
  | _ => ("HashgraphDesk$BitTable", "words", "[J", true)
def tyX0 : Nat → FieldType := fun k => match k with
  | 0 => .int
  | _ => .array .long
abbrev wsX00 : List Cond := u_ws RX0 TX0 2
theorem nmX0 : ∀ a, a < 2 → ∀ b, b < 2 → a ≠ b → (TX0 a).2.1 ≠ (TX0 b).2.1 := by decide +kernel
theorem tyX0_ok : ∀ k, k < 2 → parseFieldDescriptor (TX0 k).2.2.1 = some (tyX0 k) := by decide +kernel
abbrev cX0_init : ByteArray := prog_2_method_1_code
def yX0_init : MethodName := ⟨RX0, "<init>", "(I)V"⟩
abbrev cX0_clear : ByteArray := prog_2_method_2_code
def yX0_clear : MethodName := ⟨RX0, "clear", "()V"⟩
abbrev cX0_clearRow : ByteArray := prog_2_method_3_code
def yX0_clearRow : MethodName := ⟨RX0, "clearRow", "(I)V"⟩
abbrev cX0_has : ByteArray := prog_2_method_4_code
def yX0_has : MethodName := ⟨RX0, "has", "(II)Z"⟩
abbrev cX0_put : ByteArray := prog_2_method_5_code
def yX0_put : MethodName := ⟨RX0, "put", "(II)V"⟩
abbrev cX0_join : ByteArray := prog_2_method_6_code
def yX0_join : MethodName := ⟨RX0, "join", "(ILHashgraphDesk$BitTable;I)V"⟩
abbrev cX0_size : ByteArray := prog_2_method_7_code
def yX0_size : MethodName := ⟨RX0, "size", "(I)I"⟩
abbrev cX0_sizeInCommon : ByteArray := prog_2_method_8_code
def yX0_sizeInCommon : MethodName := ⟨RX0, "sizeInCommon", "(ILHashgraphDesk$BitTable;I)I"⟩
abbrev cX0_rowsWith : ByteArray := prog_2_method_9_code
def yX0_rowsWith : MethodName := ⟨RX0, "rowsWith", "(I)I"⟩
def RX1 : String := "HashgraphDesk$Election"
def TX1 : u_T := fun k => match k with
  | 0 => ("HashgraphDesk$Election", "events", "LHashgraphDesk$Events;", true)
  | 1 => ("HashgraphDesk$Election", "graph", "LHashgraphDesk$Graph;", true)
  | 2 => ("HashgraphDesk$Election", "witnesses", "[I", true)
  | 3 => ("HashgraphDesk$Election", "electors", "LHashgraphDesk$BitTable;", true)
  | 4 => ("HashgraphDesk$Election", "yesVotes", "LHashgraphDesk$BitTable;", true)
  | 5 => ("HashgraphDesk$Election", "decisions", "LHashgraphDesk$BitTable;", true)
  | 6 => ("HashgraphDesk$Election", "size", "I", false)
  | _ => ("HashgraphDesk$Election", "nodes", "I", false)
def tyX1 : Nat → FieldType := fun k => match k with
  | 0 => .object "HashgraphDesk$Events"
  | 1 => .object "HashgraphDesk$Graph"
  | 2 => .array .int
  | 3 => .object "HashgraphDesk$BitTable"
  | 4 => .object "HashgraphDesk$BitTable"
  | 5 => .object "HashgraphDesk$BitTable"
  | 6 => .int
  | _ => .int
abbrev wsX10 : List Cond := u_ws RX1 TX1 8
theorem nmX1 : ∀ a, a < 8 → ∀ b, b < 8 → a ≠ b → (TX1 a).2.1 ≠ (TX1 b).2.1 := by decide +kernel
theorem tyX1_ok : ∀ k, k < 8 → parseFieldDescriptor (TX1 k).2.2.1 = some (tyX1 k) := by decide +kernel
abbrev cX1_init : ByteArray := prog_3_method_1_code
def yX1_init : MethodName := ⟨RX1, "<init>", "(LHashgraphDesk$Events;LHashgraphDesk$Graph;)V"⟩
abbrev cX1_clear : ByteArray := prog_3_method_2_code
def yX1_clear : MethodName := ⟨RX1, "clear", "(I)V"⟩
abbrev cX1_isYes : ByteArray := prog_3_method_3_code
def yX1_isYes : MethodName := ⟨RX1, "isYes", "(II)Z"⟩
abbrev cX1_decides : ByteArray := prog_3_method_4_code
def yX1_decides : MethodName := ⟨RX1, "decides", "(II)Z"⟩
abbrev cX1_take : ByteArray := prog_3_method_5_code
def yX1_take : MethodName := ⟨RX1, "take", "(I)V"⟩
abbrev cX1_findElectors : ByteArray := prog_3_method_6_code
def yX1_findElectors : MethodName := ⟨RX1, "findElectors", "(I)V"⟩
abbrev cX1_castVote : ByteArray := prog_3_method_7_code
def yX1_castVote : MethodName := ⟨RX1, "castVote", "(II)V"⟩
abbrev cX1_write : ByteArray := prog_3_method_8_code
def yX1_write : MethodName := ⟨RX1, "write", "(IIZZ)V"⟩
def RX2 : String := "HashgraphDesk$Events"
def TX2 : u_T := fun k => match k with
  | 0 => ("HashgraphDesk$Events", "sha", "LHashgraphDesk$Sha256;", true)
  | 1 => ("HashgraphDesk$Events", "creator", "[I", true)
  | 2 => ("HashgraphDesk$Events", "self", "[I", true)
  | 3 => ("HashgraphDesk$Events", "other", "[I", true)
  | 4 => ("HashgraphDesk$Events", "time", "[J", true)
  | 5 => ("HashgraphDesk$Events", "transactions", "[I", true)
  | 6 => ("HashgraphDesk$Events", "to", "[I", true)
  | 7 => ("HashgraphDesk$Events", "amount", "[I", true)
  | 8 => ("HashgraphDesk$Events", "hashes", "[I", true)
  | 9 => ("HashgraphDesk$Events", "holdings", "LHashgraphDesk$BitTable;", true)
  | _ => ("HashgraphDesk$Events", "size", "I", false)
def tyX2 : Nat → FieldType := fun k => match k with
  | 0 => .object "HashgraphDesk$Sha256"
  | 1 => .array .int
  | 2 => .array .int
  | 3 => .array .int
  | 4 => .array .long
  | 5 => .array .int
  | 6 => .array .int
  | 7 => .array .int
  | 8 => .array .int
  | 9 => .object "HashgraphDesk$BitTable"
  | _ => .int
abbrev wsX20 : List Cond := u_ws RX2 TX2 11
theorem nmX2 : ∀ a, a < 11 → ∀ b, b < 11 → a ≠ b → (TX2 a).2.1 ≠ (TX2 b).2.1 := by decide +kernel
theorem tyX2_ok : ∀ k, k < 11 → parseFieldDescriptor (TX2 k).2.2.1 = some (tyX2 k) := by decide +kernel
abbrev cX2_init : ByteArray := prog_4_method_1_code
def yX2_init : MethodName := ⟨RX2, "<init>", "()V"⟩
abbrev cX2_clear : ByteArray := prog_4_method_2_code
def yX2_clear : MethodName := ⟨RX2, "clear", "()V"⟩
abbrev cX2_isFull : ByteArray := prog_4_method_3_code
def yX2_isFull : MethodName := ⟨RX2, "isFull", "()Z"⟩
abbrev cX2_open : ByteArray := prog_4_method_4_code
def yX2_open : MethodName := ⟨RX2, "open", "(IIIJ)I"⟩
abbrev cX2_addTransaction : ByteArray := prog_4_method_5_code
def yX2_addTransaction : MethodName := ⟨RX2, "addTransaction", "(III)V"⟩
abbrev cX2_close : ByteArray := prog_4_method_6_code
def yX2_close : MethodName := ⟨RX2, "close", "(I)V"⟩
abbrev cX2_putParentHash : ByteArray := prog_4_method_7_code
def yX2_putParentHash : MethodName := ⟨RX2, "putParentHash", "(I)V"⟩
abbrev cX2_hashWord : ByteArray := prog_4_method_8_code
def yX2_hashWord : MethodName := ⟨RX2, "hashWord", "(II)I"⟩
abbrev cX2_hasOneOf : ByteArray := prog_4_method_9_code
def yX2_hasOneOf : MethodName := ⟨RX2, "hasOneOf", "(IIIJ)Z"⟩
def RX3 : String := "HashgraphDesk$Graph"
def TX3 : u_T := fun k => match k with
  | 0 => ("HashgraphDesk$Graph", "events", "LHashgraphDesk$Events;", true)
  | 1 => ("HashgraphDesk$Graph", "ancestors", "LHashgraphDesk$BitTable;", true)
  | 2 => ("HashgraphDesk$Graph", "seen", "LHashgraphDesk$BitTable;", true)
  | 3 => ("HashgraphDesk$Graph", "stronglySeen", "LHashgraphDesk$BitTable;", true)
  | 4 => ("HashgraphDesk$Graph", "seenThrough", "LHashgraphDesk$BitTable;", true)
  | 5 => ("HashgraphDesk$Graph", "depth", "[I", true)
  | 6 => ("HashgraphDesk$Graph", "round", "[I", true)
  | 7 => ("HashgraphDesk$Graph", "witness", "[Z", true)
  | 8 => ("HashgraphDesk$Graph", "madeBy", "[I", true)
  | 9 => ("HashgraphDesk$Graph", "amongAncestors", "[I", true)
  | 10 => ("HashgraphDesk$Graph", "deepest", "[I", true)
  | 11 => ("HashgraphDesk$Graph", "nodes", "I", false)
  | 12 => ("HashgraphDesk$Graph", "forks", "I", false)
  | _ => ("HashgraphDesk$Graph", "greatestRound", "I", false)
def tyX3 : Nat → FieldType := fun k => match k with
  | 0 => .object "HashgraphDesk$Events"
  | 1 => .object "HashgraphDesk$BitTable"
  | 2 => .object "HashgraphDesk$BitTable"
  | 3 => .object "HashgraphDesk$BitTable"
  | 4 => .object "HashgraphDesk$BitTable"
  | 5 => .array .int
  | 6 => .array .int
  | 7 => .array .boolean
  | 8 => .array .int
  | 9 => .array .int
  | 10 => .array .int
  | 11 => .int
  | 12 => .int
  | _ => .int
abbrev wsX30 : List Cond := u_ws RX3 TX3 14
theorem nmX3 : ∀ a, a < 14 → ∀ b, b < 14 → a ≠ b → (TX3 a).2.1 ≠ (TX3 b).2.1 := by decide +kernel
theorem tyX3_ok : ∀ k, k < 14 → parseFieldDescriptor (TX3 k).2.2.1 = some (tyX3 k) := by decide +kernel
abbrev cX3_init : ByteArray := prog_5_method_1_code
def yX3_init : MethodName := ⟨RX3, "<init>", "(LHashgraphDesk$Events;)V"⟩
abbrev cX3_clear : ByteArray := prog_5_method_2_code
def yX3_clear : MethodName := ⟨RX3, "clear", "(I)V"⟩
abbrev cX3_take : ByteArray := prog_5_method_3_code
def yX3_take : MethodName := ⟨RX3, "take", "(I)V"⟩
abbrev cX3_findAncestors : ByteArray := prog_5_method_4_code
def yX3_findAncestors : MethodName := ⟨RX3, "findAncestors", "(I)V"⟩
abbrev cX3_countForks : ByteArray := prog_5_method_5_code
def yX3_countForks : MethodName := ⟨RX3, "countForks", "(I)V"⟩
abbrev cX3_findSeen : ByteArray := prog_5_method_6_code
def yX3_findSeen : MethodName := ⟨RX3, "findSeen", "(I)V"⟩
abbrev cX3_countAncestorsByCreator : ByteArray := prog_5_method_7_code
def yX3_countAncestorsByCreator : MethodName := ⟨RX3, "countAncestorsByCreator", "(I)V"⟩
abbrev cX3_isForker : ByteArray := prog_5_method_8_code
def yX3_isForker : MethodName := ⟨RX3, "isForker", "(I)Z"⟩
abbrev cX3_findStronglySeen : ByteArray := prog_5_method_9_code
def yX3_findStronglySeen : MethodName := ⟨RX3, "findStronglySeen", "(I)V"⟩
abbrev cX3_findRound : ByteArray := prog_5_method_10_code
def yX3_findRound : MethodName := ⟨RX3, "findRound", "(I)V"⟩
abbrev cX3_stronglySeesMostOf : ByteArray := prog_5_method_11_code
def yX3_stronglySeesMostOf : MethodName := ⟨RX3, "stronglySeesMostOf", "(II)Z"⟩
def RX4 : String := "HashgraphDesk$Sha256"
def TX4 : u_T := fun k => match k with
  | 0 => ("HashgraphDesk$Sha256", "message", "[I", true)
  | 1 => ("HashgraphDesk$Sha256", "schedule", "[I", true)
  | 2 => ("HashgraphDesk$Sha256", "state", "[I", true)
  | _ => ("HashgraphDesk$Sha256", "length", "I", false)
def tyX4 : Nat → FieldType := fun k => match k with
  | 0 => .array .int
  | 1 => .array .int
  | 2 => .array .int
  | _ => .int
abbrev wsX40 : List Cond := u_ws RX4 TX4 4
theorem nmX4 : ∀ a, a < 4 → ∀ b, b < 4 → a ≠ b → (TX4 a).2.1 ≠ (TX4 b).2.1 := by decide +kernel
theorem tyX4_ok : ∀ k, k < 4 → parseFieldDescriptor (TX4 k).2.2.1 = some (tyX4 k) := by decide +kernel
abbrev cX4_init : ByteArray := prog_6_method_1_code
def yX4_init : MethodName := ⟨RX4, "<init>", "()V"⟩
abbrev cX4_start : ByteArray := prog_6_method_2_code
def yX4_start : MethodName := ⟨RX4, "start", "()V"⟩
abbrev cX4_putOctet : ByteArray := prog_6_method_3_code
def yX4_putOctet : MethodName := ⟨RX4, "putOctet", "(I)V"⟩
abbrev cX4_putInt : ByteArray := prog_6_method_4_code
def yX4_putInt : MethodName := ⟨RX4, "putInt", "(I)V"⟩
abbrev cX4_putLong : ByteArray := prog_6_method_5_code
def yX4_putLong : MethodName := ⟨RX4, "putLong", "(J)V"⟩
abbrev cX4_finishInto : ByteArray := prog_6_method_6_code
def yX4_finishInto : MethodName := ⟨RX4, "finishInto", "([II)V"⟩
abbrev cX4_fillSchedule : ByteArray := prog_6_method_7_code
def yX4_fillSchedule : MethodName := ⟨RX4, "fillSchedule", "(I)V"⟩
abbrev cX4_mixSchedule : ByteArray := prog_6_method_8_code
def yX4_mixSchedule : MethodName := ⟨RX4, "mixSchedule", "()V"⟩
abbrev cX4_turned : ByteArray := prog_6_method_9_code
def yX4_turned : MethodName := ⟨RX4, "turned", "(II)I"⟩
def RX5 : String := "HashgraphDesk$View"
def TX5 : u_T := fun k => match k with
  | 0 => ("HashgraphDesk$View", "node", "I", true)
  | 1 => ("HashgraphDesk$View", "events", "LHashgraphDesk$Events;", true)
  | 2 => ("HashgraphDesk$View", "graph", "LHashgraphDesk$Graph;", true)
  | 3 => ("HashgraphDesk$View", "election", "LHashgraphDesk$Election;", true)
  | 4 => ("HashgraphDesk$View", "fame", "[I", true)
  | 5 => ("HashgraphDesk$View", "received", "[I", true)
  | 6 => ("HashgraphDesk$View", "stamps", "[J", true)
  | 7 => ("HashgraphDesk$View", "place", "[I", true)
  | 8 => ("HashgraphDesk$View", "sequence", "[I", true)
  | 9 => ("HashgraphDesk$View", "balances", "[I", true)
  | 10 => ("HashgraphDesk$View", "uniques", "[I", true)
  | 11 => ("HashgraphDesk$View", "uniqueCount", "[I", true)
  | 12 => ("HashgraphDesk$View", "turnedBits", "[I", true)
  | 13 => ("HashgraphDesk$View", "settled", "[Z", true)
  | 14 => ("HashgraphDesk$View", "times", "[J", true)
  | 15 => ("HashgraphDesk$View", "length", "I", false)
  | 16 => ("HashgraphDesk$View", "settledRounds", "I", false)
  | _ => ("HashgraphDesk$View", "stale", "Z", false)
def tyX5 : Nat → FieldType := fun k => match k with
  | 0 => .int
  | 1 => .object "HashgraphDesk$Events"
  | 2 => .object "HashgraphDesk$Graph"
  | 3 => .object "HashgraphDesk$Election"
  | 4 => .array .int
  | 5 => .array .int
  | 6 => .array .long
  | 7 => .array .int
  | 8 => .array .int
  | 9 => .array .int
  | 10 => .array .int
  | 11 => .array .int
  | 12 => .array .int
  | 13 => .array .boolean
  | 14 => .array .long
  | 15 => .int
  | 16 => .int
  | _ => .boolean
abbrev wsX50 : List Cond := u_ws RX5 TX5 18
theorem nmX5 : ∀ a, a < 18 → ∀ b, b < 18 → a ≠ b → (TX5 a).2.1 ≠ (TX5 b).2.1 := by decide +kernel
theorem tyX5_ok : ∀ k, k < 18 → parseFieldDescriptor (TX5 k).2.2.1 = some (tyX5 k) := by decide +kernel
abbrev cX5_init : ByteArray := prog_7_method_1_code
def yX5_init : MethodName := ⟨RX5, "<init>", "(ILHashgraphDesk$Events;LHashgraphDesk$Graph;LHashgraphDesk$Election;)V"⟩
abbrev cX5_findAll : ByteArray := prog_7_method_2_code
def yX5_findAll : MethodName := ⟨RX5, "findAll", "(I)V"⟩
abbrev cX5_holds : ByteArray := prog_7_method_3_code
def yX5_holds : MethodName := ⟨RX5, "holds", "(I)Z"⟩
abbrev cX5_findFame : ByteArray := prog_7_method_4_code
def yX5_findFame : MethodName := ⟨RX5, "findFame", "()V"⟩
abbrev cX5_deciderOf : ByteArray := prog_7_method_5_code
def yX5_deciderOf : MethodName := ⟨RX5, "deciderOf", "(I)I"⟩
abbrev cX5_findUniques : ByteArray := prog_7_method_6_code
def yX5_findUniques : MethodName := ⟨RX5, "findUniques", "()V"⟩
abbrev cX5_isOnlyFamousOne : ByteArray := prog_7_method_7_code
def yX5_isOnlyFamousOne : MethodName := ⟨RX5, "isOnlyFamousOne", "(I)Z"⟩
abbrev cX5_addUnique : ByteArray := prog_7_method_8_code
def yX5_addUnique : MethodName := ⟨RX5, "addUnique", "(II)V"⟩
abbrev cX5_settleRounds : ByteArray := prog_7_method_9_code
def yX5_settleRounds : MethodName := ⟨RX5, "settleRounds", "()V"⟩
abbrev cX5_leastOpenRound : ByteArray := prog_7_method_10_code
def yX5_leastOpenRound : MethodName := ⟨RX5, "leastOpenRound", "()I"⟩
abbrev cX5_findReceived : ByteArray := prog_7_method_11_code
def yX5_findReceived : MethodName := ⟨RX5, "findReceived", "()V"⟩
abbrev cX5_roundReceiving : ByteArray := prog_7_method_12_code
def yX5_roundReceiving : MethodName := ⟨RX5, "roundReceiving", "(I)I"⟩
abbrev cX5_isBelowAllUniques : ByteArray := prog_7_method_13_code
def yX5_isBelowAllUniques : MethodName := ⟨RX5, "isBelowAllUniques", "(II)Z"⟩
abbrev cX5_stampIn : ByteArray := prog_7_method_14_code
def yX5_stampIn : MethodName := ⟨RX5, "stampIn", "(II)J"⟩
abbrev cX5_firstAbove : ByteArray := prog_7_method_15_code
def yX5_firstAbove : MethodName := ⟨RX5, "firstAbove", "(II)I"⟩
abbrev cX5_findOrder : ByteArray := prog_7_method_16_code
def yX5_findOrder : MethodName := ⟨RX5, "findOrder", "()V"⟩
abbrev cX5_insert : ByteArray := prog_7_method_17_code
def yX5_insert : MethodName := ⟨RX5, "insert", "(I)V"⟩
abbrev cX5_isBefore : ByteArray := prog_7_method_18_code
def yX5_isBefore : MethodName := ⟨RX5, "isBefore", "(II)Z"⟩
abbrev cX5_findBalances : ByteArray := prog_7_method_19_code
def yX5_findBalances : MethodName := ⟨RX5, "findBalances", "(I)V"⟩
abbrev cX5_pay : ByteArray := prog_7_method_20_code
def yX5_pay : MethodName := ⟨RX5, "pay", "(III)V"⟩
def RX6 : String := "HashgraphDesk$Waiting"
def TX6 : u_T := fun k => match k with
  | 0 => ("HashgraphDesk$Waiting", "to", "[I", true)
  | 1 => ("HashgraphDesk$Waiting", "amount", "[I", true)
  | _ => ("HashgraphDesk$Waiting", "length", "[I", true)
def tyX6 : Nat → FieldType := fun k => match k with
  | 0 => .array .int
  | 1 => .array .int
  | _ => .array .int
abbrev wsX60 : List Cond := u_ws RX6 TX6 3
theorem nmX6 : ∀ a, a < 3 → ∀ b, b < 3 → a ≠ b → (TX6 a).2.1 ≠ (TX6 b).2.1 := by decide +kernel
theorem tyX6_ok : ∀ k, k < 3 → parseFieldDescriptor (TX6 k).2.2.1 = some (tyX6 k) := by decide +kernel
abbrev cX6_init : ByteArray := prog_8_method_1_code
def yX6_init : MethodName := ⟨RX6, "<init>", "()V"⟩
abbrev cX6_clear : ByteArray := prog_8_method_2_code
def yX6_clear : MethodName := ⟨RX6, "clear", "()V"⟩
abbrev cX6_isFull : ByteArray := prog_8_method_3_code
def yX6_isFull : MethodName := ⟨RX6, "isFull", "(I)Z"⟩
abbrev cX6_join : ByteArray := prog_8_method_4_code
def yX6_join : MethodName := ⟨RX6, "join", "(III)V"⟩
abbrev cX6_firstTo : ByteArray := prog_8_method_5_code
def yX6_firstTo : MethodName := ⟨RX6, "firstTo", "(I)I"⟩
abbrev cX6_firstAmount : ByteArray := prog_8_method_6_code
def yX6_firstAmount : MethodName := ⟨RX6, "firstAmount", "(I)I"⟩
abbrev cX6_dropFirst : ByteArray := prog_8_method_7_code
def yX6_dropFirst : MethodName := ⟨RX6, "dropFirst", "(I)V"⟩
abbrev cX6_lengthOfAll : ByteArray := prog_8_method_8_code
def yX6_lengthOfAll : MethodName := ⟨RX6, "lengthOfAll", "()I"⟩
def RX7 : String := "HashgraphDesk"
def TX7 : u_T := fun k => match k with
  | 0 => ("HashgraphDesk", "waiting", "LHashgraphDesk$Waiting;", true)
  | 1 => ("HashgraphDesk", "events", "LHashgraphDesk$Events;", true)
  | 2 => ("HashgraphDesk", "graph", "LHashgraphDesk$Graph;", true)
  | 3 => ("HashgraphDesk", "election", "LHashgraphDesk$Election;", true)
  | 4 => ("HashgraphDesk", "views", "[LHashgraphDesk$View;", true)
  | 5 => ("HashgraphDesk", "latest", "[I", true)
  | _ => ("HashgraphDesk", "nodes", "I", false)
def tyX7 : Nat → FieldType := fun k => match k with
  | 0 => .object "HashgraphDesk$Waiting"
  | 1 => .object "HashgraphDesk$Events"
  | 2 => .object "HashgraphDesk$Graph"
  | 3 => .object "HashgraphDesk$Election"
  | 4 => .array (.object "HashgraphDesk$View")
  | 5 => .array .int
  | _ => .int
abbrev wsX70 : List Cond := u_ws RX7 TX7 7
theorem nmX7 : ∀ a, a < 7 → ∀ b, b < 7 → a ≠ b → (TX7 a).2.1 ≠ (TX7 b).2.1 := by decide +kernel
theorem tyX7_ok : ∀ k, k < 7 → parseFieldDescriptor (TX7 k).2.2.1 = some (tyX7 k) := by decide +kernel
abbrev cX7_init : ByteArray := prog_1_method_1_code
def yX7_init : MethodName := ⟨RX7, "<init>", "()V"⟩
abbrev cX7_begin : ByteArray := prog_1_method_2_code
def yX7_begin : MethodName := ⟨RX7, "begin", "(I)V"⟩
abbrev cX7_submit : ByteArray := prog_1_method_3_code
def yX7_submit : MethodName := ⟨RX7, "submit", "(III)I"⟩
abbrev cX7_sync : ByteArray := prog_1_method_4_code
def yX7_sync : MethodName := ⟨RX7, "sync", "(IIJ)I"⟩
abbrev cX7_inject : ByteArray := prog_1_method_5_code
def yX7_inject : MethodName := ⟨RX7, "inject", "(IIIIJ)I"⟩
abbrev cX7_event : ByteArray := prog_1_method_6_code
def yX7_event : MethodName := ⟨RX7, "event", "(II)I"⟩
abbrev cX7_hash : ByteArray := prog_1_method_7_code
def yX7_hash : MethodName := ⟨RX7, "hash", "(II)I"⟩
abbrev cX7_sees : ByteArray := prog_1_method_8_code
def yX7_sees : MethodName := ⟨RX7, "sees", "(IIZ)Z"⟩
abbrev cX7_vote : ByteArray := prog_1_method_9_code
def yX7_vote : MethodName := ⟨RX7, "vote", "(II)I"⟩
abbrev cX7_found : ByteArray := prog_1_method_10_code
def yX7_found : MethodName := ⟨RX7, "found", "(III)I"⟩
abbrev cX7_stamp : ByteArray := prog_1_method_11_code
def yX7_stamp : MethodName := ⟨RX7, "stamp", "(II)J"⟩
abbrev cX7_order : ByteArray := prog_1_method_12_code
def yX7_order : MethodName := ⟨RX7, "order", "(I)I"⟩
abbrev cX7_at : ByteArray := prog_1_method_13_code
def yX7_at : MethodName := ⟨RX7, "at", "(II)I"⟩
abbrev cX7_balance : ByteArray := prog_1_method_14_code
def yX7_balance : MethodName := ⟨RX7, "balance", "(II)I"⟩
abbrev cX7_count : ByteArray := prog_1_method_15_code
def yX7_count : MethodName := ⟨RX7, "count", "(I)I"⟩
abbrev cX7_startAnew : ByteArray := prog_1_method_16_code
def yX7_startAnew : MethodName := ⟨RX7, "startAnew", "(I)V"⟩
abbrev cX7_makeEvent : ByteArray := prog_1_method_17_code
def yX7_makeEvent : MethodName := ⟨RX7, "makeEvent", "(IIIJI)I"⟩
abbrev cX7_give : ByteArray := prog_1_method_18_code
def yX7_give : MethodName := ⟨RX7, "give", "(II)V"⟩
abbrev cX7_freshView : ByteArray := prog_1_method_19_code
def yX7_freshView : MethodName := ⟨RX7, "freshView", "(I)LHashgraphDesk$View;"⟩
abbrev cX7_isNode : ByteArray := prog_1_method_20_code
def yX7_isNode : MethodName := ⟨RX7, "isNode", "(I)Z"⟩
abbrev cX7_isEvent : ByteArray := prog_1_method_21_code
def yX7_isEvent : MethodName := ⟨RX7, "isEvent", "(I)Z"⟩
abbrev cX7_isHeld : ByteArray := prog_1_method_22_code
def yX7_isHeld : MethodName := ⟨RX7, "isHeld", "(II)Z"⟩
abbrev cX7_isMost : ByteArray := prog_1_method_23_code
def yX7_isMost : MethodName := ⟨RX7, "isMost", "(II)Z"⟩
def RX8 : String := "HashgraphDeskModel"
def TX8 : u_T := fun k => match k with
  | 0 => ("HashgraphDeskModel", "err", "I", false)
  | 1 => ("HashgraphDeskModel", "n", "I", false)
  | 2 => ("HashgraphDeskModel", "events", "I", false)
  | 3 => ("HashgraphDeskModel", "creator", "[I", true)
  | 4 => ("HashgraphDeskModel", "selfP", "[I", true)
  | 5 => ("HashgraphDeskModel", "otherP", "[I", true)
  | 6 => ("HashgraphDeskModel", "txN", "[I", true)
  | 7 => ("HashgraphDeskModel", "txTo", "[I", true)
  | 8 => ("HashgraphDeskModel", "txAmount", "[I", true)
  | 9 => ("HashgraphDeskModel", "round", "[I", true)
  | 10 => ("HashgraphDeskModel", "hashes", "[I", true)
  | 11 => ("HashgraphDeskModel", "latest", "[I", true)
  | 12 => ("HashgraphDeskModel", "waits", "[I", true)
  | 13 => ("HashgraphDeskModel", "waitTo", "[I", true)
  | 14 => ("HashgraphDeskModel", "waitAmount", "[I", true)
  | 15 => ("HashgraphDeskModel", "time", "[J", true)
  | 16 => ("HashgraphDeskModel", "above", "[Z", true)
  | 17 => ("HashgraphDeskModel", "held", "[Z", true)
  | 18 => ("HashgraphDeskModel", "forked", "[Z", true)
  | 19 => ("HashgraphDeskModel", "witness", "[Z", true)
  | 20 => ("HashgraphDeskModel", "strong", "[B", true)
  | 21 => ("HashgraphDeskModel", "votes", "[B", true)
  | 22 => ("HashgraphDeskModel", "foundFor", "I", false)
  | 23 => ("HashgraphDeskModel", "ordered", "I", false)
  | 24 => ("HashgraphDeskModel", "settled", "I", false)
  | 25 => ("HashgraphDeskModel", "state", "[I", true)
  | 26 => ("HashgraphDeskModel", "received", "[I", true)
  | 27 => ("HashgraphDeskModel", "place", "[I", true)
  | 28 => ("HashgraphDeskModel", "list", "[I", true)
  | 29 => ("HashgraphDeskModel", "balance", "[I", true)
  | 30 => ("HashgraphDeskModel", "white", "[I", true)
  | 31 => ("HashgraphDeskModel", "stamps", "[J", true)
  | 32 => ("HashgraphDeskModel", "some", "[J", true)
  | 33 => ("HashgraphDeskModel", "block", "[I", true)
  | 34 => ("HashgraphDeskModel", "w", "[I", true)
  | 35 => ("HashgraphDeskModel", "primes", "[I", true)
  | 36 => ("HashgraphDeskModel", "octets", "I", false)
  | 37 => ("HashgraphDeskModel", "h", "[I", true)
  | _ => ("HashgraphDeskModel", "first", "[I", true)
def tyX8 : Nat → FieldType := fun k => match k with
  | 0 => .int
  | 1 => .int
  | 2 => .int
  | 3 => .array .int
  | 4 => .array .int
  | 5 => .array .int
  | 6 => .array .int
  | 7 => .array .int
  | 8 => .array .int
  | 9 => .array .int
  | 10 => .array .int
  | 11 => .array .int
  | 12 => .array .int
  | 13 => .array .int
  | 14 => .array .int
  | 15 => .array .long
  | 16 => .array .boolean
  | 17 => .array .boolean
  | 18 => .array .boolean
  | 19 => .array .boolean
  | 20 => .array .byte
  | 21 => .array .byte
  | 22 => .int
  | 23 => .int
  | 24 => .int
  | 25 => .array .int
  | 26 => .array .int
  | 27 => .array .int
  | 28 => .array .int
  | 29 => .array .int
  | 30 => .array .int
  | 31 => .array .long
  | 32 => .array .long
  | 33 => .array .int
  | 34 => .array .int
  | 35 => .array .int
  | 36 => .int
  | 37 => .array .int
  | _ => .array .int
abbrev wsX80 : List Cond := u_ws RX8 TX8 39
theorem nmX8 : ∀ a, a < 39 → ∀ b, b < 39 → a ≠ b → (TX8 a).2.1 ≠ (TX8 b).2.1 := by decide +kernel
theorem tyX8_ok : ∀ k, k < 39 → parseFieldDescriptor (TX8 k).2.2.1 = some (tyX8 k) := by decide +kernel
abbrev cX8_init : ByteArray := prog_10_method_1_code
def yX8_init : MethodName := ⟨RX8, "<init>", "()V"⟩
abbrev cX8_thrown : ByteArray := prog_10_method_2_code
def yX8_thrown : MethodName := ⟨RX8, "thrown", "()I"⟩
abbrev cX8_in : ByteArray := prog_10_method_3_code
def yX8_in : MethodName := ⟨RX8, "in", "(III)Z"⟩
abbrev cX8_fails : ByteArray := prog_10_method_4_code
def yX8_fails : MethodName := ⟨RX8, "fails", "(ZI)Z"⟩
abbrev cX8_isNode : ByteArray := prog_10_method_5_code
def yX8_isNode : MethodName := ⟨RX8, "isNode", "(I)Z"⟩
abbrev cX8_isEvent : ByteArray := prog_10_method_6_code
def yX8_isEvent : MethodName := ⟨RX8, "isEvent", "(I)Z"⟩
abbrev cX8_begin : ByteArray := prog_10_method_7_code
def yX8_begin : MethodName := ⟨RX8, "begin", "(I)V"⟩
abbrev cX8_anew : ByteArray := prog_10_method_8_code
def yX8_anew : MethodName := ⟨RX8, "anew", "(I)V"⟩
abbrev cX8_make : ByteArray := prog_10_method_9_code
def yX8_make : MethodName := ⟨RX8, "make", "(IIIJ)I"⟩
abbrev cX8_isMost : ByteArray := prog_10_method_10_code
def yX8_isMost : MethodName := ⟨RX8, "isMost", "(I)Z"⟩
abbrev cX8_isSelf : ByteArray := prog_10_method_11_code
def yX8_isSelf : MethodName := ⟨RX8, "isSelf", "(II)Z"⟩
abbrev cX8_isFork : ByteArray := prog_10_method_12_code
def yX8_isFork : MethodName := ⟨RX8, "isFork", "(II)Z"⟩
abbrev cX8_isForked : ByteArray := prog_10_method_13_code
def yX8_isForked : MethodName := ⟨RX8, "isForked", "(II)Z"⟩
abbrev cX8_sees : ByteArray := prog_10_method_14_code
def yX8_sees : MethodName := ⟨RX8, "sees", "(II)Z"⟩
abbrev cX8_strongly : ByteArray := prog_10_method_15_code
def yX8_strongly : MethodName := ⟨RX8, "strongly", "(II)Z"⟩
abbrev cX8_voteOf : ByteArray := prog_10_method_16_code
def yX8_voteOf : MethodName := ⟨RX8, "voteOf", "(II)I"⟩
abbrev cX8_octet : ByteArray := prog_10_method_17_code
def yX8_octet : MethodName := ⟨RX8, "octet", "(I)V"⟩
abbrev cX8_four : ByteArray := prog_10_method_18_code
def yX8_four : MethodName := ⟨RX8, "four", "(I)V"⟩
abbrev cX8_hash : ByteArray := prog_10_method_19_code
def yX8_hash : MethodName := ⟨RX8, "hash", "(I)V"⟩
abbrev cX8_turn : ByteArray := prog_10_method_20_code
def yX8_turn : MethodName := ⟨RX8, "turn", "(II)I"⟩
abbrev cX8_compress : ByteArray := prog_10_method_21_code
def yX8_compress : MethodName := ⟨RX8, "compress", "(I)V"⟩
abbrev cX8_submit : ByteArray := prog_10_method_22_code
def yX8_submit : MethodName := ⟨RX8, "submit", "(III)I"⟩
abbrev cX8_sync : ByteArray := prog_10_method_23_code
def yX8_sync : MethodName := ⟨RX8, "sync", "(IIJ)I"⟩
abbrev cX8_holds : ByteArray := prog_10_method_24_code
def yX8_holds : MethodName := ⟨RX8, "holds", "(II)Z"⟩
abbrev cX8_inject : ByteArray := prog_10_method_25_code
def yX8_inject : MethodName := ⟨RX8, "inject", "(IIIIJ)I"⟩
abbrev cX8_event : ByteArray := prog_10_method_26_code
def yX8_event : MethodName := ⟨RX8, "event", "(II)I"⟩
abbrev cX8_hash_ : ByteArray := prog_10_method_27_code
def yX8_hash_ : MethodName := ⟨RX8, "hash", "(II)I"⟩
abbrev cX8_sees_ : ByteArray := prog_10_method_28_code
def yX8_sees_ : MethodName := ⟨RX8, "sees", "(IIZ)Z"⟩
abbrev cX8_vote : ByteArray := prog_10_method_29_code
def yX8_vote : MethodName := ⟨RX8, "vote", "(II)I"⟩
abbrev cX8_find : ByteArray := prog_10_method_30_code
def yX8_find : MethodName := ⟨RX8, "find", "(I)V"⟩
abbrev cX8_isUnique : ByteArray := prog_10_method_31_code
def yX8_isUnique : MethodName := ⟨RX8, "isUnique", "(II)Z"⟩
abbrev cX8_receive : ByteArray := prog_10_method_32_code
def yX8_receive : MethodName := ⟨RX8, "receive", "(II)V"⟩
abbrev cX8_comesBefore : ByteArray := prog_10_method_33_code
def yX8_comesBefore : MethodName := ⟨RX8, "comesBefore", "(II)Z"⟩
abbrev cX8_found : ByteArray := prog_10_method_34_code
def yX8_found : MethodName := ⟨RX8, "found", "(III)I"⟩
abbrev cX8_stamp : ByteArray := prog_10_method_35_code
def yX8_stamp : MethodName := ⟨RX8, "stamp", "(II)J"⟩
abbrev cX8_order : ByteArray := prog_10_method_36_code
def yX8_order : MethodName := ⟨RX8, "order", "(I)I"⟩
abbrev cX8_at : ByteArray := prog_10_method_37_code
def yX8_at : MethodName := ⟨RX8, "at", "(II)I"⟩
abbrev cX8_balance : ByteArray := prog_10_method_38_code
def yX8_balance : MethodName := ⟨RX8, "balance", "(II)I"⟩
abbrev cX8_count : ByteArray := prog_10_method_39_code
def yX8_count : MethodName := ⟨RX8, "count", "(I)I"⟩
def RJx145de : String := "java/io/Serializable"
def TJx145de : u_T := fun k => match k with
  | _ => ("", "", "", false)
def tyJx145de : Nat → FieldType := fun k => match k with
  | _ => .int
abbrev wsJx145de0 : List Cond := u_ws RJx145de TJx145de 0
theorem nmJx145de : ∀ a, a < 0 → ∀ b, b < 0 → a ≠ b → (TJx145de a).2.1 ≠ (TJx145de b).2.1 := by decide +kernel
theorem tyJx145de_ok : ∀ k, k < 0 → parseFieldDescriptor (TJx145de k).2.2.1 = some (tyJx145de k) := by decide +kernel
def RJ5 : String := "java/lang/AbstractStringBuilder"
def TJ5 : u_T := fun k => match k with
  | _ => ("", "", "", false)
def tyJ5 : Nat → FieldType := fun k => match k with
  | _ => .int
abbrev wsJ50 : List Cond := u_ws RJ5 TJ5 0
theorem nmJ5 : ∀ a, a < 0 → ∀ b, b < 0 → a ≠ b → (TJ5 a).2.1 ≠ (TJ5 b).2.1 := by decide +kernel
theorem tyJ5_ok : ∀ k, k < 0 → parseFieldDescriptor (TJ5 k).2.2.1 = some (tyJ5 k) := by decide +kernel
abbrev cJ5_init_d00df : ByteArray := prog_11_method_2_code
def yJ5_init_d00df : MethodName := ⟨RJ5, "<init>", "(I)V"⟩
abbrev cJ5_length_8abf5 : ByteArray := prog_11_method_6_code
def yJ5_length_8abf5 : MethodName := ⟨RJ5, "length", "()I"⟩
abbrev cJ5_ensureCapacityInternal_d00df : ByteArray := prog_11_method_9_code
def yJ5_ensureCapacityInternal_d00df : MethodName := ⟨RJ5, "ensureCapacityInternal", "(I)V"⟩
abbrev cJ5_newCapacity_0f7a4 : ByteArray := prog_11_method_10_code
def yJ5_newCapacity_0f7a4 : MethodName := ⟨RJ5, "newCapacity", "(I)I"⟩
abbrev cJ5_inflate_da8c8 : ByteArray := prog_11_method_11_code
def yJ5_inflate_da8c8 : MethodName := ⟨RJ5, "inflate", "()V"⟩
abbrev cJ5_append_cf1ce : ByteArray := prog_11_method_22_code
def yJ5_append_cf1ce : MethodName := ⟨RJ5, "append", "(Ljava/lang/String;)Ljava/lang/AbstractStringBuilder;"⟩
abbrev cJ5_appendNull_278bc : ByteArray := prog_11_method_26_code
def yJ5_appendNull_278bc : MethodName := ⟨RJ5, "appendNull", "()Ljava/lang/AbstractStringBuilder;"⟩
abbrev cJ5_append_c97b9 : ByteArray := prog_11_method_32_code
def yJ5_append_c97b9 : MethodName := ⟨RJ5, "append", "(I)Ljava/lang/AbstractStringBuilder;"⟩
abbrev cJ5_getValue_6d5f1 : ByteArray := prog_11_method_64_code
def yJ5_getValue_6d5f1 : MethodName := ⟨RJ5, "getValue", "()[B"⟩
abbrev cJ5_isLatin1_aae02 : ByteArray := prog_11_method_68_code
def yJ5_isLatin1_aae02 : MethodName := ⟨RJ5, "isLatin1", "()Z"⟩
abbrev cJ5_inflateIfNeededFor_a7421 : ByteArray := prog_11_method_71_code
def yJ5_inflateIfNeededFor_a7421 : MethodName := ⟨RJ5, "inflateIfNeededFor", "(Ljava/lang/String;)V"⟩
abbrev cJ5_putStringAt_47b60 : ByteArray := prog_11_method_73_code
def yJ5_putStringAt_47b60 : MethodName := ⟨RJ5, "putStringAt", "(ILjava/lang/String;)V"⟩
def RJx2cfe8 : String := "java/lang/Appendable"
def TJx2cfe8 : u_T := fun k => match k with
  | _ => ("", "", "", false)
def tyJx2cfe8 : Nat → FieldType := fun k => match k with
  | _ => .int
abbrev wsJx2cfe80 : List Cond := u_ws RJx2cfe8 TJx2cfe8 0
theorem nmJx2cfe8 : ∀ a, a < 0 → ∀ b, b < 0 → a ≠ b → (TJx2cfe8 a).2.1 ≠ (TJx2cfe8 b).2.1 := by decide +kernel
theorem tyJx2cfe8_ok : ∀ k, k < 0 → parseFieldDescriptor (TJx2cfe8 k).2.2.1 = some (tyJx2cfe8 k) := by decide +kernel
def RJx00060 : String := "java/lang/ArrayIndexOutOfBoundsException"
def TJx00060 : u_T := fun k => match k with
  | 0 => ("java/lang/Throwable", "cause", "Ljava/lang/Throwable;", false)
  | 1 => ("java/lang/Throwable", "stackTrace", "[Ljava/lang/StackTraceElement;", false)
  | 2 => ("java/lang/Throwable", "suppressedExceptions", "Ljava/util/List;", false)
  | 3 => ("java/lang/Throwable", "detailMessage", "Ljava/lang/String;", false)
  | 4 => ("java/lang/Throwable", "backtrace", "Ljava/lang/Object;", false)
  | _ => ("java/lang/Throwable", "depth", "I", false)
def tyJx00060 : Nat → FieldType := fun k => match k with
  | 0 => .object "java/lang/Throwable"
  | 1 => .array (.object "java/lang/StackTraceElement")
  | 2 => .object "java/util/List"
  | 3 => .object "java/lang/String"
  | 4 => .object "java/lang/Object"
  | _ => .int
abbrev wsJx000600 : List Cond := u_ws RJx00060 TJx00060 6
theorem nmJx00060 : ∀ a, a < 6 → ∀ b, b < 6 → a ≠ b → (TJx00060 a).2.1 ≠ (TJx00060 b).2.1 := by decide +kernel
theorem tyJx00060_ok : ∀ k, k < 6 → parseFieldDescriptor (TJx00060 k).2.2.1 = some (tyJx00060 k) := by decide +kernel
abbrev cJx00060_init_d00df : ByteArray := prog_12_method_3_code
def yJx00060_init_d00df : MethodName := ⟨RJx00060, "<init>", "(I)V"⟩
def RJx9f9b0 : String := "java/lang/CharSequence"
def TJx9f9b0 : u_T := fun k => match k with
  | _ => ("", "", "", false)
def tyJx9f9b0 : Nat → FieldType := fun k => match k with
  | _ => .int
abbrev wsJx9f9b00 : List Cond := u_ws RJx9f9b0 TJx9f9b0 0
theorem nmJx9f9b0 : ∀ a, a < 0 → ∀ b, b < 0 → a ≠ b → (TJx9f9b0 a).2.1 ≠ (TJx9f9b0 b).2.1 := by decide +kernel
theorem tyJx9f9b0_ok : ∀ k, k < 0 → parseFieldDescriptor (TJx9f9b0 k).2.2.1 = some (tyJx9f9b0 k) := by decide +kernel
def RJx8e188 : String := "java/lang/Cloneable"
def TJx8e188 : u_T := fun k => match k with
  | _ => ("", "", "", false)
def tyJx8e188 : Nat → FieldType := fun k => match k with
  | _ => .int
abbrev wsJx8e1880 : List Cond := u_ws RJx8e188 TJx8e188 0
theorem nmJx8e188 : ∀ a, a < 0 → ∀ b, b < 0 → a ≠ b → (TJx8e188 a).2.1 ≠ (TJx8e188 b).2.1 := by decide +kernel
theorem tyJx8e188_ok : ∀ k, k < 0 → parseFieldDescriptor (TJx8e188 k).2.2.1 = some (tyJx8e188 k) := by decide +kernel
def RJxb160c : String := "java/lang/Comparable"
def TJxb160c : u_T := fun k => match k with
  | _ => ("", "", "", false)
def tyJxb160c : Nat → FieldType := fun k => match k with
  | _ => .int
abbrev wsJxb160c0 : List Cond := u_ws RJxb160c TJxb160c 0
theorem nmJxb160c : ∀ a, a < 0 → ∀ b, b < 0 → a ≠ b → (TJxb160c a).2.1 ≠ (TJxb160c b).2.1 := by decide +kernel
theorem tyJxb160c_ok : ∀ k, k < 0 → parseFieldDescriptor (TJxb160c k).2.2.1 = some (tyJxb160c k) := by decide +kernel
def RJ6 : String := "java/lang/Integer"
def TJ6 : u_T := fun k => match k with
  | _ => ("", "", "", false)
def tyJ6 : Nat → FieldType := fun k => match k with
  | _ => .int
abbrev wsJ60 : List Cond := u_ws RJ6 TJ6 0
theorem nmJ6 : ∀ a, a < 0 → ∀ b, b < 0 → a ≠ b → (TJ6 a).2.1 ≠ (TJ6 b).2.1 := by decide +kernel
theorem tyJ6_ok : ∀ k, k < 0 → parseFieldDescriptor (TJ6 k).2.2.1 = some (tyJ6 k) := by decide +kernel
abbrev cJ6_getChars_ba4f3 : ByteArray := prog_18_method_12_code
def yJ6_getChars_ba4f3 : MethodName := ⟨RJ6, "getChars", "(II[B)I"⟩
abbrev cJ6_stringSize_0f7a4 : ByteArray := prog_18_method_13_code
def yJ6_stringSize_0f7a4 : MethodName := ⟨RJ6, "stringSize", "(I)I"⟩
abbrev cJ6_bitCount_0f7a4 : ByteArray := prog_18_method_49_code
def yJ6_bitCount_0f7a4 : MethodName := ⟨RJ6, "bitCount", "(I)I"⟩
def RJ13 : String := "java/lang/Long"
def TJ13 : u_T := fun k => match k with
  | _ => ("", "", "", false)
def tyJ13 : Nat → FieldType := fun k => match k with
  | _ => .int
abbrev wsJ130 : List Cond := u_ws RJ13 TJ13 0
theorem nmJ13 : ∀ a, a < 0 → ∀ b, b < 0 → a ≠ b → (TJ13 a).2.1 ≠ (TJ13 b).2.1 := by decide +kernel
theorem tyJ13_ok : ∀ k, k < 0 → parseFieldDescriptor (TJ13 k).2.2.1 = some (tyJ13 k) := by decide +kernel
abbrev cJ13_bitCount_95d88 : ByteArray := prog_19_method_50_code
def yJ13_bitCount_95d88 : MethodName := ⟨RJ13, "bitCount", "(J)I"⟩
def RJ9 : String := "java/lang/Math"
def TJ9 : u_T := fun k => match k with
  | _ => ("", "", "", false)
def tyJ9 : Nat → FieldType := fun k => match k with
  | _ => .int
abbrev wsJ90 : List Cond := u_ws RJ9 TJ9 0
theorem nmJ9 : ∀ a, a < 0 → ∀ b, b < 0 → a ≠ b → (TJ9 a).2.1 ≠ (TJ9 b).2.1 := by decide +kernel
theorem tyJ9_ok : ∀ k, k < 0 → parseFieldDescriptor (TJ9 k).2.2.1 = some (tyJ9 k) := by decide +kernel
abbrev cJ9_max_7cf53 : ByteArray := prog_20_method_65_code
def yJ9_max_7cf53 : MethodName := ⟨RJ9, "max", "(II)I"⟩
abbrev cJ9_min_7cf53 : ByteArray := prog_20_method_69_code
def yJ9_min_7cf53 : MethodName := ⟨RJ9, "min", "(II)I"⟩
def RJxd2413 : String := "java/lang/Number"
def TJxd2413 : u_T := fun k => match k with
  | _ => ("", "", "", false)
def tyJxd2413 : Nat → FieldType := fun k => match k with
  | _ => .int
abbrev wsJxd24130 : List Cond := u_ws RJxd2413 TJxd2413 0
theorem nmJxd2413 : ∀ a, a < 0 → ∀ b, b < 0 → a ≠ b → (TJxd2413 a).2.1 ≠ (TJxd2413 b).2.1 := by decide +kernel
theorem tyJxd2413_ok : ∀ k, k < 0 → parseFieldDescriptor (TJxd2413 k).2.2.1 = some (tyJxd2413 k) := by decide +kernel
def RJ0 : String := "java/lang/String"
def TJ0 : u_T := fun k => match k with
  | 0 => ("java/lang/String", "value", "[B", true)
  | 1 => ("java/lang/String", "coder", "B", true)
  | 2 => ("java/lang/String", "hash", "I", false)
  | _ => ("java/lang/String", "hashIsZero", "Z", false)
def tyJ0 : Nat → FieldType := fun k => match k with
  | 0 => .array .byte
  | 1 => .byte
  | 2 => .int
  | _ => .boolean
abbrev wsJ00 : List Cond := u_ws RJ0 TJ0 4
theorem nmJ0 : ∀ a, a < 4 → ∀ b, b < 4 → a ≠ b → (TJ0 a).2.1 ≠ (TJ0 b).2.1 := by decide +kernel
theorem tyJ0_ok : ∀ k, k < 4 → parseFieldDescriptor (TJ0 k).2.2.1 = some (tyJ0 k) := by decide +kernel
abbrev cJ0_init_81219 : ByteArray := prog_23_method_53_code
def yJ0_init_81219 : MethodName := ⟨RJ0, "<init>", "(Ljava/lang/StringBuilder;)V"⟩
abbrev cJ0_length_8abf5 : ByteArray := prog_23_method_54_code
def yJ0_length_8abf5 : MethodName := ⟨RJ0, "length", "()I"⟩
abbrev cJ0_getBytes_840e7 : ByteArray := prog_23_method_147_code
def yJ0_getBytes_840e7 : MethodName := ⟨RJ0, "getBytes", "([BIB)V"⟩
abbrev cJ0_init_db425 : ByteArray := prog_23_method_150_code
def yJ0_init_db425 : MethodName := ⟨RJ0, "<init>", "(Ljava/lang/AbstractStringBuilder;Ljava/lang/Void;)V"⟩
abbrev cJ0_coder_7d493 : ByteArray := prog_23_method_152_code
def yJ0_coder_7d493 : MethodName := ⟨RJ0, "coder", "()B"⟩
abbrev cJ0_checkBoundsOffCount_cabcc : ByteArray := prog_23_method_157_code
def yJ0_checkBoundsOffCount_cabcc : MethodName := ⟨RJ0, "checkBoundsOffCount", "(III)I"⟩
abbrev cJ0_checkBoundsBeginEnd_23922 : ByteArray := prog_23_method_158_code
def yJ0_checkBoundsBeginEnd_23922 : MethodName := ⟨RJ0, "checkBoundsBeginEnd", "(III)V"⟩
def RJ4 : String := "java/lang/StringBuilder"
def TJ4 : u_T := fun k => match k with
  | 0 => ("java/lang/AbstractStringBuilder", "value", "[B", false)
  | 1 => ("java/lang/AbstractStringBuilder", "coder", "B", false)
  | 2 => ("java/lang/AbstractStringBuilder", "maybeLatin1", "Z", false)
  | _ => ("java/lang/AbstractStringBuilder", "count", "I", false)
def tyJ4 : Nat → FieldType := fun k => match k with
  | 0 => .array .byte
  | 1 => .byte
  | 2 => .boolean
  | _ => .int
abbrev wsJ40 : List Cond := u_ws RJ4 TJ4 4
theorem nmJ4 : ∀ a, a < 4 → ∀ b, b < 4 → a ≠ b → (TJ4 a).2.1 ≠ (TJ4 b).2.1 := by decide +kernel
theorem tyJ4_ok : ∀ k, k < 4 → parseFieldDescriptor (TJ4 k).2.2.1 = some (tyJ4 k) := by decide +kernel
abbrev cJ4_init_da8c8 : ByteArray := prog_24_method_1_code
def yJ4_init_da8c8 : MethodName := ⟨RJ4, "<init>", "()V"⟩
abbrev cJ4_append_15ec4 : ByteArray := prog_24_method_7_code
def yJ4_append_15ec4 : MethodName := ⟨RJ4, "append", "(Ljava/lang/String;)Ljava/lang/StringBuilder;"⟩
abbrev cJ4_append_bf812 : ByteArray := prog_24_method_15_code
def yJ4_append_bf812 : MethodName := ⟨RJ4, "append", "(I)Ljava/lang/StringBuilder;"⟩
abbrev cJ4_toString_0e30d : ByteArray := prog_24_method_42_code
def yJ4_toString_0e30d : MethodName := ⟨RJ4, "toString", "()Ljava/lang/String;"⟩
abbrev cJ4_length_8abf5 : ByteArray := prog_24_method_93_code
def yJ4_length_8abf5 : MethodName := ⟨RJ4, "length", "()I"⟩
def RJ1 : String := "java/lang/StringLatin1"
def TJ1 : u_T := fun k => match k with
  | _ => ("", "", "", false)
def tyJ1 : Nat → FieldType := fun k => match k with
  | _ => .int
abbrev wsJ10 : List Cond := u_ws RJ1 TJ1 0
theorem nmJ1 : ∀ a, a < 0 → ∀ b, b < 0 → a ≠ b → (TJ1 a).2.1 ≠ (TJ1 b).2.1 := by decide +kernel
theorem tyJ1_ok : ∀ k, k < 0 → parseFieldDescriptor (TJ1 k).2.2.1 = some (tyJ1 k) := by decide +kernel
abbrev cJ1_inflate_0e8fd : ByteArray := prog_25_method_50_code
def yJ1_inflate_0e8fd : MethodName := ⟨RJ1, "inflate", "([BI[BII)V"⟩
def RJ2 : String := "java/lang/StringUTF16"
def TJ2 : u_T := fun k => match k with
  | _ => ("", "", "", false)
def tyJ2 : Nat → FieldType := fun k => match k with
  | _ => .int
abbrev wsJ20 : List Cond := u_ws RJ2 TJ2 0
theorem nmJ2 : ∀ a, a < 0 → ∀ b, b < 0 → a ≠ b → (TJ2 a).2.1 ≠ (TJ2 b).2.1 := by decide +kernel
theorem tyJ2_ok : ∀ k, k < 0 → parseFieldDescriptor (TJ2 k).2.2.1 = some (tyJ2 k) := by decide +kernel
abbrev cJ2_newBytesFor_77867 : ByteArray := prog_26_method_2_code
def yJ2_newBytesFor_77867 : MethodName := ⟨RJ2, "newBytesFor", "(I)[B"⟩
abbrev cJ2_newBytesLength_0f7a4 : ByteArray := prog_26_method_3_code
def yJ2_newBytesLength_0f7a4 : MethodName := ⟨RJ2, "newBytesLength", "(I)I"⟩
abbrev cJ2_putChar_b72d1 : ByteArray := prog_26_method_4_code
def yJ2_putChar_b72d1 : MethodName := ⟨RJ2, "putChar", "([BII)V"⟩
abbrev cJ2_getChar_3b067 : ByteArray := prog_26_method_5_code
def yJ2_getChar_3b067 : MethodName := ⟨RJ2, "getChar", "([BI)C"⟩
abbrev cJ2_length_9d52b : ByteArray := prog_26_method_6_code
def yJ2_length_9d52b : MethodName := ⟨RJ2, "length", "([B)I"⟩
abbrev cJ2_coderFromArrayLen_85cad : ByteArray := prog_26_method_15_code
def yJ2_coderFromArrayLen_85cad : MethodName := ⟨RJ2, "coderFromArrayLen", "([BI)B"⟩
abbrev cJ2_compress_39247 : ByteArray := prog_26_method_17_code
def yJ2_compress_39247 : MethodName := ⟨RJ2, "compress", "([BII)[B"⟩
abbrev cJ2_compress_5af95 : ByteArray := prog_26_method_22_code
def yJ2_compress_5af95 : MethodName := ⟨RJ2, "compress", "([BI[BII)I"⟩
abbrev cJ2_getChars_46870 : ByteArray := prog_26_method_77_code
def yJ2_getChars_46870 : MethodName := ⟨RJ2, "getChars", "(III[B)I"⟩
abbrev cJ2_putCharsAt_cd4e5 : ByteArray := prog_26_method_81_code
def yJ2_putCharsAt_cd4e5 : MethodName := ⟨RJ2, "putCharsAt", "([BICCCC)I"⟩
abbrev cJ2_inflate_0e8fd : ByteArray := prog_26_method_86_code
def yJ2_inflate_0e8fd : MethodName := ⟨RJ2, "inflate", "([BI[BII)V"⟩
abbrev cJ2_getChars_ba4f3 : ByteArray := prog_26_method_89_code
def yJ2_getChars_ba4f3 : MethodName := ⟨RJ2, "getChars", "(II[B)I"⟩
abbrev cJ2_checkBoundsBeginEnd_d044e : ByteArray := prog_26_method_93_code
def yJ2_checkBoundsBeginEnd_d044e : MethodName := ⟨RJ2, "checkBoundsBeginEnd", "(II[B)V"⟩
abbrev cJ2_checkBoundsOffCount_d044e : ByteArray := prog_26_method_94_code
def yJ2_checkBoundsOffCount_d044e : MethodName := ⟨RJ2, "checkBoundsOffCount", "(II[B)V"⟩
def RJ10 : String := "java/lang/System"
def TJ10 : u_T := fun k => match k with
  | _ => ("", "", "", false)
def tyJ10 : Nat → FieldType := fun k => match k with
  | _ => .int
abbrev wsJ100 : List Cond := u_ws RJ10 TJ10 0
theorem nmJ10 : ∀ a, a < 0 → ∀ b, b < 0 → a ≠ b → (TJ10 a).2.1 ≠ (TJ10 b).2.1 := by decide +kernel
theorem tyJ10_ok : ∀ k, k < 0 → parseFieldDescriptor (TJ10 k).2.2.1 = some (tyJ10 k) := by decide +kernel
def RJxfd54e : String := "java/lang/constant/Constable"
def TJxfd54e : u_T := fun k => match k with
  | _ => ("", "", "", false)
def tyJxfd54e : Nat → FieldType := fun k => match k with
  | _ => .int
abbrev wsJxfd54e0 : List Cond := u_ws RJxfd54e TJxfd54e 0
theorem nmJxfd54e : ∀ a, a < 0 → ∀ b, b < 0 → a ≠ b → (TJxfd54e a).2.1 ≠ (TJxfd54e b).2.1 := by decide +kernel
theorem tyJxfd54e_ok : ∀ k, k < 0 → parseFieldDescriptor (TJxfd54e k).2.2.1 = some (tyJxfd54e k) := by decide +kernel
def RJx3cf43 : String := "java/lang/constant/ConstantDesc"
def TJx3cf43 : u_T := fun k => match k with
  | _ => ("", "", "", false)
def tyJx3cf43 : Nat → FieldType := fun k => match k with
  | _ => .int
abbrev wsJx3cf430 : List Cond := u_ws RJx3cf43 TJx3cf43 0
theorem nmJx3cf43 : ∀ a, a < 0 → ∀ b, b < 0 → a ≠ b → (TJx3cf43 a).2.1 ≠ (TJx3cf43 b).2.1 := by decide +kernel
theorem tyJx3cf43_ok : ∀ k, k < 0 → parseFieldDescriptor (TJx3cf43 k).2.2.1 = some (tyJx3cf43 k) := by decide +kernel
def RJ7 : String := "java/util/Arrays"
def TJ7 : u_T := fun k => match k with
  | _ => ("", "", "", false)
def tyJ7 : Nat → FieldType := fun k => match k with
  | _ => .int
abbrev wsJ70 : List Cond := u_ws RJ7 TJ7 0
theorem nmJ7 : ∀ a, a < 0 → ∀ b, b < 0 → a ≠ b → (TJ7 a).2.1 ≠ (TJ7 b).2.1 := by decide +kernel
theorem tyJ7_ok : ∀ k, k < 0 → parseFieldDescriptor (TJ7 k).2.2.1 = some (tyJ7 k) := by decide +kernel
abbrev cJ7_rangeCheck_23922 : ByteArray := prog_30_method_30_code
def yJ7_rangeCheck_23922 : MethodName := ⟨RJ7, "rangeCheck", "(III)V"⟩
abbrev cJ7_fill_d0a16 : ByteArray := prog_30_method_101_code
def yJ7_fill_d0a16 : MethodName := ⟨RJ7, "fill", "([JJ)V"⟩
abbrev cJ7_fill_bad5a : ByteArray := prog_30_method_102_code
def yJ7_fill_bad5a : MethodName := ⟨RJ7, "fill", "([JIIJ)V"⟩
abbrev cJ7_fill_53178 : ByteArray := prog_30_method_103_code
def yJ7_fill_53178 : MethodName := ⟨RJ7, "fill", "([II)V"⟩
abbrev cJ7_fill_fda19 : ByteArray := prog_30_method_104_code
def yJ7_fill_fda19 : MethodName := ⟨RJ7, "fill", "([IIII)V"⟩
abbrev cJ7_copyOf_9075b : ByteArray := prog_30_method_121_code
def yJ7_copyOf_9075b : MethodName := ⟨RJ7, "copyOf", "([BI)[B"⟩
abbrev cJ7_checkLength_df160 : ByteArray := prog_30_method_131_code
def yJ7_checkLength_df160 : MethodName := ⟨RJ7, "checkLength", "(II)V"⟩
abbrev cJ7_copyOfRange_39247 : ByteArray := prog_30_method_132_code
def yJ7_copyOfRange_39247 : MethodName := ⟨RJ7, "copyOfRange", "([BII)[B"⟩
abbrev cJ7_copyOfRangeByte_39247 : ByteArray := prog_30_method_133_code
def yJ7_copyOfRangeByte_39247 : MethodName := ⟨RJ7, "copyOfRangeByte", "([BII)[B"⟩
def RJ8 : String := "jdk/internal/util/ArraysSupport"
def TJ8 : u_T := fun k => match k with
  | _ => ("", "", "", false)
def tyJ8 : Nat → FieldType := fun k => match k with
  | _ => .int
abbrev wsJ80 : List Cond := u_ws RJ8 TJ8 0
theorem nmJ8 : ∀ a, a < 0 → ∀ b, b < 0 → a ≠ b → (TJ8 a).2.1 ≠ (TJ8 b).2.1 := by decide +kernel
theorem tyJ8_ok : ∀ k, k < 0 → parseFieldDescriptor (TJ8 k).2.2.1 = some (tyJ8 k) := by decide +kernel
abbrev cJ8_newLength_cabcc : ByteArray := prog_31_method_27_code
def yJ8_newLength_cabcc : MethodName := ⟨RJ8, "newLength", "(III)I"⟩
abbrev cJ8_hugeLength_7cf53 : ByteArray := prog_31_method_28_code
def yJ8_hugeLength_7cf53 : MethodName := ⟨RJ8, "hugeLength", "(II)I"⟩
def RJ3 : String := "jdk/internal/util/Preconditions"
def TJ3 : u_T := fun k => match k with
  | _ => ("", "", "", false)
def tyJ3 : Nat → FieldType := fun k => match k with
  | _ => .int
abbrev wsJ30 : List Cond := u_ws RJ3 TJ3 0
theorem nmJ3 : ∀ a, a < 0 → ∀ b, b < 0 → a ≠ b → (TJ3 a).2.1 ≠ (TJ3 b).2.1 := by decide +kernel
theorem tyJ3_ok : ∀ k, k < 0 → parseFieldDescriptor (TJ3 k).2.2.1 = some (tyJ3 k) := by decide +kernel
abbrev cJ3_checkFromToIndex_8c36e : ByteArray := prog_32_method_12_code
def yJ3_checkFromToIndex_8c36e : MethodName := ⟨RJ3, "checkFromToIndex", "(IIILjava/util/function/BiFunction;)I"⟩
abbrev cJ3_checkFromIndexSize_8c36e : ByteArray := prog_32_method_13_code
def yJ3_checkFromIndexSize_8c36e : MethodName := ⟨RJ3, "checkFromIndexSize", "(IIILjava/util/function/BiFunction;)I"⟩
def RL : String := "HashgraphDeskLaw"
abbrev cL_begin : ByteArray := method_3_code
def yL_begin : MethodName := ⟨RL, "begin", "(LHashgraphDesk;I)I"⟩
abbrev cL_submit : ByteArray := method_4_code
def yL_submit : MethodName := ⟨RL, "submit", "(LHashgraphDesk;III[J)I"⟩
abbrev cL_sync : ByteArray := method_5_code
def yL_sync : MethodName := ⟨RL, "sync", "(LHashgraphDesk;IIJ[J)I"⟩
abbrev cL_inject : ByteArray := method_6_code
def yL_inject : MethodName := ⟨RL, "inject", "(LHashgraphDesk;IIIIJ[J)I"⟩
abbrev cL_event : ByteArray := method_7_code
def yL_event : MethodName := ⟨RL, "event", "(LHashgraphDesk;II[J)I"⟩
abbrev cL_hash : ByteArray := method_8_code
def yL_hash : MethodName := ⟨RL, "hash", "(LHashgraphDesk;II[J)I"⟩
abbrev cL_sees : ByteArray := method_9_code
def yL_sees : MethodName := ⟨RL, "sees", "(LHashgraphDesk;IIZ[J)I"⟩
abbrev cL_vote : ByteArray := method_10_code
def yL_vote : MethodName := ⟨RL, "vote", "(LHashgraphDesk;II[J)I"⟩
abbrev cL_found : ByteArray := method_11_code
def yL_found : MethodName := ⟨RL, "found", "(LHashgraphDesk;III[J)I"⟩
abbrev cL_stamp : ByteArray := method_12_code
def yL_stamp : MethodName := ⟨RL, "stamp", "(LHashgraphDesk;II[J)I"⟩
abbrev cL_order : ByteArray := method_13_code
def yL_order : MethodName := ⟨RL, "order", "(LHashgraphDesk;I[J)I"⟩
abbrev cL_at : ByteArray := method_14_code
def yL_at : MethodName := ⟨RL, "at", "(LHashgraphDesk;II[J)I"⟩
abbrev cL_balance : ByteArray := method_15_code
def yL_balance : MethodName := ⟨RL, "balance", "(LHashgraphDesk;II[J)I"⟩
abbrev cL_count : ByteArray := method_16_code
def yL_count : MethodName := ⟨RL, "count", "(LHashgraphDesk;I[J)I"⟩
abbrev cL_law : ByteArray := code
def yL_law : MethodName := ⟨RL, "law", "([I)Z"⟩
def wsJx00060_init_d00df_r1 : List Cond := [Cond.classLink RJx00060 10 RJ4, Cond.instantiable RJ4 4, Cond.initialized RJ4, Cond.methodLink RJx00060 12 yJ4_init_da8c8, Cond.instanceMethod yJ4_init_da8c8, Cond.code yJ4_init_da8c8 cJ4_init_da8c8 1 none, Cond.methodLink RJ4 1 yJ5_init_d00df, Cond.instanceMethod yJ5_init_d00df, Cond.initialized RJ5, Cond.code yJ5_init_d00df cJ5_init_d00df 2 none, Cond.methodLink RJ5 3 objectInit, Cond.instanceMethod objectInit, Cond.code objectInit ⟨#[0xb1]⟩ 1 none, Cond.fieldLink RJ5 18 "java/lang/String" "COMPACT_STRINGS" "Z", Cond.arrayClass .byte, Cond.fieldLink RJ5 15 "java/lang/AbstractStringBuilder" "value" "[B", Cond.fieldLink RJ5 22 "java/lang/AbstractStringBuilder" "coder" "B", Cond.methodLink RJ5 26 yJ2_newBytesFor_77867, Cond.static yJ2_newBytesFor_77867, Cond.initialized RJ2, Cond.code yJ2_newBytesFor_77867 cJ2_newBytesFor_77867 1 (some (.array .byte)), Cond.methodLink RJ2 11 yJ2_newBytesLength_0f7a4, Cond.static yJ2_newBytesLength_0f7a4, Cond.code yJ2_newBytesLength_0f7a4 cJ2_newBytesLength_0f7a4 1 (some .int)]
def wsJx00060_init_d00df_r2 : List Cond := [Cond.constant RJ2 20 (1073741823), Cond.methodLink RJx00060 15 yJ4_append_15ec4, Cond.instanceMethod yJ4_append_15ec4, Cond.selects RJ4 yJ4_append_15ec4 yJ4_append_15ec4, Cond.code yJ4_append_15ec4 cJ4_append_15ec4 2 (some (.object "java/lang/StringBuilder")), Cond.methodLink RJ4 29 yJ5_append_cf1ce, Cond.sameMethod "java/lang/AbstractStringBuilder" "java/lang/AbstractStringBuilder" "append" "(Ljava/lang/String;)Ljava/lang/AbstractStringBuilder;", Cond.superclass RJ4 RJ5, Cond.instanceMethod yJ5_append_cf1ce, Cond.code yJ5_append_cf1ce cJ5_append_cf1ce 3 (some (.object "java/lang/AbstractStringBuilder")), Cond.fieldLink RJ5 79 "java/lang/AbstractStringBuilder" "count" "I", Cond.methodLink RJ5 204 ⟨"java/lang/AbstractStringBuilder", "appendNull", "()Ljava/lang/AbstractStringBuilder;"⟩, Cond.sameMethod "java/lang/AbstractStringBuilder" "java/lang/AbstractStringBuilder" "appendNull" "()Ljava/lang/AbstractStringBuilder;", Cond.selects RJ4 ⟨"java/lang/AbstractStringBuilder", "appendNull", "()Ljava/lang/AbstractStringBuilder;"⟩ yJ5_appendNull_278bc, Cond.instanceMethod yJ5_appendNull_278bc, Cond.code yJ5_appendNull_278bc cJ5_appendNull_278bc 3 (some (.object "java/lang/AbstractStringBuilder")), Cond.methodLink RJ5 100 ⟨"java/lang/AbstractStringBuilder", "ensureCapacityInternal", "(I)V"⟩, Cond.sameMethod "java/lang/AbstractStringBuilder" "java/lang/AbstractStringBuilder" "ensureCapacityInternal" "(I)V", Cond.selects RJ4 ⟨"java/lang/AbstractStringBuilder", "ensureCapacityInternal", "(I)V"⟩ yJ5_ensureCapacityInternal_d00df, Cond.instanceMethod yJ5_ensureCapacityInternal_d00df, Cond.code yJ5_ensureCapacityInternal_d00df cJ5_ensureCapacityInternal_d00df 3 none, Cond.methodLink RJ5 104 ⟨"java/lang/AbstractStringBuilder", "newCapacity", "(I)I"⟩, Cond.sameMethod "java/lang/AbstractStringBuilder" "java/lang/AbstractStringBuilder" "newCapacity" "(I)I", Cond.selects RJ4 ⟨"java/lang/AbstractStringBuilder", "newCapacity", "(I)I"⟩ yJ5_newCapacity_0f7a4]
def wsJx00060_init_d00df_r3 : List Cond := [Cond.instanceMethod yJ5_newCapacity_0f7a4, Cond.code yJ5_newCapacity_0f7a4 cJ5_newCapacity_0f7a4 6 (some .int), Cond.constant RJ5 39 (2147483647), Cond.methodLink RJ5 114 yJ8_newLength_cabcc, Cond.static yJ8_newLength_cabcc, Cond.initialized RJ8, Cond.code yJ8_newLength_cabcc cJ8_newLength_cabcc 4 (some .int), Cond.methodLink RJ8 194 Lib.Math.max.name, Cond.static Lib.Math.max.name, Cond.initialized "java/lang/Math", Cond.code Lib.Math.max.name Lib.Math.max.code 2 (some .int), Cond.constant RJ8 200 (2147483639), Cond.methodLink RJ8 201 yJ8_hugeLength_7cf53, Cond.static yJ8_hugeLength_7cf53, Cond.code yJ8_hugeLength_7cf53 cJ8_hugeLength_7cf53 3 (some .int), Cond.methodLink RJ5 108 yJ7_copyOf_9075b, Cond.static yJ7_copyOf_9075b, Cond.initialized RJ7, Cond.code yJ7_copyOf_9075b cJ7_copyOf_9075b 3 (some (.array .byte)), Cond.methodLink RJ7 310 ⟨"[B", "clone", "()Ljava/lang/Object;"⟩, Cond.sameMethod "[B" "java/lang/Object" "clone" "()Ljava/lang/Object;", Cond.native ⟨"java/lang/Object", "clone", "()Ljava/lang/Object;"⟩, Cond.instanceMethod ⟨"java/lang/Object", "clone", "()Ljava/lang/Object;"⟩, Cond.selects "[B" ⟨"[B", "clone", "()Ljava/lang/Object;"⟩ ⟨"java/lang/Object", "clone", "()Ljava/lang/Object;"⟩]
def wsJx00060_init_d00df_r4 : List Cond := [Cond.classLink RJ7 311 "[B", Cond.methodLink RJ7 304 Lib.Math.min.name, Cond.static Lib.Math.min.name, Cond.code Lib.Math.min.name Lib.Math.min.code 2 (some .int), Cond.methodLink RJ7 150 arraycopyName, Cond.native arraycopyName, Cond.static arraycopyName, Cond.initialized "java/lang/System", Cond.methodLink RJ5 83 ⟨"java/lang/AbstractStringBuilder", "isLatin1", "()Z"⟩, Cond.sameMethod "java/lang/AbstractStringBuilder" "java/lang/AbstractStringBuilder" "isLatin1" "()Z", Cond.selects RJ4 ⟨"java/lang/AbstractStringBuilder", "isLatin1", "()Z"⟩ yJ5_isLatin1_aae02, Cond.instanceMethod yJ5_isLatin1_aae02, Cond.code yJ5_isLatin1_aae02 cJ5_isLatin1_aae02 1 (some .boolean), Cond.methodLink RJ5 226 yJ2_putCharsAt_cd4e5, Cond.static yJ2_putCharsAt_cd4e5, Cond.code yJ2_putCharsAt_cd4e5 cJ2_putCharsAt_cd4e5 7 (some .int), Cond.fieldLink RJ2 44 "java/lang/StringUTF16" "$assertionsDisabled" "Z", Cond.methodLink RJ2 96 yJ2_checkBoundsBeginEnd_d044e, Cond.static yJ2_checkBoundsBeginEnd_d044e, Cond.code yJ2_checkBoundsBeginEnd_d044e cJ2_checkBoundsBeginEnd_d044e 3 none, Cond.methodLink RJ2 48 yJ2_length_9d52b, Cond.static yJ2_length_9d52b, Cond.code yJ2_length_9d52b cJ2_length_9d52b 1 (some .int), Cond.methodLink RJ2 241 yJ0_checkBoundsBeginEnd_23922]
def wsJx00060_init_d00df_r5 : List Cond := [Cond.static yJ0_checkBoundsBeginEnd_23922, Cond.initialized RJ0, Cond.code yJ0_checkBoundsBeginEnd_23922 cJ0_checkBoundsBeginEnd_23922 3 none, Cond.fieldLink RJ0 1053 "jdk/internal/util/Preconditions" "SIOOBE_FORMATTER" "Ljava/util/function/BiFunction;", Cond.methodLink RJ0 1062 yJ3_checkFromToIndex_8c36e, Cond.static yJ3_checkFromToIndex_8c36e, Cond.initialized RJ3, Cond.code yJ3_checkFromToIndex_8c36e cJ3_checkFromToIndex_8c36e 4 (some .int), Cond.methodLink RJ2 111 yJ2_putChar_b72d1, Cond.static yJ2_putChar_b72d1, Cond.code yJ2_putChar_b72d1 cJ2_putChar_b72d1 3 none, Cond.fieldLink RJ2 59 "java/lang/StringUTF16" "HI_BYTE_SHIFT" "I", Cond.fieldLink RJ2 63 "java/lang/StringUTF16" "LO_BYTE_SHIFT" "I", Cond.methodLink RJ5 32 yJ0_length_8abf5, Cond.instanceMethod yJ0_length_8abf5, Cond.selects RJ0 yJ0_length_8abf5 yJ0_length_8abf5, Cond.code yJ0_length_8abf5 cJ0_length_8abf5 1 (some .int), Cond.fieldLink RJ0 9 "java/lang/String" "value" "[B", Cond.methodLink RJ0 335 yJ0_coder_7d493, Cond.instanceMethod yJ0_coder_7d493, Cond.selects RJ0 yJ0_coder_7d493 yJ0_coder_7d493, Cond.code yJ0_coder_7d493 cJ0_coder_7d493 1 (some .byte), Cond.fieldLink RJ0 38 "java/lang/String" "COMPACT_STRINGS" "Z", Cond.fieldLink RJ0 15 "java/lang/String" "coder" "B"]
def wsJx00060_init_d00df_r6 : List Cond := [Cond.methodLink RJ5 208 ⟨"java/lang/AbstractStringBuilder", "putStringAt", "(ILjava/lang/String;)V"⟩, Cond.sameMethod "java/lang/AbstractStringBuilder" "java/lang/AbstractStringBuilder" "putStringAt" "(ILjava/lang/String;)V", Cond.selects RJ4 ⟨"java/lang/AbstractStringBuilder", "putStringAt", "(ILjava/lang/String;)V"⟩ yJ5_putStringAt_47b60, Cond.instanceMethod yJ5_putStringAt_47b60, Cond.code yJ5_putStringAt_47b60 cJ5_putStringAt_47b60 3 none, Cond.methodLink RJ5 397 ⟨"java/lang/AbstractStringBuilder", "inflateIfNeededFor", "(Ljava/lang/String;)V"⟩, Cond.sameMethod "java/lang/AbstractStringBuilder" "java/lang/AbstractStringBuilder" "inflateIfNeededFor" "(Ljava/lang/String;)V", Cond.selects RJ4 ⟨"java/lang/AbstractStringBuilder", "inflateIfNeededFor", "(Ljava/lang/String;)V"⟩ yJ5_inflateIfNeededFor_a7421, Cond.instanceMethod yJ5_inflateIfNeededFor_a7421, Cond.code yJ5_inflateIfNeededFor_a7421 cJ5_inflateIfNeededFor_a7421 2 none, Cond.methodLink RJ5 40 yJ0_coder_7d493, Cond.methodLink RJ5 195 ⟨"java/lang/AbstractStringBuilder", "inflate", "()V"⟩, Cond.sameMethod "java/lang/AbstractStringBuilder" "java/lang/AbstractStringBuilder" "inflate" "()V", Cond.selects RJ4 ⟨"java/lang/AbstractStringBuilder", "inflate", "()V"⟩ yJ5_inflate_da8c8, Cond.instanceMethod yJ5_inflate_da8c8, Cond.code yJ5_inflate_da8c8 cJ5_inflate_da8c8 2 none, Cond.methodLink RJ5 125 yJ1_inflate_0e8fd, Cond.static yJ1_inflate_0e8fd, Cond.initialized RJ1, Cond.code yJ1_inflate_0e8fd cJ1_inflate_0e8fd 5 none, Cond.methodLink RJ1 240 yJ2_inflate_0e8fd, Cond.static yJ2_inflate_0e8fd, Cond.code yJ2_inflate_0e8fd cJ2_inflate_0e8fd 6 none, Cond.methodLink RJ2 173 yJ2_checkBoundsOffCount_d044e]
def wsJx00060_init_d00df_r7 : List Cond := [Cond.static yJ2_checkBoundsOffCount_d044e, Cond.code yJ2_checkBoundsOffCount_d044e cJ2_checkBoundsOffCount_d044e 3 none, Cond.methodLink RJ2 419 yJ0_checkBoundsOffCount_cabcc, Cond.static yJ0_checkBoundsOffCount_cabcc, Cond.code yJ0_checkBoundsOffCount_cabcc cJ0_checkBoundsOffCount_cabcc 3 (some .int), Cond.methodLink RJ0 1065 yJ3_checkFromIndexSize_8c36e, Cond.static yJ3_checkFromIndexSize_8c36e, Cond.code yJ3_checkFromIndexSize_8c36e cJ3_checkFromIndexSize_8c36e 4 (some .int), Cond.methodLink RJ5 399 yJ0_getBytes_840e7, Cond.instanceMethod yJ0_getBytes_840e7, Cond.selects RJ0 yJ0_getBytes_840e7 yJ0_getBytes_840e7, Cond.code yJ0_getBytes_840e7 cJ0_getBytes_840e7 4 none, Cond.methodLink RJ0 212 arraycopyName, Cond.methodLink RJ0 106 yJ1_inflate_0e8fd, Cond.methodLink RJx00060 19 yJ4_append_bf812, Cond.instanceMethod yJ4_append_bf812, Cond.selects RJ4 yJ4_append_bf812 yJ4_append_bf812, Cond.code yJ4_append_bf812 cJ4_append_bf812 2 (some (.object "java/lang/StringBuilder")), Cond.methodLink RJ4 53 yJ5_append_c97b9, Cond.sameMethod "java/lang/AbstractStringBuilder" "java/lang/AbstractStringBuilder" "append" "(I)Ljava/lang/AbstractStringBuilder;", Cond.instanceMethod yJ5_append_c97b9, Cond.code yJ5_append_c97b9 cJ5_append_c97b9 4 (some (.object "java/lang/AbstractStringBuilder")), Cond.methodLink RJ5 245 yJ6_stringSize_0f7a4, Cond.static yJ6_stringSize_0f7a4]
def wsJx00060_init_d00df_r8 : List Cond := [Cond.initialized RJ6, Cond.code yJ6_stringSize_0f7a4 cJ6_stringSize_0f7a4 4 (some .int), Cond.methodLink RJ5 248 yJ6_getChars_ba4f3, Cond.static yJ6_getChars_ba4f3, Cond.code yJ6_getChars_ba4f3 cJ6_getChars_ba4f3 7 (some .int), Cond.fieldLink RJ6 83 "java/lang/Integer" "DigitOnes" "[B", Cond.fieldLink RJ6 87 "java/lang/Integer" "DigitTens" "[B", Cond.methodLink RJ5 251 yJ2_getChars_46870, Cond.static yJ2_getChars_46870, Cond.code yJ2_getChars_46870 cJ2_getChars_46870 5 (some .int), Cond.methodLink RJ2 393 yJ2_getChars_ba4f3, Cond.static yJ2_getChars_ba4f3, Cond.code yJ2_getChars_ba4f3 cJ2_getChars_ba4f3 7 (some .int), Cond.fieldLink RJ2 403 "java/lang/Integer" "DigitOnes" "[B", Cond.fieldLink RJ2 407 "java/lang/Integer" "DigitTens" "[B", Cond.methodLink RJx00060 22 yJ4_toString_0e30d, Cond.instanceMethod yJ4_toString_0e30d, Cond.selects RJ4 yJ4_toString_0e30d yJ4_toString_0e30d, Cond.code yJ4_toString_0e30d cJ4_toString_0e30d 1 (some (.object "java/lang/String")), Cond.classLink RJ4 18 RJ0, Cond.instantiable RJ0 4, Cond.methodLink RJ4 137 yJ0_init_81219, Cond.instanceMethod yJ0_init_81219, Cond.code yJ0_init_81219 cJ0_init_81219 2 none]
def wsJx00060_init_d00df_r9 : List Cond := [Cond.methodLink RJ0 489 yJ0_init_db425, Cond.instanceMethod yJ0_init_db425, Cond.code yJ0_init_db425 cJ0_init_db425 5 none, Cond.methodLink RJ0 1 objectInit, Cond.fieldLink RJ0 1048 "java/lang/AbstractStringBuilder" "maybeLatin1" "Z", Cond.methodLink RJ0 552 ⟨"java/lang/AbstractStringBuilder", "getValue", "()[B"⟩, Cond.sameMethod "java/lang/AbstractStringBuilder" "java/lang/AbstractStringBuilder" "getValue" "()[B", Cond.selects RJ4 ⟨"java/lang/AbstractStringBuilder", "getValue", "()[B"⟩ yJ5_getValue_6d5f1, Cond.instanceMethod yJ5_getValue_6d5f1, Cond.code yJ5_getValue_6d5f1 cJ5_getValue_6d5f1 1 (some (.array .byte)), Cond.methodLink RJ0 549 ⟨"java/lang/AbstractStringBuilder", "length", "()I"⟩, Cond.sameMethod "java/lang/AbstractStringBuilder" "java/lang/AbstractStringBuilder" "length" "()I", Cond.instanceMethod ⟨"java/lang/AbstractStringBuilder", "length", "()I"⟩, Cond.selects RJ4 ⟨"java/lang/AbstractStringBuilder", "length", "()I"⟩ yJ4_length_8abf5, Cond.instanceMethod yJ4_length_8abf5, Cond.code yJ4_length_8abf5 cJ4_length_8abf5 1 (some .int), Cond.methodLink RJ4 343 yJ5_length_8abf5, Cond.instanceMethod yJ5_length_8abf5, Cond.code yJ5_length_8abf5 cJ5_length_8abf5 1 (some .int), Cond.methodLink RJ0 1047 ⟨"java/lang/AbstractStringBuilder", "isLatin1", "()Z"⟩, Cond.methodLink RJ0 54 yJ7_copyOfRange_39247, Cond.static yJ7_copyOfRange_39247, Cond.code yJ7_copyOfRange_39247 cJ7_copyOfRange_39247 3 (some (.array .byte)), Cond.methodLink RJ7 339 yJ7_copyOfRangeByte_39247]
def wsJx00060_init_d00df_r10 : List Cond := [Cond.static yJ7_copyOfRangeByte_39247, Cond.code yJ7_copyOfRangeByte_39247 cJ7_copyOfRangeByte_39247 5 (some (.array .byte)), Cond.methodLink RJ7 343 yJ7_checkLength_df160, Cond.static yJ7_checkLength_df160, Cond.code yJ7_checkLength_df160 cJ7_checkLength_df160 2 none, Cond.classLink RJ7 45 RJ4, Cond.methodLink RJ0 1051 yJ2_compress_39247, Cond.static yJ2_compress_39247, Cond.code yJ2_compress_39247 cJ2_compress_39247 6 (some (.array .byte)), Cond.methodLink RJ2 123 yJ2_compress_5af95, Cond.static yJ2_compress_5af95, Cond.code yJ2_compress_5af95 cJ2_compress_5af95 7 (some .int), Cond.methodLink RJ2 71 yJ2_getChar_3b067, Cond.static yJ2_getChar_3b067, Cond.code yJ2_getChar_3b067 cJ2_getChar_3b067 2 (some .char), Cond.methodLink RJ2 126 yJ7_copyOfRange_39247, Cond.methodLink RJ0 47 yJ2_coderFromArrayLen_85cad, Cond.static yJ2_coderFromArrayLen_85cad, Cond.code yJ2_coderFromArrayLen_85cad cJ2_coderFromArrayLen_85cad 2 (some .byte)]
def wsJx00060_init_d00df : List Cond := .code yJx00060_init_d00df cJx00060_init_d00df 2 none :: ((wsJx00060_init_d00df_r1 ++ (wsJx00060_init_d00df_r2 ++ (wsJx00060_init_d00df_r3 ++ (wsJx00060_init_d00df_r4 ++ (wsJx00060_init_d00df_r5 ++ (wsJx00060_init_d00df_r6 ++ (wsJx00060_init_d00df_r7 ++ (wsJx00060_init_d00df_r8 ++ (wsJx00060_init_d00df_r9 ++ wsJx00060_init_d00df_r10))))))))) ++ wsJ40 ++ wsJ00)
end
section
theorem dX0_init_0 : decode cX0_init 0 = .ok (.aload_n 0, 1) := by decide +kernel
theorem dX0_init_1 : decode cX0_init 1 = .ok (.invokespecial 3, 3) := by decide +kernel
theorem dX0_init_4 : decode cX0_init 4 = .ok (.aload_n 0, 1) := by decide +kernel
theorem dX0_init_5 : decode cX0_init 5 = .ok (.iload_n 1, 1) := by decide +kernel
theorem dX0_init_6 : decode cX0_init 6 = .ok (.putfield 9, 3) := by decide +kernel
theorem dX0_init_9 : decode cX0_init 9 = .ok (.aload_n 0, 1) := by decide +kernel
theorem dX0_init_10 : decode cX0_init 10 = .ok (.iload_n 1, 1) := by decide +kernel
theorem dX0_init_11 : decode cX0_init 11 = .ok (.iconst 4, 1) := by decide +kernel
theorem dX0_init_12 : decode cX0_init 12 = .ok (.imul, 1) := by decide +kernel
theorem dX0_init_13 : decode cX0_init 13 = .ok (.newarray .long, 2) := by decide +kernel
theorem dX0_init_15 : decode cX0_init 15 = .ok (.putfield 15, 3) := by decide +kernel
theorem dX0_init_18 : decode cX0_init 18 = .ok (.return_, 1) := by decide +kernel
theorem dX0_clear_0 : decode cX0_clear 0 = .ok (.aload_n 0, 1) := by decide +kernel
theorem dX0_clear_1 : decode cX0_clear 1 = .ok (.getfield 15, 3) := by decide +kernel
theorem dX0_clear_4 : decode cX0_clear 4 = .ok (.lconst 0, 1) := by decide +kernel
theorem dX0_clear_5 : decode cX0_clear 5 = .ok (.invokestatic 19, 3) := by decide +kernel
theorem dX0_clear_8 : decode cX0_clear 8 = .ok (.return_, 1) := by decide +kernel
theorem dX0_clearRow_0 : decode cX0_clearRow 0 = .ok (.aload_n 0, 1) := by decide +kernel
theorem dX0_clearRow_1 : decode cX0_clearRow 1 = .ok (.getfield 15, 3) := by decide +kernel
theorem dX0_clearRow_4 : decode cX0_clearRow 4 = .ok (.iload_n 1, 1) := by decide +kernel
theorem dX0_clearRow_5 : decode cX0_clearRow 5 = .ok (.iconst 4, 1) := by decide +kernel
theorem dX0_clearRow_6 : decode cX0_clearRow 6 = .ok (.imul, 1) := by decide +kernel
theorem dX0_clearRow_7 : decode cX0_clearRow 7 = .ok (.iload_n 1, 1) := by decide +kernel
theorem dX0_clearRow_8 : decode cX0_clearRow 8 = .ok (.iconst 1, 1) := by decide +kernel
theorem dX0_clearRow_9 : decode cX0_clearRow 9 = .ok (.iadd, 1) := by decide +kernel
theorem dX0_clearRow_10 : decode cX0_clearRow 10 = .ok (.iconst 4, 1) := by decide +kernel
theorem dX0_clearRow_11 : decode cX0_clearRow 11 = .ok (.imul, 1) := by decide +kernel
theorem dX0_clearRow_12 : decode cX0_clearRow 12 = .ok (.lconst 0, 1) := by decide +kernel
theorem dX0_clearRow_13 : decode cX0_clearRow 13 = .ok (.invokestatic 25, 3) := by decide +kernel
theorem dX0_clearRow_16 : decode cX0_clearRow 16 = .ok (.return_, 1) := by decide +kernel
theorem dX0_has_0 : decode cX0_has 0 = .ok (.aload_n 0, 1) := by decide +kernel
theorem dX0_has_1 : decode cX0_has 1 = .ok (.getfield 15, 3) := by decide +kernel
theorem dX0_has_4 : decode cX0_has 4 = .ok (.iload_n 1, 1) := by decide +kernel
theorem dX0_has_5 : decode cX0_has 5 = .ok (.iconst 4, 1) := by decide +kernel
theorem dX0_has_6 : decode cX0_has 6 = .ok (.imul, 1) := by decide +kernel
theorem dX0_has_7 : decode cX0_has 7 = .ok (.iload_n 2, 1) := by decide +kernel
theorem dX0_has_8 : decode cX0_has 8 = .ok (.bipush 6, 2) := by decide +kernel
theorem dX0_has_10 : decode cX0_has 10 = .ok (.ishr, 1) := by decide +kernel
theorem dX0_has_11 : decode cX0_has 11 = .ok (.iadd, 1) := by decide +kernel
theorem dX0_has_12 : decode cX0_has 12 = .ok (.laload, 1) := by decide +kernel
theorem dX0_has_13 : decode cX0_has 13 = .ok (.iload_n 2, 1) := by decide +kernel
theorem dX0_has_14 : decode cX0_has 14 = .ok (.bipush 63, 2) := by decide +kernel
theorem dX0_has_16 : decode cX0_has 16 = .ok (.iand, 1) := by decide +kernel
theorem dX0_has_17 : decode cX0_has 17 = .ok (.lushr, 1) := by decide +kernel
theorem dX0_has_18 : decode cX0_has 18 = .ok (.lconst 1, 1) := by decide +kernel
theorem dX0_has_19 : decode cX0_has 19 = .ok (.land, 1) := by decide +kernel
theorem dX0_has_20 : decode cX0_has 20 = .ok (.lconst 0, 1) := by decide +kernel
theorem dX0_has_21 : decode cX0_has 21 = .ok (.lcmp, 1) := by decide +kernel
theorem dX0_has_22 : decode cX0_has 22 = .ok (.ifCond .eq 7, 3) := by decide +kernel
theorem dX0_has_25 : decode cX0_has 25 = .ok (.iconst 1, 1) := by decide +kernel
theorem dX0_has_26 : decode cX0_has 26 = .ok (.goto 4, 3) := by decide +kernel
theorem dX0_has_29 : decode cX0_has 29 = .ok (.iconst 0, 1) := by decide +kernel
theorem dX0_has_30 : decode cX0_has 30 = .ok (.ireturn, 1) := by decide +kernel
theorem dX0_put_0 : decode cX0_put 0 = .ok (.aload_n 0, 1) := by decide +kernel
theorem dX0_put_1 : decode cX0_put 1 = .ok (.getfield 15, 3) := by decide +kernel
theorem dX0_put_4 : decode cX0_put 4 = .ok (.iload_n 1, 1) := by decide +kernel
theorem dX0_put_5 : decode cX0_put 5 = .ok (.iconst 4, 1) := by decide +kernel
theorem dX0_put_6 : decode cX0_put 6 = .ok (.imul, 1) := by decide +kernel
theorem dX0_put_7 : decode cX0_put 7 = .ok (.iload_n 2, 1) := by decide +kernel
theorem dX0_put_8 : decode cX0_put 8 = .ok (.bipush 6, 2) := by decide +kernel
theorem dX0_put_10 : decode cX0_put 10 = .ok (.ishr, 1) := by decide +kernel
theorem dX0_put_11 : decode cX0_put 11 = .ok (.iadd, 1) := by decide +kernel
theorem dX0_put_12 : decode cX0_put 12 = .ok (.dup2, 1) := by decide +kernel
theorem dX0_put_13 : decode cX0_put 13 = .ok (.laload, 1) := by decide +kernel
theorem dX0_put_14 : decode cX0_put 14 = .ok (.lconst 1, 1) := by decide +kernel
theorem dX0_put_15 : decode cX0_put 15 = .ok (.iload_n 2, 1) := by decide +kernel
theorem dX0_put_16 : decode cX0_put 16 = .ok (.bipush 63, 2) := by decide +kernel
theorem dX0_put_18 : decode cX0_put 18 = .ok (.iand, 1) := by decide +kernel
theorem dX0_put_19 : decode cX0_put 19 = .ok (.lshl, 1) := by decide +kernel
theorem dX0_put_20 : decode cX0_put 20 = .ok (.lor, 1) := by decide +kernel
theorem dX0_put_21 : decode cX0_put 21 = .ok (.lastore, 1) := by decide +kernel
theorem dX0_put_22 : decode cX0_put 22 = .ok (.return_, 1) := by decide +kernel
theorem dX0_join_0 : decode cX0_join 0 = .ok (.iconst 0, 1) := by decide +kernel
theorem dX0_join_1 : decode cX0_join 1 = .ok (.istore 4, 2) := by decide +kernel
theorem dX0_join_3 : decode cX0_join 3 = .ok (.iload 4, 2) := by decide +kernel
theorem dX0_join_5 : decode cX0_join 5 = .ok (.iconst 4, 1) := by decide +kernel
theorem dX0_join_6 : decode cX0_join 6 = .ok (.if_icmp .ge 34, 3) := by decide +kernel
theorem dX0_join_9 : decode cX0_join 9 = .ok (.aload_n 0, 1) := by decide +kernel
theorem dX0_join_10 : decode cX0_join 10 = .ok (.getfield 15, 3) := by decide +kernel
theorem dX0_join_13 : decode cX0_join 13 = .ok (.iload_n 1, 1) := by decide +kernel
theorem dX0_join_14 : decode cX0_join 14 = .ok (.iconst 4, 1) := by decide +kernel
theorem dX0_join_15 : decode cX0_join 15 = .ok (.imul, 1) := by decide +kernel
theorem dX0_join_16 : decode cX0_join 16 = .ok (.iload 4, 2) := by decide +kernel
theorem dX0_join_18 : decode cX0_join 18 = .ok (.iadd, 1) := by decide +kernel
theorem dX0_join_19 : decode cX0_join 19 = .ok (.dup2, 1) := by decide +kernel
theorem dX0_join_20 : decode cX0_join 20 = .ok (.laload, 1) := by decide +kernel
theorem dX0_join_21 : decode cX0_join 21 = .ok (.aload_n 2, 1) := by decide +kernel
theorem dX0_join_22 : decode cX0_join 22 = .ok (.getfield 15, 3) := by decide +kernel
theorem dX0_join_25 : decode cX0_join 25 = .ok (.iload_n 3, 1) := by decide +kernel
theorem dX0_join_26 : decode cX0_join 26 = .ok (.iconst 4, 1) := by decide +kernel
theorem dX0_join_27 : decode cX0_join 27 = .ok (.imul, 1) := by decide +kernel
theorem dX0_join_28 : decode cX0_join 28 = .ok (.iload 4, 2) := by decide +kernel
theorem dX0_join_30 : decode cX0_join 30 = .ok (.iadd, 1) := by decide +kernel
theorem dX0_join_31 : decode cX0_join 31 = .ok (.laload, 1) := by decide +kernel
theorem dX0_join_32 : decode cX0_join 32 = .ok (.lor, 1) := by decide +kernel
theorem dX0_join_33 : decode cX0_join 33 = .ok (.lastore, 1) := by decide +kernel
theorem dX0_join_34 : decode cX0_join 34 = .ok (.iinc 4 1, 3) := by decide +kernel
theorem dX0_join_37 : decode cX0_join 37 = .ok (.goto (-34), 3) := by decide +kernel
theorem dX0_join_40 : decode cX0_join 40 = .ok (.return_, 1) := by decide +kernel
theorem dX0_size_0 : decode cX0_size 0 = .ok (.aload_n 0, 1) := by decide +kernel
theorem dX0_size_1 : decode cX0_size 1 = .ok (.iload_n 1, 1) := by decide +kernel
theorem dX0_size_2 : decode cX0_size 2 = .ok (.aload_n 0, 1) := by decide +kernel
theorem dX0_size_3 : decode cX0_size 3 = .ok (.iload_n 1, 1) := by decide +kernel
theorem dX0_size_4 : decode cX0_size 4 = .ok (.invokevirtual 28, 3) := by decide +kernel
theorem dX0_size_7 : decode cX0_size 7 = .ok (.ireturn, 1) := by decide +kernel
theorem dX0_sizeInCommon_0 : decode cX0_sizeInCommon 0 = .ok (.iconst 0, 1) := by decide +kernel
theorem dX0_sizeInCommon_1 : decode cX0_sizeInCommon 1 = .ok (.istore 4, 2) := by decide +kernel
theorem dX0_sizeInCommon_3 : decode cX0_sizeInCommon 3 = .ok (.iconst 0, 1) := by decide +kernel
theorem dX0_sizeInCommon_4 : decode cX0_sizeInCommon 4 = .ok (.istore 5, 2) := by decide +kernel
theorem dX0_sizeInCommon_6 : decode cX0_sizeInCommon 6 = .ok (.iload 5, 2) := by decide +kernel
theorem dX0_sizeInCommon_8 : decode cX0_sizeInCommon 8 = .ok (.iconst 4, 1) := by decide +kernel
theorem dX0_sizeInCommon_9 : decode cX0_sizeInCommon 9 = .ok (.if_icmp .ge 40, 3) := by decide +kernel
theorem dX0_sizeInCommon_12 : decode cX0_sizeInCommon 12 = .ok (.iload 4, 2) := by decide +kernel
theorem dX0_sizeInCommon_14 : decode cX0_sizeInCommon 14 = .ok (.aload_n 0, 1) := by decide +kernel
theorem dX0_sizeInCommon_15 : decode cX0_sizeInCommon 15 = .ok (.getfield 15, 3) := by decide +kernel
theorem dX0_sizeInCommon_18 : decode cX0_sizeInCommon 18 = .ok (.iload_n 1, 1) := by decide +kernel
theorem dX0_sizeInCommon_19 : decode cX0_sizeInCommon 19 = .ok (.iconst 4, 1) := by decide +kernel
theorem dX0_sizeInCommon_20 : decode cX0_sizeInCommon 20 = .ok (.imul, 1) := by decide +kernel
theorem dX0_sizeInCommon_21 : decode cX0_sizeInCommon 21 = .ok (.iload 5, 2) := by decide +kernel
theorem dX0_sizeInCommon_23 : decode cX0_sizeInCommon 23 = .ok (.iadd, 1) := by decide +kernel
theorem dX0_sizeInCommon_24 : decode cX0_sizeInCommon 24 = .ok (.laload, 1) := by decide +kernel
theorem dX0_sizeInCommon_25 : decode cX0_sizeInCommon 25 = .ok (.aload_n 2, 1) := by decide +kernel
theorem dX0_sizeInCommon_26 : decode cX0_sizeInCommon 26 = .ok (.getfield 15, 3) := by decide +kernel
theorem dX0_sizeInCommon_29 : decode cX0_sizeInCommon 29 = .ok (.iload_n 3, 1) := by decide +kernel
theorem dX0_sizeInCommon_30 : decode cX0_sizeInCommon 30 = .ok (.iconst 4, 1) := by decide +kernel
theorem dX0_sizeInCommon_31 : decode cX0_sizeInCommon 31 = .ok (.imul, 1) := by decide +kernel
theorem dX0_sizeInCommon_32 : decode cX0_sizeInCommon 32 = .ok (.iload 5, 2) := by decide +kernel
theorem dX0_sizeInCommon_34 : decode cX0_sizeInCommon 34 = .ok (.iadd, 1) := by decide +kernel
theorem dX0_sizeInCommon_35 : decode cX0_sizeInCommon 35 = .ok (.laload, 1) := by decide +kernel
theorem dX0_sizeInCommon_36 : decode cX0_sizeInCommon 36 = .ok (.land, 1) := by decide +kernel
theorem dX0_sizeInCommon_37 : decode cX0_sizeInCommon 37 = .ok (.invokestatic 32, 3) := by decide +kernel
theorem dX0_sizeInCommon_40 : decode cX0_sizeInCommon 40 = .ok (.iadd, 1) := by decide +kernel
theorem dX0_sizeInCommon_41 : decode cX0_sizeInCommon 41 = .ok (.istore 4, 2) := by decide +kernel
theorem dX0_sizeInCommon_43 : decode cX0_sizeInCommon 43 = .ok (.iinc 5 1, 3) := by decide +kernel
theorem dX0_sizeInCommon_46 : decode cX0_sizeInCommon 46 = .ok (.goto (-40), 3) := by decide +kernel
theorem dX0_sizeInCommon_49 : decode cX0_sizeInCommon 49 = .ok (.iload 4, 2) := by decide +kernel
theorem dX0_sizeInCommon_51 : decode cX0_sizeInCommon 51 = .ok (.ireturn, 1) := by decide +kernel
theorem dX0_rowsWith_0 : decode cX0_rowsWith 0 = .ok (.iconst 0, 1) := by decide +kernel
theorem dX0_rowsWith_1 : decode cX0_rowsWith 1 = .ok (.istore_n 2, 1) := by decide +kernel
theorem dX0_rowsWith_2 : decode cX0_rowsWith 2 = .ok (.iconst 0, 1) := by decide +kernel
theorem dX0_rowsWith_3 : decode cX0_rowsWith 3 = .ok (.istore_n 3, 1) := by decide +kernel
theorem dX0_rowsWith_4 : decode cX0_rowsWith 4 = .ok (.iload_n 3, 1) := by decide +kernel
theorem dX0_rowsWith_5 : decode cX0_rowsWith 5 = .ok (.aload_n 0, 1) := by decide +kernel
theorem dX0_rowsWith_6 : decode cX0_rowsWith 6 = .ok (.getfield 9, 3) := by decide +kernel
theorem dX0_rowsWith_9 : decode cX0_rowsWith 9 = .ok (.if_icmp .ge 26, 3) := by decide +kernel
theorem dX0_rowsWith_12 : decode cX0_rowsWith 12 = .ok (.iload_n 2, 1) := by decide +kernel
theorem dX0_rowsWith_13 : decode cX0_rowsWith 13 = .ok (.aload_n 0, 1) := by decide +kernel
theorem dX0_rowsWith_14 : decode cX0_rowsWith 14 = .ok (.iload_n 3, 1) := by decide +kernel
theorem dX0_rowsWith_15 : decode cX0_rowsWith 15 = .ok (.iload_n 1, 1) := by decide +kernel
theorem dX0_rowsWith_16 : decode cX0_rowsWith 16 = .ok (.invokevirtual 38, 3) := by decide +kernel
theorem dX0_rowsWith_19 : decode cX0_rowsWith 19 = .ok (.ifCond .eq 7, 3) := by decide +kernel
theorem dX0_rowsWith_22 : decode cX0_rowsWith 22 = .ok (.iconst 1, 1) := by decide +kernel
theorem dX0_rowsWith_23 : decode cX0_rowsWith 23 = .ok (.goto 4, 3) := by decide +kernel
theorem dX0_rowsWith_26 : decode cX0_rowsWith 26 = .ok (.iconst 0, 1) := by decide +kernel
theorem dX0_rowsWith_27 : decode cX0_rowsWith 27 = .ok (.iadd, 1) := by decide +kernel
theorem dX0_rowsWith_28 : decode cX0_rowsWith 28 = .ok (.istore_n 2, 1) := by decide +kernel
theorem dX0_rowsWith_29 : decode cX0_rowsWith 29 = .ok (.iinc 3 1, 3) := by decide +kernel
theorem dX0_rowsWith_32 : decode cX0_rowsWith 32 = .ok (.goto (-28), 3) := by decide +kernel
theorem dX0_rowsWith_35 : decode cX0_rowsWith 35 = .ok (.iload_n 2, 1) := by decide +kernel
theorem dX0_rowsWith_36 : decode cX0_rowsWith 36 = .ok (.ireturn, 1) := by decide +kernel
theorem dX1_init_0 : decode cX1_init 0 = .ok (.aload_n 0, 1) := by decide +kernel
theorem dX1_init_1 : decode cX1_init 1 = .ok (.invokespecial 3, 3) := by decide +kernel
theorem dX1_init_4 : decode cX1_init 4 = .ok (.aload_n 0, 1) := by decide +kernel
theorem dX1_init_5 : decode cX1_init 5 = .ok (.sipush 240, 3) := by decide +kernel
theorem dX1_init_8 : decode cX1_init 8 = .ok (.newarray .int, 2) := by decide +kernel
theorem dX1_init_10 : decode cX1_init 10 = .ok (.putfield 9, 3) := by decide +kernel
theorem dX1_init_13 : decode cX1_init 13 = .ok (.aload_n 0, 1) := by decide +kernel
theorem dX1_init_14 : decode cX1_init 14 = .ok (.new 15, 3) := by decide +kernel
theorem dX1_init_17 : decode cX1_init 17 = .ok (.dup, 1) := by decide +kernel
theorem dX1_init_18 : decode cX1_init 18 = .ok (.sipush 240, 3) := by decide +kernel
theorem dX1_init_21 : decode cX1_init 21 = .ok (.invokespecial 17, 3) := by decide +kernel
theorem dX1_init_24 : decode cX1_init 24 = .ok (.putfield 20, 3) := by decide +kernel
theorem dX1_init_27 : decode cX1_init 27 = .ok (.aload_n 0, 1) := by decide +kernel
theorem dX1_init_28 : decode cX1_init 28 = .ok (.new 15, 3) := by decide +kernel
theorem dX1_init_31 : decode cX1_init 31 = .ok (.dup, 1) := by decide +kernel
theorem dX1_init_32 : decode cX1_init 32 = .ok (.sipush 240, 3) := by decide +kernel
theorem dX1_init_35 : decode cX1_init 35 = .ok (.invokespecial 17, 3) := by decide +kernel
theorem dX1_init_38 : decode cX1_init 38 = .ok (.putfield 24, 3) := by decide +kernel
theorem dX1_init_41 : decode cX1_init 41 = .ok (.aload_n 0, 1) := by decide +kernel
theorem dX1_init_42 : decode cX1_init 42 = .ok (.new 15, 3) := by decide +kernel
theorem dX1_init_45 : decode cX1_init 45 = .ok (.dup, 1) := by decide +kernel
theorem dX1_init_46 : decode cX1_init 46 = .ok (.sipush 240, 3) := by decide +kernel
theorem dX1_init_49 : decode cX1_init 49 = .ok (.invokespecial 17, 3) := by decide +kernel
theorem dX1_init_52 : decode cX1_init 52 = .ok (.putfield 27, 3) := by decide +kernel
theorem dX1_init_55 : decode cX1_init 55 = .ok (.aload_n 0, 1) := by decide +kernel
theorem dX1_init_56 : decode cX1_init 56 = .ok (.aload_n 1, 1) := by decide +kernel
theorem dX1_init_57 : decode cX1_init 57 = .ok (.putfield 30, 3) := by decide +kernel
theorem dX1_init_60 : decode cX1_init 60 = .ok (.aload_n 0, 1) := by decide +kernel
theorem dX1_init_61 : decode cX1_init 61 = .ok (.aload_n 2, 1) := by decide +kernel
theorem dX1_init_62 : decode cX1_init 62 = .ok (.putfield 34, 3) := by decide +kernel
theorem dX1_init_65 : decode cX1_init 65 = .ok (.return_, 1) := by decide +kernel
theorem dX1_clear_0 : decode cX1_clear 0 = .ok (.aload_n 0, 1) := by decide +kernel
theorem dX1_clear_1 : decode cX1_clear 1 = .ok (.iload_n 1, 1) := by decide +kernel
theorem dX1_clear_2 : decode cX1_clear 2 = .ok (.putfield 38, 3) := by decide +kernel
theorem dX1_clear_5 : decode cX1_clear 5 = .ok (.aload_n 0, 1) := by decide +kernel
theorem dX1_clear_6 : decode cX1_clear 6 = .ok (.iconst 0, 1) := by decide +kernel
theorem dX1_clear_7 : decode cX1_clear 7 = .ok (.putfield 42, 3) := by decide +kernel
theorem dX1_clear_10 : decode cX1_clear 10 = .ok (.return_, 1) := by decide +kernel
theorem dX1_isYes_0 : decode cX1_isYes 0 = .ok (.aload_n 0, 1) := by decide +kernel
theorem dX1_isYes_1 : decode cX1_isYes 1 = .ok (.getfield 24, 3) := by decide +kernel
theorem dX1_isYes_4 : decode cX1_isYes 4 = .ok (.iload_n 2, 1) := by decide +kernel
theorem dX1_isYes_5 : decode cX1_isYes 5 = .ok (.iload_n 1, 1) := by decide +kernel
theorem dX1_isYes_6 : decode cX1_isYes 6 = .ok (.invokevirtual 45, 3) := by decide +kernel
theorem dX1_isYes_9 : decode cX1_isYes 9 = .ok (.ireturn, 1) := by decide +kernel
theorem dX1_decides_0 : decode cX1_decides 0 = .ok (.aload_n 0, 1) := by decide +kernel
theorem dX1_decides_1 : decode cX1_decides 1 = .ok (.getfield 27, 3) := by decide +kernel
theorem dX1_decides_4 : decode cX1_decides 4 = .ok (.iload_n 2, 1) := by decide +kernel
theorem dX1_decides_5 : decode cX1_decides 5 = .ok (.iload_n 1, 1) := by decide +kernel
theorem dX1_decides_6 : decode cX1_decides 6 = .ok (.invokevirtual 45, 3) := by decide +kernel
theorem dX1_decides_9 : decode cX1_decides 9 = .ok (.ireturn, 1) := by decide +kernel
theorem dX1_take_0 : decode cX1_take 0 = .ok (.aload_n 0, 1) := by decide +kernel
theorem dX1_take_1 : decode cX1_take 1 = .ok (.getfield 34, 3) := by decide +kernel
theorem dX1_take_4 : decode cX1_take 4 = .ok (.getfield 49, 3) := by decide +kernel
theorem dX1_take_7 : decode cX1_take 7 = .ok (.iload_n 1, 1) := by decide +kernel
theorem dX1_take_8 : decode cX1_take 8 = .ok (.baload, 1) := by decide +kernel
theorem dX1_take_9 : decode cX1_take 9 = .ok (.ifCond .ne 4, 3) := by decide +kernel
theorem dX1_take_12 : decode cX1_take 12 = .ok (.return_, 1) := by decide +kernel
theorem dX1_take_13 : decode cX1_take 13 = .ok (.aload_n 0, 1) := by decide +kernel
theorem dX1_take_14 : decode cX1_take 14 = .ok (.iload_n 1, 1) := by decide +kernel
theorem dX1_take_15 : decode cX1_take 15 = .ok (.invokevirtual 55, 3) := by decide +kernel
theorem dX1_take_18 : decode cX1_take 18 = .ok (.aload_n 0, 1) := by decide +kernel
theorem dX1_take_19 : decode cX1_take 19 = .ok (.getfield 24, 3) := by decide +kernel
theorem dX1_take_22 : decode cX1_take 22 = .ok (.iload_n 1, 1) := by decide +kernel
theorem dX1_take_23 : decode cX1_take 23 = .ok (.invokevirtual 58, 3) := by decide +kernel
theorem dX1_take_26 : decode cX1_take 26 = .ok (.aload_n 0, 1) := by decide +kernel
theorem dX1_take_27 : decode cX1_take 27 = .ok (.getfield 27, 3) := by decide +kernel
theorem dX1_take_30 : decode cX1_take 30 = .ok (.iload_n 1, 1) := by decide +kernel
theorem dX1_take_31 : decode cX1_take 31 = .ok (.invokevirtual 58, 3) := by decide +kernel
theorem dX1_take_34 : decode cX1_take 34 = .ok (.iconst 0, 1) := by decide +kernel
theorem dX1_take_35 : decode cX1_take 35 = .ok (.istore_n 2, 1) := by decide +kernel
theorem dX1_take_36 : decode cX1_take 36 = .ok (.iload_n 2, 1) := by decide +kernel
theorem dX1_take_37 : decode cX1_take 37 = .ok (.aload_n 0, 1) := by decide +kernel
theorem dX1_take_38 : decode cX1_take 38 = .ok (.getfield 42, 3) := by decide +kernel
theorem dX1_take_41 : decode cX1_take 41 = .ok (.if_icmp .ge 46, 3) := by decide +kernel
theorem dX1_take_44 : decode cX1_take 44 = .ok (.aload_n 0, 1) := by decide +kernel
theorem dX1_take_45 : decode cX1_take 45 = .ok (.getfield 34, 3) := by decide +kernel
theorem dX1_take_48 : decode cX1_take 48 = .ok (.getfield 61, 3) := by decide +kernel
theorem dX1_take_51 : decode cX1_take 51 = .ok (.aload_n 0, 1) := by decide +kernel
theorem dX1_take_52 : decode cX1_take 52 = .ok (.getfield 9, 3) := by decide +kernel
theorem dX1_take_55 : decode cX1_take 55 = .ok (.iload_n 2, 1) := by decide +kernel
theorem dX1_take_56 : decode cX1_take 56 = .ok (.iaload, 1) := by decide +kernel
theorem dX1_take_57 : decode cX1_take 57 = .ok (.iaload, 1) := by decide +kernel
theorem dX1_take_58 : decode cX1_take 58 = .ok (.aload_n 0, 1) := by decide +kernel
theorem dX1_take_59 : decode cX1_take 59 = .ok (.getfield 34, 3) := by decide +kernel
theorem dX1_take_62 : decode cX1_take 62 = .ok (.getfield 61, 3) := by decide +kernel
theorem dX1_take_65 : decode cX1_take 65 = .ok (.iload_n 1, 1) := by decide +kernel
theorem dX1_take_66 : decode cX1_take 66 = .ok (.iaload, 1) := by decide +kernel
theorem dX1_take_67 : decode cX1_take 67 = .ok (.if_icmp .ge 14, 3) := by decide +kernel
theorem dX1_take_70 : decode cX1_take 70 = .ok (.aload_n 0, 1) := by decide +kernel
theorem dX1_take_71 : decode cX1_take 71 = .ok (.iload_n 1, 1) := by decide +kernel
theorem dX1_take_72 : decode cX1_take 72 = .ok (.aload_n 0, 1) := by decide +kernel
theorem dX1_take_73 : decode cX1_take 73 = .ok (.getfield 9, 3) := by decide +kernel
theorem dX1_take_76 : decode cX1_take 76 = .ok (.iload_n 2, 1) := by decide +kernel
theorem dX1_take_77 : decode cX1_take 77 = .ok (.iaload, 1) := by decide +kernel
theorem dX1_take_78 : decode cX1_take 78 = .ok (.invokevirtual 64, 3) := by decide +kernel
theorem dX1_take_81 : decode cX1_take 81 = .ok (.iinc 2 1, 3) := by decide +kernel
theorem dX1_take_84 : decode cX1_take 84 = .ok (.goto (-48), 3) := by decide +kernel
theorem dX1_take_87 : decode cX1_take 87 = .ok (.iconst 0, 1) := by decide +kernel
theorem dX1_take_88 : decode cX1_take 88 = .ok (.istore_n 2, 1) := by decide +kernel
theorem dX1_take_89 : decode cX1_take 89 = .ok (.iload_n 2, 1) := by decide +kernel
theorem dX1_take_90 : decode cX1_take 90 = .ok (.aload_n 0, 1) := by decide +kernel
theorem dX1_take_91 : decode cX1_take 91 = .ok (.getfield 42, 3) := by decide +kernel
theorem dX1_take_94 : decode cX1_take 94 = .ok (.if_icmp .ge 46, 3) := by decide +kernel
theorem dX1_take_97 : decode cX1_take 97 = .ok (.aload_n 0, 1) := by decide +kernel
theorem dX1_take_98 : decode cX1_take 98 = .ok (.getfield 34, 3) := by decide +kernel
theorem dX1_take_101 : decode cX1_take 101 = .ok (.getfield 61, 3) := by decide +kernel
theorem dX1_take_104 : decode cX1_take 104 = .ok (.aload_n 0, 1) := by decide +kernel
theorem dX1_take_105 : decode cX1_take 105 = .ok (.getfield 9, 3) := by decide +kernel
theorem dX1_take_108 : decode cX1_take 108 = .ok (.iload_n 2, 1) := by decide +kernel
theorem dX1_take_109 : decode cX1_take 109 = .ok (.iaload, 1) := by decide +kernel
theorem dX1_take_110 : decode cX1_take 110 = .ok (.iaload, 1) := by decide +kernel
theorem dX1_take_111 : decode cX1_take 111 = .ok (.aload_n 0, 1) := by decide +kernel
theorem dX1_take_112 : decode cX1_take 112 = .ok (.getfield 34, 3) := by decide +kernel
theorem dX1_take_115 : decode cX1_take 115 = .ok (.getfield 61, 3) := by decide +kernel
theorem dX1_take_118 : decode cX1_take 118 = .ok (.iload_n 1, 1) := by decide +kernel
theorem dX1_take_119 : decode cX1_take 119 = .ok (.iaload, 1) := by decide +kernel
theorem dX1_take_120 : decode cX1_take 120 = .ok (.if_icmp .le 14, 3) := by decide +kernel
theorem dX1_take_123 : decode cX1_take 123 = .ok (.aload_n 0, 1) := by decide +kernel
theorem dX1_take_124 : decode cX1_take 124 = .ok (.aload_n 0, 1) := by decide +kernel
theorem dX1_take_125 : decode cX1_take 125 = .ok (.getfield 9, 3) := by decide +kernel
theorem dX1_take_128 : decode cX1_take 128 = .ok (.iload_n 2, 1) := by decide +kernel
theorem dX1_take_129 : decode cX1_take 129 = .ok (.iaload, 1) := by decide +kernel
theorem dX1_take_130 : decode cX1_take 130 = .ok (.iload_n 1, 1) := by decide +kernel
theorem dX1_take_131 : decode cX1_take 131 = .ok (.invokevirtual 64, 3) := by decide +kernel
theorem dX1_take_134 : decode cX1_take 134 = .ok (.iinc 2 1, 3) := by decide +kernel
theorem dX1_take_137 : decode cX1_take 137 = .ok (.goto (-48), 3) := by decide +kernel
theorem dX1_take_140 : decode cX1_take 140 = .ok (.aload_n 0, 1) := by decide +kernel
theorem dX1_take_141 : decode cX1_take 141 = .ok (.getfield 9, 3) := by decide +kernel
theorem dX1_take_144 : decode cX1_take 144 = .ok (.aload_n 0, 1) := by decide +kernel
theorem dX1_take_145 : decode cX1_take 145 = .ok (.getfield 42, 3) := by decide +kernel
theorem dX1_take_148 : decode cX1_take 148 = .ok (.iload_n 1, 1) := by decide +kernel
theorem dX1_take_149 : decode cX1_take 149 = .ok (.iastore, 1) := by decide +kernel
theorem dX1_take_150 : decode cX1_take 150 = .ok (.aload_n 0, 1) := by decide +kernel
theorem dX1_take_151 : decode cX1_take 151 = .ok (.dup, 1) := by decide +kernel
theorem dX1_take_152 : decode cX1_take 152 = .ok (.getfield 42, 3) := by decide +kernel
theorem dX1_take_155 : decode cX1_take 155 = .ok (.iconst 1, 1) := by decide +kernel
theorem dX1_take_156 : decode cX1_take 156 = .ok (.iadd, 1) := by decide +kernel
theorem dX1_take_157 : decode cX1_take 157 = .ok (.putfield 42, 3) := by decide +kernel
theorem dX1_take_160 : decode cX1_take 160 = .ok (.return_, 1) := by decide +kernel
theorem dX1_findElectors_0 : decode cX1_findElectors 0 = .ok (.aload_n 0, 1) := by decide +kernel
theorem dX1_findElectors_1 : decode cX1_findElectors 1 = .ok (.getfield 20, 3) := by decide +kernel
theorem dX1_findElectors_4 : decode cX1_findElectors 4 = .ok (.iload_n 1, 1) := by decide +kernel
theorem dX1_findElectors_5 : decode cX1_findElectors 5 = .ok (.invokevirtual 58, 3) := by decide +kernel
theorem dX1_findElectors_8 : decode cX1_findElectors 8 = .ok (.iconst 0, 1) := by decide +kernel
theorem dX1_findElectors_9 : decode cX1_findElectors 9 = .ok (.istore_n 2, 1) := by decide +kernel
theorem dX1_findElectors_10 : decode cX1_findElectors 10 = .ok (.iload_n 2, 1) := by decide +kernel
theorem dX1_findElectors_11 : decode cX1_findElectors 11 = .ok (.aload_n 0, 1) := by decide +kernel
theorem dX1_findElectors_12 : decode cX1_findElectors 12 = .ok (.getfield 42, 3) := by decide +kernel
theorem dX1_findElectors_15 : decode cX1_findElectors 15 = .ok (.if_icmp .ge 63, 3) := by decide +kernel
theorem dX1_findElectors_18 : decode cX1_findElectors 18 = .ok (.aload_n 0, 1) := by decide +kernel
theorem dX1_findElectors_19 : decode cX1_findElectors 19 = .ok (.getfield 9, 3) := by decide +kernel
theorem dX1_findElectors_22 : decode cX1_findElectors 22 = .ok (.iload_n 2, 1) := by decide +kernel
theorem dX1_findElectors_23 : decode cX1_findElectors 23 = .ok (.iaload, 1) := by decide +kernel
theorem dX1_findElectors_24 : decode cX1_findElectors 24 = .ok (.istore_n 3, 1) := by decide +kernel
theorem dX1_findElectors_25 : decode cX1_findElectors 25 = .ok (.aload_n 0, 1) := by decide +kernel
theorem dX1_findElectors_26 : decode cX1_findElectors 26 = .ok (.getfield 34, 3) := by decide +kernel
theorem dX1_findElectors_29 : decode cX1_findElectors 29 = .ok (.getfield 61, 3) := by decide +kernel
theorem dX1_findElectors_32 : decode cX1_findElectors 32 = .ok (.iload_n 3, 1) := by decide +kernel
theorem dX1_findElectors_33 : decode cX1_findElectors 33 = .ok (.iaload, 1) := by decide +kernel
theorem dX1_findElectors_34 : decode cX1_findElectors 34 = .ok (.aload_n 0, 1) := by decide +kernel
theorem dX1_findElectors_35 : decode cX1_findElectors 35 = .ok (.getfield 34, 3) := by decide +kernel
theorem dX1_findElectors_38 : decode cX1_findElectors 38 = .ok (.getfield 61, 3) := by decide +kernel
theorem dX1_findElectors_41 : decode cX1_findElectors 41 = .ok (.iload_n 1, 1) := by decide +kernel
theorem dX1_findElectors_42 : decode cX1_findElectors 42 = .ok (.iaload, 1) := by decide +kernel
theorem dX1_findElectors_43 : decode cX1_findElectors 43 = .ok (.iconst 1, 1) := by decide +kernel
theorem dX1_findElectors_44 : decode cX1_findElectors 44 = .ok (.isub, 1) := by decide +kernel
theorem dX1_findElectors_45 : decode cX1_findElectors 45 = .ok (.if_icmp .ne 27, 3) := by decide +kernel
theorem dX1_findElectors_48 : decode cX1_findElectors 48 = .ok (.aload_n 0, 1) := by decide +kernel
theorem dX1_findElectors_49 : decode cX1_findElectors 49 = .ok (.getfield 34, 3) := by decide +kernel
theorem dX1_findElectors_52 : decode cX1_findElectors 52 = .ok (.getfield 68, 3) := by decide +kernel
theorem dX1_findElectors_55 : decode cX1_findElectors 55 = .ok (.iload_n 1, 1) := by decide +kernel
theorem dX1_findElectors_56 : decode cX1_findElectors 56 = .ok (.iload_n 3, 1) := by decide +kernel
theorem dX1_findElectors_57 : decode cX1_findElectors 57 = .ok (.invokevirtual 45, 3) := by decide +kernel
theorem dX1_findElectors_60 : decode cX1_findElectors 60 = .ok (.ifCond .eq 12, 3) := by decide +kernel
theorem dX1_findElectors_63 : decode cX1_findElectors 63 = .ok (.aload_n 0, 1) := by decide +kernel
theorem dX1_findElectors_64 : decode cX1_findElectors 64 = .ok (.getfield 20, 3) := by decide +kernel
theorem dX1_findElectors_67 : decode cX1_findElectors 67 = .ok (.iload_n 1, 1) := by decide +kernel
theorem dX1_findElectors_68 : decode cX1_findElectors 68 = .ok (.iload_n 3, 1) := by decide +kernel
theorem dX1_findElectors_69 : decode cX1_findElectors 69 = .ok (.invokevirtual 71, 3) := by decide +kernel
theorem dX1_findElectors_72 : decode cX1_findElectors 72 = .ok (.iinc 2 1, 3) := by decide +kernel
theorem dX1_findElectors_75 : decode cX1_findElectors 75 = .ok (.goto (-65), 3) := by decide +kernel
theorem dX1_findElectors_78 : decode cX1_findElectors 78 = .ok (.return_, 1) := by decide +kernel
theorem dX1_castVote_0 : decode cX1_castVote 0 = .ok (.aload_n 0, 1) := by decide +kernel
theorem dX1_castVote_1 : decode cX1_castVote 1 = .ok (.getfield 34, 3) := by decide +kernel
theorem dX1_castVote_4 : decode cX1_castVote 4 = .ok (.getfield 61, 3) := by decide +kernel
theorem dX1_castVote_7 : decode cX1_castVote 7 = .ok (.iload_n 1, 1) := by decide +kernel
theorem dX1_castVote_8 : decode cX1_castVote 8 = .ok (.iaload, 1) := by decide +kernel
theorem dX1_castVote_9 : decode cX1_castVote 9 = .ok (.aload_n 0, 1) := by decide +kernel
theorem dX1_castVote_10 : decode cX1_castVote 10 = .ok (.getfield 34, 3) := by decide +kernel
theorem dX1_castVote_13 : decode cX1_castVote 13 = .ok (.getfield 61, 3) := by decide +kernel
theorem dX1_castVote_16 : decode cX1_castVote 16 = .ok (.iload_n 2, 1) := by decide +kernel
theorem dX1_castVote_17 : decode cX1_castVote 17 = .ok (.iaload, 1) := by decide +kernel
theorem dX1_castVote_18 : decode cX1_castVote 18 = .ok (.isub, 1) := by decide +kernel
theorem dX1_castVote_19 : decode cX1_castVote 19 = .ok (.istore_n 3, 1) := by decide +kernel
theorem dX1_castVote_20 : decode cX1_castVote 20 = .ok (.iload_n 3, 1) := by decide +kernel
theorem dX1_castVote_21 : decode cX1_castVote 21 = .ok (.iconst 1, 1) := by decide +kernel
theorem dX1_castVote_22 : decode cX1_castVote 22 = .ok (.if_icmp .ne 23, 3) := by decide +kernel
theorem dX1_castVote_25 : decode cX1_castVote 25 = .ok (.aload_n 0, 1) := by decide +kernel
theorem dX1_castVote_26 : decode cX1_castVote 26 = .ok (.iload_n 1, 1) := by decide +kernel
theorem dX1_castVote_27 : decode cX1_castVote 27 = .ok (.iload_n 2, 1) := by decide +kernel
theorem dX1_castVote_28 : decode cX1_castVote 28 = .ok (.aload_n 0, 1) := by decide +kernel
theorem dX1_castVote_29 : decode cX1_castVote 29 = .ok (.getfield 34, 3) := by decide +kernel
theorem dX1_castVote_32 : decode cX1_castVote 32 = .ok (.getfield 74, 3) := by decide +kernel
theorem dX1_castVote_35 : decode cX1_castVote 35 = .ok (.iload_n 1, 1) := by decide +kernel
theorem dX1_castVote_36 : decode cX1_castVote 36 = .ok (.iload_n 2, 1) := by decide +kernel
theorem dX1_castVote_37 : decode cX1_castVote 37 = .ok (.invokevirtual 45, 3) := by decide +kernel
theorem dX1_castVote_40 : decode cX1_castVote 40 = .ok (.iconst 0, 1) := by decide +kernel
theorem dX1_castVote_41 : decode cX1_castVote 41 = .ok (.invokevirtual 77, 3) := by decide +kernel
theorem dX1_castVote_44 : decode cX1_castVote 44 = .ok (.return_, 1) := by decide +kernel
theorem dX1_castVote_45 : decode cX1_castVote 45 = .ok (.aload_n 0, 1) := by decide +kernel
theorem dX1_castVote_46 : decode cX1_castVote 46 = .ok (.getfield 20, 3) := by decide +kernel
theorem dX1_castVote_49 : decode cX1_castVote 49 = .ok (.iload_n 1, 1) := by decide +kernel
theorem dX1_castVote_50 : decode cX1_castVote 50 = .ok (.aload_n 0, 1) := by decide +kernel
theorem dX1_castVote_51 : decode cX1_castVote 51 = .ok (.getfield 24, 3) := by decide +kernel
theorem dX1_castVote_54 : decode cX1_castVote 54 = .ok (.iload_n 2, 1) := by decide +kernel
theorem dX1_castVote_55 : decode cX1_castVote 55 = .ok (.invokevirtual 81, 3) := by decide +kernel
theorem dX1_castVote_58 : decode cX1_castVote 58 = .ok (.istore 4, 2) := by decide +kernel
theorem dX1_castVote_60 : decode cX1_castVote 60 = .ok (.aload_n 0, 1) := by decide +kernel
theorem dX1_castVote_61 : decode cX1_castVote 61 = .ok (.getfield 20, 3) := by decide +kernel
theorem dX1_castVote_64 : decode cX1_castVote 64 = .ok (.iload_n 1, 1) := by decide +kernel
theorem dX1_castVote_65 : decode cX1_castVote 65 = .ok (.invokevirtual 85, 3) := by decide +kernel
theorem dX1_castVote_68 : decode cX1_castVote 68 = .ok (.iload 4, 2) := by decide +kernel
theorem dX1_castVote_70 : decode cX1_castVote 70 = .ok (.isub, 1) := by decide +kernel
theorem dX1_castVote_71 : decode cX1_castVote 71 = .ok (.istore 5, 2) := by decide +kernel
theorem dX1_castVote_73 : decode cX1_castVote 73 = .ok (.iload 4, 2) := by decide +kernel
theorem dX1_castVote_75 : decode cX1_castVote 75 = .ok (.iload 5, 2) := by decide +kernel
theorem dX1_castVote_77 : decode cX1_castVote 77 = .ok (.if_icmp .lt 7, 3) := by decide +kernel
theorem dX1_castVote_80 : decode cX1_castVote 80 = .ok (.iconst 1, 1) := by decide +kernel
theorem dX1_castVote_81 : decode cX1_castVote 81 = .ok (.goto 4, 3) := by decide +kernel
theorem dX1_castVote_84 : decode cX1_castVote 84 = .ok (.iconst 0, 1) := by decide +kernel
theorem dX1_castVote_85 : decode cX1_castVote 85 = .ok (.istore 6, 2) := by decide +kernel
theorem dX1_castVote_87 : decode cX1_castVote 87 = .ok (.iload 4, 2) := by decide +kernel
theorem dX1_castVote_89 : decode cX1_castVote 89 = .ok (.iload 5, 2) := by decide +kernel
theorem dX1_castVote_91 : decode cX1_castVote 91 = .ok (.invokestatic 88, 3) := by decide +kernel
theorem dX1_castVote_94 : decode cX1_castVote 94 = .ok (.aload_n 0, 1) := by decide +kernel
theorem dX1_castVote_95 : decode cX1_castVote 95 = .ok (.getfield 38, 3) := by decide +kernel
theorem dX1_castVote_98 : decode cX1_castVote 98 = .ok (.invokestatic 94, 3) := by decide +kernel
theorem dX1_castVote_101 : decode cX1_castVote 101 = .ok (.istore 7, 2) := by decide +kernel
theorem dX1_castVote_103 : decode cX1_castVote 103 = .ok (.iload_n 3, 1) := by decide +kernel
theorem dX1_castVote_104 : decode cX1_castVote 104 = .ok (.iconst 4, 1) := by decide +kernel
theorem dX1_castVote_105 : decode cX1_castVote 105 = .ok (.irem, 1) := by decide +kernel
theorem dX1_castVote_106 : decode cX1_castVote 106 = .ok (.ifCond .eq 16, 3) := by decide +kernel
theorem dX1_castVote_109 : decode cX1_castVote 109 = .ok (.aload_n 0, 1) := by decide +kernel
theorem dX1_castVote_110 : decode cX1_castVote 110 = .ok (.iload_n 1, 1) := by decide +kernel
theorem dX1_castVote_111 : decode cX1_castVote 111 = .ok (.iload_n 2, 1) := by decide +kernel
theorem dX1_castVote_112 : decode cX1_castVote 112 = .ok (.iload 6, 2) := by decide +kernel
theorem dX1_castVote_114 : decode cX1_castVote 114 = .ok (.iload 7, 2) := by decide +kernel
theorem dX1_castVote_116 : decode cX1_castVote 116 = .ok (.invokevirtual 77, 3) := by decide +kernel
theorem dX1_castVote_119 : decode cX1_castVote 119 = .ok (.goto 37, 3) := by decide +kernel
theorem dX1_castVote_122 : decode cX1_castVote 122 = .ok (.aload_n 0, 1) := by decide +kernel
theorem dX1_castVote_123 : decode cX1_castVote 123 = .ok (.iload_n 1, 1) := by decide +kernel
theorem dX1_castVote_124 : decode cX1_castVote 124 = .ok (.iload_n 2, 1) := by decide +kernel
theorem dX1_castVote_125 : decode cX1_castVote 125 = .ok (.iload 7, 2) := by decide +kernel
theorem dX1_castVote_127 : decode cX1_castVote 127 = .ok (.ifCond .eq 8, 3) := by decide +kernel
theorem dX1_castVote_130 : decode cX1_castVote 130 = .ok (.iload 6, 2) := by decide +kernel
theorem dX1_castVote_132 : decode cX1_castVote 132 = .ok (.goto 20, 3) := by decide +kernel
theorem dX1_castVote_135 : decode cX1_castVote 135 = .ok (.aload_n 0, 1) := by decide +kernel
theorem dX1_castVote_136 : decode cX1_castVote 136 = .ok (.getfield 30, 3) := by decide +kernel
theorem dX1_castVote_139 : decode cX1_castVote 139 = .ok (.iload_n 1, 1) := by decide +kernel
theorem dX1_castVote_140 : decode cX1_castVote 140 = .ok (.iconst 4, 1) := by decide +kernel
theorem dX1_castVote_141 : decode cX1_castVote 141 = .ok (.invokevirtual 97, 3) := by decide +kernel
theorem dX1_castVote_144 : decode cX1_castVote 144 = .ok (.ifCond .ge 7, 3) := by decide +kernel
theorem dX1_castVote_147 : decode cX1_castVote 147 = .ok (.iconst 1, 1) := by decide +kernel
theorem dX1_castVote_148 : decode cX1_castVote 148 = .ok (.goto 4, 3) := by decide +kernel
theorem dX1_castVote_151 : decode cX1_castVote 151 = .ok (.iconst 0, 1) := by decide +kernel
theorem dX1_castVote_152 : decode cX1_castVote 152 = .ok (.iconst 0, 1) := by decide +kernel
theorem dX1_castVote_153 : decode cX1_castVote 153 = .ok (.invokevirtual 77, 3) := by decide +kernel
theorem dX1_castVote_156 : decode cX1_castVote 156 = .ok (.return_, 1) := by decide +kernel
theorem dX1_write_0 : decode cX1_write 0 = .ok (.iload_n 3, 1) := by decide +kernel
theorem dX1_write_1 : decode cX1_write 1 = .ok (.ifCond .eq 12, 3) := by decide +kernel
theorem dX1_write_4 : decode cX1_write 4 = .ok (.aload_n 0, 1) := by decide +kernel
theorem dX1_write_5 : decode cX1_write 5 = .ok (.getfield 24, 3) := by decide +kernel
theorem dX1_write_8 : decode cX1_write 8 = .ok (.iload_n 2, 1) := by decide +kernel
theorem dX1_write_9 : decode cX1_write 9 = .ok (.iload_n 1, 1) := by decide +kernel
theorem dX1_write_10 : decode cX1_write 10 = .ok (.invokevirtual 71, 3) := by decide +kernel
theorem dX1_write_13 : decode cX1_write 13 = .ok (.iload 4, 2) := by decide +kernel
theorem dX1_write_15 : decode cX1_write 15 = .ok (.ifCond .eq 12, 3) := by decide +kernel
theorem dX1_write_18 : decode cX1_write 18 = .ok (.aload_n 0, 1) := by decide +kernel
theorem dX1_write_19 : decode cX1_write 19 = .ok (.getfield 27, 3) := by decide +kernel
theorem dX1_write_22 : decode cX1_write 22 = .ok (.iload_n 2, 1) := by decide +kernel
theorem dX1_write_23 : decode cX1_write 23 = .ok (.iload_n 1, 1) := by decide +kernel
theorem dX1_write_24 : decode cX1_write 24 = .ok (.invokevirtual 71, 3) := by decide +kernel
theorem dX1_write_27 : decode cX1_write 27 = .ok (.return_, 1) := by decide +kernel
theorem dX2_init_0 : decode cX2_init 0 = .ok (.aload_n 0, 1) := by decide +kernel
theorem dX2_init_1 : decode cX2_init 1 = .ok (.invokespecial 3, 3) := by decide +kernel
theorem dX2_init_4 : decode cX2_init 4 = .ok (.aload_n 0, 1) := by decide +kernel
theorem dX2_init_5 : decode cX2_init 5 = .ok (.new 9, 3) := by decide +kernel
theorem dX2_init_8 : decode cX2_init 8 = .ok (.dup, 1) := by decide +kernel
theorem dX2_init_9 : decode cX2_init 9 = .ok (.invokespecial 11, 3) := by decide +kernel
theorem dX2_init_12 : decode cX2_init 12 = .ok (.putfield 12, 3) := by decide +kernel
theorem dX2_init_15 : decode cX2_init 15 = .ok (.aload_n 0, 1) := by decide +kernel
theorem dX2_init_16 : decode cX2_init 16 = .ok (.sipush 240, 3) := by decide +kernel
theorem dX2_init_19 : decode cX2_init 19 = .ok (.newarray .int, 2) := by decide +kernel
theorem dX2_init_21 : decode cX2_init 21 = .ok (.putfield 18, 3) := by decide +kernel
theorem dX2_init_24 : decode cX2_init 24 = .ok (.aload_n 0, 1) := by decide +kernel
theorem dX2_init_25 : decode cX2_init 25 = .ok (.sipush 240, 3) := by decide +kernel
theorem dX2_init_28 : decode cX2_init 28 = .ok (.newarray .int, 2) := by decide +kernel
theorem dX2_init_30 : decode cX2_init 30 = .ok (.putfield 22, 3) := by decide +kernel
theorem dX2_init_33 : decode cX2_init 33 = .ok (.aload_n 0, 1) := by decide +kernel
theorem dX2_init_34 : decode cX2_init 34 = .ok (.sipush 240, 3) := by decide +kernel
theorem dX2_init_37 : decode cX2_init 37 = .ok (.newarray .int, 2) := by decide +kernel
theorem dX2_init_39 : decode cX2_init 39 = .ok (.putfield 25, 3) := by decide +kernel
theorem dX2_init_42 : decode cX2_init 42 = .ok (.aload_n 0, 1) := by decide +kernel
theorem dX2_init_43 : decode cX2_init 43 = .ok (.sipush 240, 3) := by decide +kernel
theorem dX2_init_46 : decode cX2_init 46 = .ok (.newarray .long, 2) := by decide +kernel
theorem dX2_init_48 : decode cX2_init 48 = .ok (.putfield 28, 3) := by decide +kernel
theorem dX2_init_51 : decode cX2_init 51 = .ok (.aload_n 0, 1) := by decide +kernel
theorem dX2_init_52 : decode cX2_init 52 = .ok (.sipush 240, 3) := by decide +kernel
theorem dX2_init_55 : decode cX2_init 55 = .ok (.newarray .int, 2) := by decide +kernel
theorem dX2_init_57 : decode cX2_init 57 = .ok (.putfield 32, 3) := by decide +kernel
theorem dX2_init_60 : decode cX2_init 60 = .ok (.aload_n 0, 1) := by decide +kernel
theorem dX2_init_61 : decode cX2_init 61 = .ok (.sipush 720, 3) := by decide +kernel
theorem dX2_init_64 : decode cX2_init 64 = .ok (.newarray .int, 2) := by decide +kernel
theorem dX2_init_66 : decode cX2_init 66 = .ok (.putfield 35, 3) := by decide +kernel
theorem dX2_init_69 : decode cX2_init 69 = .ok (.aload_n 0, 1) := by decide +kernel
theorem dX2_init_70 : decode cX2_init 70 = .ok (.sipush 720, 3) := by decide +kernel
theorem dX2_init_73 : decode cX2_init 73 = .ok (.newarray .int, 2) := by decide +kernel
theorem dX2_init_75 : decode cX2_init 75 = .ok (.putfield 38, 3) := by decide +kernel
theorem dX2_init_78 : decode cX2_init 78 = .ok (.aload_n 0, 1) := by decide +kernel
theorem dX2_init_79 : decode cX2_init 79 = .ok (.sipush 1920, 3) := by decide +kernel
theorem dX2_init_82 : decode cX2_init 82 = .ok (.newarray .int, 2) := by decide +kernel
theorem dX2_init_84 : decode cX2_init 84 = .ok (.putfield 41, 3) := by decide +kernel
theorem dX2_init_87 : decode cX2_init 87 = .ok (.aload_n 0, 1) := by decide +kernel
theorem dX2_init_88 : decode cX2_init 88 = .ok (.new 44, 3) := by decide +kernel
theorem dX2_init_91 : decode cX2_init 91 = .ok (.dup, 1) := by decide +kernel
theorem dX2_init_92 : decode cX2_init 92 = .ok (.bipush 8, 2) := by decide +kernel
theorem dX2_init_94 : decode cX2_init 94 = .ok (.invokespecial 46, 3) := by decide +kernel
theorem dX2_init_97 : decode cX2_init 97 = .ok (.putfield 49, 3) := by decide +kernel
theorem dX2_init_100 : decode cX2_init 100 = .ok (.return_, 1) := by decide +kernel
theorem dX2_clear_0 : decode cX2_clear 0 = .ok (.aload_n 0, 1) := by decide +kernel
theorem dX2_clear_1 : decode cX2_clear 1 = .ok (.iconst 0, 1) := by decide +kernel
theorem dX2_clear_2 : decode cX2_clear 2 = .ok (.putfield 53, 3) := by decide +kernel
theorem dX2_clear_5 : decode cX2_clear 5 = .ok (.aload_n 0, 1) := by decide +kernel
theorem dX2_clear_6 : decode cX2_clear 6 = .ok (.getfield 49, 3) := by decide +kernel
theorem dX2_clear_9 : decode cX2_clear 9 = .ok (.invokevirtual 57, 3) := by decide +kernel
theorem dX2_clear_12 : decode cX2_clear 12 = .ok (.return_, 1) := by decide +kernel
theorem dX2_isFull_0 : decode cX2_isFull 0 = .ok (.aload_n 0, 1) := by decide +kernel
theorem dX2_isFull_1 : decode cX2_isFull 1 = .ok (.getfield 53, 3) := by decide +kernel
theorem dX2_isFull_4 : decode cX2_isFull 4 = .ok (.sipush 240, 3) := by decide +kernel
theorem dX2_isFull_7 : decode cX2_isFull 7 = .ok (.if_icmp .ne 7, 3) := by decide +kernel
theorem dX2_isFull_10 : decode cX2_isFull 10 = .ok (.iconst 1, 1) := by decide +kernel
theorem dX2_isFull_11 : decode cX2_isFull 11 = .ok (.goto 4, 3) := by decide +kernel
theorem dX2_isFull_14 : decode cX2_isFull 14 = .ok (.iconst 0, 1) := by decide +kernel
theorem dX2_isFull_15 : decode cX2_isFull 15 = .ok (.ireturn, 1) := by decide +kernel
theorem dX2_open_0 : decode cX2_open 0 = .ok (.aload_n 0, 1) := by decide +kernel
theorem dX2_open_1 : decode cX2_open 1 = .ok (.getfield 53, 3) := by decide +kernel
theorem dX2_open_4 : decode cX2_open 4 = .ok (.istore 6, 2) := by decide +kernel
theorem dX2_open_6 : decode cX2_open 6 = .ok (.aload_n 0, 1) := by decide +kernel
theorem dX2_open_7 : decode cX2_open 7 = .ok (.dup, 1) := by decide +kernel
theorem dX2_open_8 : decode cX2_open 8 = .ok (.getfield 53, 3) := by decide +kernel
theorem dX2_open_11 : decode cX2_open 11 = .ok (.iconst 1, 1) := by decide +kernel
theorem dX2_open_12 : decode cX2_open 12 = .ok (.iadd, 1) := by decide +kernel
theorem dX2_open_13 : decode cX2_open 13 = .ok (.putfield 53, 3) := by decide +kernel
theorem dX2_open_16 : decode cX2_open 16 = .ok (.aload_n 0, 1) := by decide +kernel
theorem dX2_open_17 : decode cX2_open 17 = .ok (.getfield 18, 3) := by decide +kernel
theorem dX2_open_20 : decode cX2_open 20 = .ok (.iload 6, 2) := by decide +kernel
theorem dX2_open_22 : decode cX2_open 22 = .ok (.iload_n 1, 1) := by decide +kernel
theorem dX2_open_23 : decode cX2_open 23 = .ok (.iastore, 1) := by decide +kernel
theorem dX2_open_24 : decode cX2_open 24 = .ok (.aload_n 0, 1) := by decide +kernel
theorem dX2_open_25 : decode cX2_open 25 = .ok (.getfield 22, 3) := by decide +kernel
theorem dX2_open_28 : decode cX2_open 28 = .ok (.iload 6, 2) := by decide +kernel
theorem dX2_open_30 : decode cX2_open 30 = .ok (.iload_n 2, 1) := by decide +kernel
theorem dX2_open_31 : decode cX2_open 31 = .ok (.iastore, 1) := by decide +kernel
theorem dX2_open_32 : decode cX2_open 32 = .ok (.aload_n 0, 1) := by decide +kernel
theorem dX2_open_33 : decode cX2_open 33 = .ok (.getfield 25, 3) := by decide +kernel
theorem dX2_open_36 : decode cX2_open 36 = .ok (.iload 6, 2) := by decide +kernel
theorem dX2_open_38 : decode cX2_open 38 = .ok (.iload_n 3, 1) := by decide +kernel
theorem dX2_open_39 : decode cX2_open 39 = .ok (.iastore, 1) := by decide +kernel
theorem dX2_open_40 : decode cX2_open 40 = .ok (.aload_n 0, 1) := by decide +kernel
theorem dX2_open_41 : decode cX2_open 41 = .ok (.getfield 28, 3) := by decide +kernel
theorem dX2_open_44 : decode cX2_open 44 = .ok (.iload 6, 2) := by decide +kernel
theorem dX2_open_46 : decode cX2_open 46 = .ok (.lload 4, 2) := by decide +kernel
theorem dX2_open_48 : decode cX2_open 48 = .ok (.lastore, 1) := by decide +kernel
theorem dX2_open_49 : decode cX2_open 49 = .ok (.aload_n 0, 1) := by decide +kernel
theorem dX2_open_50 : decode cX2_open 50 = .ok (.getfield 32, 3) := by decide +kernel
theorem dX2_open_53 : decode cX2_open 53 = .ok (.iload 6, 2) := by decide +kernel
theorem dX2_open_55 : decode cX2_open 55 = .ok (.iconst 0, 1) := by decide +kernel
theorem dX2_open_56 : decode cX2_open 56 = .ok (.iastore, 1) := by decide +kernel
theorem dX2_open_57 : decode cX2_open 57 = .ok (.iload 6, 2) := by decide +kernel
theorem dX2_open_59 : decode cX2_open 59 = .ok (.ireturn, 1) := by decide +kernel
theorem dX2_addTransaction_0 : decode cX2_addTransaction 0 = .ok (.iload_n 1, 1) := by decide +kernel
theorem dX2_addTransaction_1 : decode cX2_addTransaction 1 = .ok (.iconst 3, 1) := by decide +kernel
theorem dX2_addTransaction_2 : decode cX2_addTransaction 2 = .ok (.imul, 1) := by decide +kernel
theorem dX2_addTransaction_3 : decode cX2_addTransaction 3 = .ok (.aload_n 0, 1) := by decide +kernel
theorem dX2_addTransaction_4 : decode cX2_addTransaction 4 = .ok (.getfield 32, 3) := by decide +kernel
theorem dX2_addTransaction_7 : decode cX2_addTransaction 7 = .ok (.iload_n 1, 1) := by decide +kernel
theorem dX2_addTransaction_8 : decode cX2_addTransaction 8 = .ok (.iaload, 1) := by decide +kernel
theorem dX2_addTransaction_9 : decode cX2_addTransaction 9 = .ok (.iadd, 1) := by decide +kernel
theorem dX2_addTransaction_10 : decode cX2_addTransaction 10 = .ok (.istore 4, 2) := by decide +kernel
theorem dX2_addTransaction_12 : decode cX2_addTransaction 12 = .ok (.aload_n 0, 1) := by decide +kernel
theorem dX2_addTransaction_13 : decode cX2_addTransaction 13 = .ok (.getfield 35, 3) := by decide +kernel
theorem dX2_addTransaction_16 : decode cX2_addTransaction 16 = .ok (.iload 4, 2) := by decide +kernel
theorem dX2_addTransaction_18 : decode cX2_addTransaction 18 = .ok (.iload_n 2, 1) := by decide +kernel
theorem dX2_addTransaction_19 : decode cX2_addTransaction 19 = .ok (.iastore, 1) := by decide +kernel
theorem dX2_addTransaction_20 : decode cX2_addTransaction 20 = .ok (.aload_n 0, 1) := by decide +kernel
theorem dX2_addTransaction_21 : decode cX2_addTransaction 21 = .ok (.getfield 38, 3) := by decide +kernel
theorem dX2_addTransaction_24 : decode cX2_addTransaction 24 = .ok (.iload 4, 2) := by decide +kernel
theorem dX2_addTransaction_26 : decode cX2_addTransaction 26 = .ok (.iload_n 3, 1) := by decide +kernel
theorem dX2_addTransaction_27 : decode cX2_addTransaction 27 = .ok (.iastore, 1) := by decide +kernel
theorem dX2_addTransaction_28 : decode cX2_addTransaction 28 = .ok (.aload_n 0, 1) := by decide +kernel
theorem dX2_addTransaction_29 : decode cX2_addTransaction 29 = .ok (.getfield 32, 3) := by decide +kernel
theorem dX2_addTransaction_32 : decode cX2_addTransaction 32 = .ok (.iload_n 1, 1) := by decide +kernel
theorem dX2_addTransaction_33 : decode cX2_addTransaction 33 = .ok (.dup2, 1) := by decide +kernel
theorem dX2_addTransaction_34 : decode cX2_addTransaction 34 = .ok (.iaload, 1) := by decide +kernel
theorem dX2_addTransaction_35 : decode cX2_addTransaction 35 = .ok (.iconst 1, 1) := by decide +kernel
theorem dX2_addTransaction_36 : decode cX2_addTransaction 36 = .ok (.iadd, 1) := by decide +kernel
theorem dX2_addTransaction_37 : decode cX2_addTransaction 37 = .ok (.iastore, 1) := by decide +kernel
theorem dX2_addTransaction_38 : decode cX2_addTransaction 38 = .ok (.return_, 1) := by decide +kernel
theorem dX2_close_0 : decode cX2_close 0 = .ok (.aload_n 0, 1) := by decide +kernel
theorem dX2_close_1 : decode cX2_close 1 = .ok (.getfield 12, 3) := by decide +kernel
theorem dX2_close_4 : decode cX2_close 4 = .ok (.invokevirtual 60, 3) := by decide +kernel
theorem dX2_close_7 : decode cX2_close 7 = .ok (.aload_n 0, 1) := by decide +kernel
theorem dX2_close_8 : decode cX2_close 8 = .ok (.getfield 12, 3) := by decide +kernel
theorem dX2_close_11 : decode cX2_close 11 = .ok (.aload_n 0, 1) := by decide +kernel
theorem dX2_close_12 : decode cX2_close 12 = .ok (.getfield 18, 3) := by decide +kernel
theorem dX2_close_15 : decode cX2_close 15 = .ok (.iload_n 1, 1) := by decide +kernel
theorem dX2_close_16 : decode cX2_close 16 = .ok (.iaload, 1) := by decide +kernel
theorem dX2_close_17 : decode cX2_close 17 = .ok (.invokevirtual 63, 3) := by decide +kernel
theorem dX2_close_20 : decode cX2_close 20 = .ok (.aload_n 0, 1) := by decide +kernel
theorem dX2_close_21 : decode cX2_close 21 = .ok (.aload_n 0, 1) := by decide +kernel
theorem dX2_close_22 : decode cX2_close 22 = .ok (.getfield 22, 3) := by decide +kernel
theorem dX2_close_25 : decode cX2_close 25 = .ok (.iload_n 1, 1) := by decide +kernel
theorem dX2_close_26 : decode cX2_close 26 = .ok (.iaload, 1) := by decide +kernel
theorem dX2_close_27 : decode cX2_close 27 = .ok (.invokevirtual 66, 3) := by decide +kernel
theorem dX2_close_30 : decode cX2_close 30 = .ok (.aload_n 0, 1) := by decide +kernel
theorem dX2_close_31 : decode cX2_close 31 = .ok (.aload_n 0, 1) := by decide +kernel
theorem dX2_close_32 : decode cX2_close 32 = .ok (.getfield 25, 3) := by decide +kernel
theorem dX2_close_35 : decode cX2_close 35 = .ok (.iload_n 1, 1) := by decide +kernel
theorem dX2_close_36 : decode cX2_close 36 = .ok (.iaload, 1) := by decide +kernel
theorem dX2_close_37 : decode cX2_close 37 = .ok (.invokevirtual 66, 3) := by decide +kernel
theorem dX2_close_40 : decode cX2_close 40 = .ok (.aload_n 0, 1) := by decide +kernel
theorem dX2_close_41 : decode cX2_close 41 = .ok (.getfield 12, 3) := by decide +kernel
theorem dX2_close_44 : decode cX2_close 44 = .ok (.aload_n 0, 1) := by decide +kernel
theorem dX2_close_45 : decode cX2_close 45 = .ok (.getfield 28, 3) := by decide +kernel
theorem dX2_close_48 : decode cX2_close 48 = .ok (.iload_n 1, 1) := by decide +kernel
theorem dX2_close_49 : decode cX2_close 49 = .ok (.laload, 1) := by decide +kernel
theorem dX2_close_50 : decode cX2_close 50 = .ok (.invokevirtual 69, 3) := by decide +kernel
theorem dX2_close_53 : decode cX2_close 53 = .ok (.aload_n 0, 1) := by decide +kernel
theorem dX2_close_54 : decode cX2_close 54 = .ok (.getfield 12, 3) := by decide +kernel
theorem dX2_close_57 : decode cX2_close 57 = .ok (.aload_n 0, 1) := by decide +kernel
theorem dX2_close_58 : decode cX2_close 58 = .ok (.getfield 32, 3) := by decide +kernel
theorem dX2_close_61 : decode cX2_close 61 = .ok (.iload_n 1, 1) := by decide +kernel
theorem dX2_close_62 : decode cX2_close 62 = .ok (.iaload, 1) := by decide +kernel
theorem dX2_close_63 : decode cX2_close 63 = .ok (.invokevirtual 63, 3) := by decide +kernel
theorem dX2_close_66 : decode cX2_close 66 = .ok (.iconst 0, 1) := by decide +kernel
theorem dX2_close_67 : decode cX2_close 67 = .ok (.istore_n 2, 1) := by decide +kernel
theorem dX2_close_68 : decode cX2_close 68 = .ok (.iload_n 2, 1) := by decide +kernel
theorem dX2_close_69 : decode cX2_close 69 = .ok (.aload_n 0, 1) := by decide +kernel
theorem dX2_close_70 : decode cX2_close 70 = .ok (.getfield 32, 3) := by decide +kernel
theorem dX2_close_73 : decode cX2_close 73 = .ok (.iload_n 1, 1) := by decide +kernel
theorem dX2_close_74 : decode cX2_close 74 = .ok (.iaload, 1) := by decide +kernel
theorem dX2_close_75 : decode cX2_close 75 = .ok (.if_icmp .ge 43, 3) := by decide +kernel
theorem dX2_close_78 : decode cX2_close 78 = .ok (.aload_n 0, 1) := by decide +kernel
theorem dX2_close_79 : decode cX2_close 79 = .ok (.getfield 12, 3) := by decide +kernel
theorem dX2_close_82 : decode cX2_close 82 = .ok (.aload_n 0, 1) := by decide +kernel
theorem dX2_close_83 : decode cX2_close 83 = .ok (.getfield 35, 3) := by decide +kernel
theorem dX2_close_86 : decode cX2_close 86 = .ok (.iload_n 1, 1) := by decide +kernel
theorem dX2_close_87 : decode cX2_close 87 = .ok (.iconst 3, 1) := by decide +kernel
theorem dX2_close_88 : decode cX2_close 88 = .ok (.imul, 1) := by decide +kernel
theorem dX2_close_89 : decode cX2_close 89 = .ok (.iload_n 2, 1) := by decide +kernel
theorem dX2_close_90 : decode cX2_close 90 = .ok (.iadd, 1) := by decide +kernel
theorem dX2_close_91 : decode cX2_close 91 = .ok (.iaload, 1) := by decide +kernel
theorem dX2_close_92 : decode cX2_close 92 = .ok (.invokevirtual 63, 3) := by decide +kernel
theorem dX2_close_95 : decode cX2_close 95 = .ok (.aload_n 0, 1) := by decide +kernel
theorem dX2_close_96 : decode cX2_close 96 = .ok (.getfield 12, 3) := by decide +kernel
theorem dX2_close_99 : decode cX2_close 99 = .ok (.aload_n 0, 1) := by decide +kernel
theorem dX2_close_100 : decode cX2_close 100 = .ok (.getfield 38, 3) := by decide +kernel
theorem dX2_close_103 : decode cX2_close 103 = .ok (.iload_n 1, 1) := by decide +kernel
theorem dX2_close_104 : decode cX2_close 104 = .ok (.iconst 3, 1) := by decide +kernel
theorem dX2_close_105 : decode cX2_close 105 = .ok (.imul, 1) := by decide +kernel
theorem dX2_close_106 : decode cX2_close 106 = .ok (.iload_n 2, 1) := by decide +kernel
theorem dX2_close_107 : decode cX2_close 107 = .ok (.iadd, 1) := by decide +kernel
theorem dX2_close_108 : decode cX2_close 108 = .ok (.iaload, 1) := by decide +kernel
theorem dX2_close_109 : decode cX2_close 109 = .ok (.invokevirtual 73, 3) := by decide +kernel
theorem dX2_close_112 : decode cX2_close 112 = .ok (.iinc 2 1, 3) := by decide +kernel
theorem dX2_close_115 : decode cX2_close 115 = .ok (.goto (-47), 3) := by decide +kernel
theorem dX2_close_118 : decode cX2_close 118 = .ok (.aload_n 0, 1) := by decide +kernel
theorem dX2_close_119 : decode cX2_close 119 = .ok (.getfield 12, 3) := by decide +kernel
theorem dX2_close_122 : decode cX2_close 122 = .ok (.aload_n 0, 1) := by decide +kernel
theorem dX2_close_123 : decode cX2_close 123 = .ok (.getfield 41, 3) := by decide +kernel
theorem dX2_close_126 : decode cX2_close 126 = .ok (.iload_n 1, 1) := by decide +kernel
theorem dX2_close_127 : decode cX2_close 127 = .ok (.bipush 8, 2) := by decide +kernel
theorem dX2_close_129 : decode cX2_close 129 = .ok (.imul, 1) := by decide +kernel
theorem dX2_close_130 : decode cX2_close 130 = .ok (.invokevirtual 76, 3) := by decide +kernel
theorem dX2_close_133 : decode cX2_close 133 = .ok (.return_, 1) := by decide +kernel
theorem dX2_putParentHash_0 : decode cX2_putParentHash 0 = .ok (.iconst 0, 1) := by decide +kernel
theorem dX2_putParentHash_1 : decode cX2_putParentHash 1 = .ok (.istore_n 2, 1) := by decide +kernel
theorem dX2_putParentHash_2 : decode cX2_putParentHash 2 = .ok (.iload_n 2, 1) := by decide +kernel
theorem dX2_putParentHash_3 : decode cX2_putParentHash 3 = .ok (.bipush 8, 2) := by decide +kernel
theorem dX2_putParentHash_5 : decode cX2_putParentHash 5 = .ok (.if_icmp .ge 31, 3) := by decide +kernel
theorem dX2_putParentHash_8 : decode cX2_putParentHash 8 = .ok (.aload_n 0, 1) := by decide +kernel
theorem dX2_putParentHash_9 : decode cX2_putParentHash 9 = .ok (.getfield 12, 3) := by decide +kernel
theorem dX2_putParentHash_12 : decode cX2_putParentHash 12 = .ok (.iload_n 1, 1) := by decide +kernel
theorem dX2_putParentHash_13 : decode cX2_putParentHash 13 = .ok (.iconst (-1), 1) := by decide +kernel
theorem dX2_putParentHash_14 : decode cX2_putParentHash 14 = .ok (.if_icmp .ne 7, 3) := by decide +kernel
theorem dX2_putParentHash_17 : decode cX2_putParentHash 17 = .ok (.iconst 0, 1) := by decide +kernel
theorem dX2_putParentHash_18 : decode cX2_putParentHash 18 = .ok (.goto 9, 3) := by decide +kernel
theorem dX2_putParentHash_21 : decode cX2_putParentHash 21 = .ok (.aload_n 0, 1) := by decide +kernel
theorem dX2_putParentHash_22 : decode cX2_putParentHash 22 = .ok (.iload_n 1, 1) := by decide +kernel
theorem dX2_putParentHash_23 : decode cX2_putParentHash 23 = .ok (.iload_n 2, 1) := by decide +kernel
theorem dX2_putParentHash_24 : decode cX2_putParentHash 24 = .ok (.invokevirtual 80, 3) := by decide +kernel
theorem dX2_putParentHash_27 : decode cX2_putParentHash 27 = .ok (.invokevirtual 73, 3) := by decide +kernel
theorem dX2_putParentHash_30 : decode cX2_putParentHash 30 = .ok (.iinc 2 1, 3) := by decide +kernel
theorem dX2_putParentHash_33 : decode cX2_putParentHash 33 = .ok (.goto (-31), 3) := by decide +kernel
theorem dX2_putParentHash_36 : decode cX2_putParentHash 36 = .ok (.return_, 1) := by decide +kernel
theorem dX2_hashWord_0 : decode cX2_hashWord 0 = .ok (.aload_n 0, 1) := by decide +kernel
theorem dX2_hashWord_1 : decode cX2_hashWord 1 = .ok (.getfield 41, 3) := by decide +kernel
theorem dX2_hashWord_4 : decode cX2_hashWord 4 = .ok (.iload_n 1, 1) := by decide +kernel
theorem dX2_hashWord_5 : decode cX2_hashWord 5 = .ok (.bipush 8, 2) := by decide +kernel
theorem dX2_hashWord_7 : decode cX2_hashWord 7 = .ok (.imul, 1) := by decide +kernel
theorem dX2_hashWord_8 : decode cX2_hashWord 8 = .ok (.iload_n 2, 1) := by decide +kernel
theorem dX2_hashWord_9 : decode cX2_hashWord 9 = .ok (.iadd, 1) := by decide +kernel
theorem dX2_hashWord_10 : decode cX2_hashWord 10 = .ok (.iaload, 1) := by decide +kernel
theorem dX2_hashWord_11 : decode cX2_hashWord 11 = .ok (.ireturn, 1) := by decide +kernel
theorem dX2_hasOneOf_0 : decode cX2_hasOneOf 0 = .ok (.iconst 0, 1) := by decide +kernel
theorem dX2_hasOneOf_1 : decode cX2_hasOneOf 1 = .ok (.istore 6, 2) := by decide +kernel
theorem dX2_hasOneOf_3 : decode cX2_hasOneOf 3 = .ok (.iload 6, 2) := by decide +kernel
theorem dX2_hasOneOf_5 : decode cX2_hasOneOf 5 = .ok (.aload_n 0, 1) := by decide +kernel
theorem dX2_hasOneOf_6 : decode cX2_hasOneOf 6 = .ok (.getfield 53, 3) := by decide +kernel
theorem dX2_hasOneOf_9 : decode cX2_hasOneOf 9 = .ok (.if_icmp .ge 67, 3) := by decide +kernel
theorem dX2_hasOneOf_12 : decode cX2_hasOneOf 12 = .ok (.aload_n 0, 1) := by decide +kernel
theorem dX2_hasOneOf_13 : decode cX2_hasOneOf 13 = .ok (.getfield 18, 3) := by decide +kernel
theorem dX2_hasOneOf_16 : decode cX2_hasOneOf 16 = .ok (.iload 6, 2) := by decide +kernel
theorem dX2_hasOneOf_18 : decode cX2_hasOneOf 18 = .ok (.iaload, 1) := by decide +kernel
theorem dX2_hasOneOf_19 : decode cX2_hasOneOf 19 = .ok (.iload_n 1, 1) := by decide +kernel
theorem dX2_hasOneOf_20 : decode cX2_hasOneOf 20 = .ok (.if_icmp .ne 50, 3) := by decide +kernel
theorem dX2_hasOneOf_23 : decode cX2_hasOneOf 23 = .ok (.aload_n 0, 1) := by decide +kernel
theorem dX2_hasOneOf_24 : decode cX2_hasOneOf 24 = .ok (.getfield 22, 3) := by decide +kernel
theorem dX2_hasOneOf_27 : decode cX2_hasOneOf 27 = .ok (.iload 6, 2) := by decide +kernel
theorem dX2_hasOneOf_29 : decode cX2_hasOneOf 29 = .ok (.iaload, 1) := by decide +kernel
theorem dX2_hasOneOf_30 : decode cX2_hasOneOf 30 = .ok (.iload_n 2, 1) := by decide +kernel
theorem dX2_hasOneOf_31 : decode cX2_hasOneOf 31 = .ok (.if_icmp .ne 39, 3) := by decide +kernel
theorem dX2_hasOneOf_34 : decode cX2_hasOneOf 34 = .ok (.aload_n 0, 1) := by decide +kernel
theorem dX2_hasOneOf_35 : decode cX2_hasOneOf 35 = .ok (.getfield 25, 3) := by decide +kernel
theorem dX2_hasOneOf_38 : decode cX2_hasOneOf 38 = .ok (.iload 6, 2) := by decide +kernel
theorem dX2_hasOneOf_40 : decode cX2_hasOneOf 40 = .ok (.iaload, 1) := by decide +kernel
theorem dX2_hasOneOf_41 : decode cX2_hasOneOf 41 = .ok (.iload_n 3, 1) := by decide +kernel
theorem dX2_hasOneOf_42 : decode cX2_hasOneOf 42 = .ok (.if_icmp .ne 28, 3) := by decide +kernel
theorem dX2_hasOneOf_45 : decode cX2_hasOneOf 45 = .ok (.aload_n 0, 1) := by decide +kernel
theorem dX2_hasOneOf_46 : decode cX2_hasOneOf 46 = .ok (.getfield 28, 3) := by decide +kernel
theorem dX2_hasOneOf_49 : decode cX2_hasOneOf 49 = .ok (.iload 6, 2) := by decide +kernel
theorem dX2_hasOneOf_51 : decode cX2_hasOneOf 51 = .ok (.laload, 1) := by decide +kernel
theorem dX2_hasOneOf_52 : decode cX2_hasOneOf 52 = .ok (.lload 4, 2) := by decide +kernel
theorem dX2_hasOneOf_54 : decode cX2_hasOneOf 54 = .ok (.lcmp, 1) := by decide +kernel
theorem dX2_hasOneOf_55 : decode cX2_hasOneOf 55 = .ok (.ifCond .ne 15, 3) := by decide +kernel
theorem dX2_hasOneOf_58 : decode cX2_hasOneOf 58 = .ok (.aload_n 0, 1) := by decide +kernel
theorem dX2_hasOneOf_59 : decode cX2_hasOneOf 59 = .ok (.getfield 32, 3) := by decide +kernel
theorem dX2_hasOneOf_62 : decode cX2_hasOneOf 62 = .ok (.iload 6, 2) := by decide +kernel
theorem dX2_hasOneOf_64 : decode cX2_hasOneOf 64 = .ok (.iaload, 1) := by decide +kernel
theorem dX2_hasOneOf_65 : decode cX2_hasOneOf 65 = .ok (.ifCond .ne 5, 3) := by decide +kernel
theorem dX2_hasOneOf_68 : decode cX2_hasOneOf 68 = .ok (.iconst 1, 1) := by decide +kernel
theorem dX2_hasOneOf_69 : decode cX2_hasOneOf 69 = .ok (.ireturn, 1) := by decide +kernel
theorem dX2_hasOneOf_70 : decode cX2_hasOneOf 70 = .ok (.iinc 6 1, 3) := by decide +kernel
theorem dX2_hasOneOf_73 : decode cX2_hasOneOf 73 = .ok (.goto (-70), 3) := by decide +kernel
theorem dX2_hasOneOf_76 : decode cX2_hasOneOf 76 = .ok (.iconst 0, 1) := by decide +kernel
theorem dX2_hasOneOf_77 : decode cX2_hasOneOf 77 = .ok (.ireturn, 1) := by decide +kernel
theorem dX3_init_0 : decode cX3_init 0 = .ok (.aload_n 0, 1) := by decide +kernel
theorem dX3_init_1 : decode cX3_init 1 = .ok (.invokespecial 3, 3) := by decide +kernel
theorem dX3_init_4 : decode cX3_init 4 = .ok (.aload_n 0, 1) := by decide +kernel
theorem dX3_init_5 : decode cX3_init 5 = .ok (.new 9, 3) := by decide +kernel
theorem dX3_init_8 : decode cX3_init 8 = .ok (.dup, 1) := by decide +kernel
theorem dX3_init_9 : decode cX3_init 9 = .ok (.sipush 240, 3) := by decide +kernel
theorem dX3_init_12 : decode cX3_init 12 = .ok (.invokespecial 11, 3) := by decide +kernel
theorem dX3_init_15 : decode cX3_init 15 = .ok (.putfield 14, 3) := by decide +kernel
theorem dX3_init_18 : decode cX3_init 18 = .ok (.aload_n 0, 1) := by decide +kernel
theorem dX3_init_19 : decode cX3_init 19 = .ok (.new 9, 3) := by decide +kernel
theorem dX3_init_22 : decode cX3_init 22 = .ok (.dup, 1) := by decide +kernel
theorem dX3_init_23 : decode cX3_init 23 = .ok (.sipush 240, 3) := by decide +kernel
theorem dX3_init_26 : decode cX3_init 26 = .ok (.invokespecial 11, 3) := by decide +kernel
theorem dX3_init_29 : decode cX3_init 29 = .ok (.putfield 20, 3) := by decide +kernel
theorem dX3_init_32 : decode cX3_init 32 = .ok (.aload_n 0, 1) := by decide +kernel
theorem dX3_init_33 : decode cX3_init 33 = .ok (.new 9, 3) := by decide +kernel
theorem dX3_init_36 : decode cX3_init 36 = .ok (.dup, 1) := by decide +kernel
theorem dX3_init_37 : decode cX3_init 37 = .ok (.sipush 240, 3) := by decide +kernel
theorem dX3_init_40 : decode cX3_init 40 = .ok (.invokespecial 11, 3) := by decide +kernel
theorem dX3_init_43 : decode cX3_init 43 = .ok (.putfield 23, 3) := by decide +kernel
theorem dX3_init_46 : decode cX3_init 46 = .ok (.aload_n 0, 1) := by decide +kernel
theorem dX3_init_47 : decode cX3_init 47 = .ok (.new 9, 3) := by decide +kernel
theorem dX3_init_50 : decode cX3_init 50 = .ok (.dup, 1) := by decide +kernel
theorem dX3_init_51 : decode cX3_init 51 = .ok (.bipush 8, 2) := by decide +kernel
theorem dX3_init_53 : decode cX3_init 53 = .ok (.invokespecial 11, 3) := by decide +kernel
theorem dX3_init_56 : decode cX3_init 56 = .ok (.putfield 26, 3) := by decide +kernel
theorem dX3_init_59 : decode cX3_init 59 = .ok (.aload_n 0, 1) := by decide +kernel
theorem dX3_init_60 : decode cX3_init 60 = .ok (.sipush 240, 3) := by decide +kernel
theorem dX3_init_63 : decode cX3_init 63 = .ok (.newarray .int, 2) := by decide +kernel
theorem dX3_init_65 : decode cX3_init 65 = .ok (.putfield 29, 3) := by decide +kernel
theorem dX3_init_68 : decode cX3_init 68 = .ok (.aload_n 0, 1) := by decide +kernel
theorem dX3_init_69 : decode cX3_init 69 = .ok (.sipush 240, 3) := by decide +kernel
theorem dX3_init_72 : decode cX3_init 72 = .ok (.newarray .int, 2) := by decide +kernel
theorem dX3_init_74 : decode cX3_init 74 = .ok (.putfield 33, 3) := by decide +kernel
theorem dX3_init_77 : decode cX3_init 77 = .ok (.aload_n 0, 1) := by decide +kernel
theorem dX3_init_78 : decode cX3_init 78 = .ok (.sipush 240, 3) := by decide +kernel
theorem dX3_init_81 : decode cX3_init 81 = .ok (.newarray .boolean, 2) := by decide +kernel
theorem dX3_init_83 : decode cX3_init 83 = .ok (.putfield 36, 3) := by decide +kernel
theorem dX3_init_86 : decode cX3_init 86 = .ok (.aload_n 0, 1) := by decide +kernel
theorem dX3_init_87 : decode cX3_init 87 = .ok (.bipush 8, 2) := by decide +kernel
theorem dX3_init_89 : decode cX3_init 89 = .ok (.newarray .int, 2) := by decide +kernel
theorem dX3_init_91 : decode cX3_init 91 = .ok (.putfield 40, 3) := by decide +kernel
theorem dX3_init_94 : decode cX3_init 94 = .ok (.aload_n 0, 1) := by decide +kernel
theorem dX3_init_95 : decode cX3_init 95 = .ok (.bipush 8, 2) := by decide +kernel
theorem dX3_init_97 : decode cX3_init 97 = .ok (.newarray .int, 2) := by decide +kernel
theorem dX3_init_99 : decode cX3_init 99 = .ok (.putfield 43, 3) := by decide +kernel
theorem dX3_init_102 : decode cX3_init 102 = .ok (.aload_n 0, 1) := by decide +kernel
theorem dX3_init_103 : decode cX3_init 103 = .ok (.bipush 8, 2) := by decide +kernel
theorem dX3_init_105 : decode cX3_init 105 = .ok (.newarray .int, 2) := by decide +kernel
theorem dX3_init_107 : decode cX3_init 107 = .ok (.putfield 46, 3) := by decide +kernel
theorem dX3_init_110 : decode cX3_init 110 = .ok (.aload_n 0, 1) := by decide +kernel
theorem dX3_init_111 : decode cX3_init 111 = .ok (.aload_n 1, 1) := by decide +kernel
theorem dX3_init_112 : decode cX3_init 112 = .ok (.putfield 49, 3) := by decide +kernel
theorem dX3_init_115 : decode cX3_init 115 = .ok (.return_, 1) := by decide +kernel
theorem dX3_clear_0 : decode cX3_clear 0 = .ok (.aload_n 0, 1) := by decide +kernel
theorem dX3_clear_1 : decode cX3_clear 1 = .ok (.iload_n 1, 1) := by decide +kernel
theorem dX3_clear_2 : decode cX3_clear 2 = .ok (.putfield 53, 3) := by decide +kernel
theorem dX3_clear_5 : decode cX3_clear 5 = .ok (.aload_n 0, 1) := by decide +kernel
theorem dX3_clear_6 : decode cX3_clear 6 = .ok (.iconst 0, 1) := by decide +kernel
theorem dX3_clear_7 : decode cX3_clear 7 = .ok (.putfield 57, 3) := by decide +kernel
theorem dX3_clear_10 : decode cX3_clear 10 = .ok (.aload_n 0, 1) := by decide +kernel
theorem dX3_clear_11 : decode cX3_clear 11 = .ok (.iconst 0, 1) := by decide +kernel
theorem dX3_clear_12 : decode cX3_clear 12 = .ok (.putfield 60, 3) := by decide +kernel
theorem dX3_clear_15 : decode cX3_clear 15 = .ok (.aload_n 0, 1) := by decide +kernel
theorem dX3_clear_16 : decode cX3_clear 16 = .ok (.getfield 40, 3) := by decide +kernel
theorem dX3_clear_19 : decode cX3_clear 19 = .ok (.iconst 0, 1) := by decide +kernel
theorem dX3_clear_20 : decode cX3_clear 20 = .ok (.invokestatic 63, 3) := by decide +kernel
theorem dX3_clear_23 : decode cX3_clear 23 = .ok (.return_, 1) := by decide +kernel
theorem dX3_take_0 : decode cX3_take 0 = .ok (.aload_n 0, 1) := by decide +kernel
theorem dX3_take_1 : decode cX3_take 1 = .ok (.iload_n 1, 1) := by decide +kernel
theorem dX3_take_2 : decode cX3_take 2 = .ok (.invokevirtual 69, 3) := by decide +kernel
theorem dX3_take_5 : decode cX3_take 5 = .ok (.aload_n 0, 1) := by decide +kernel
theorem dX3_take_6 : decode cX3_take 6 = .ok (.iload_n 1, 1) := by decide +kernel
theorem dX3_take_7 : decode cX3_take 7 = .ok (.invokevirtual 72, 3) := by decide +kernel
theorem dX3_take_10 : decode cX3_take 10 = .ok (.aload_n 0, 1) := by decide +kernel
theorem dX3_take_11 : decode cX3_take 11 = .ok (.iload_n 1, 1) := by decide +kernel
theorem dX3_take_12 : decode cX3_take 12 = .ok (.invokevirtual 75, 3) := by decide +kernel
theorem dX3_take_15 : decode cX3_take 15 = .ok (.aload_n 0, 1) := by decide +kernel
theorem dX3_take_16 : decode cX3_take 16 = .ok (.iload_n 1, 1) := by decide +kernel
theorem dX3_take_17 : decode cX3_take 17 = .ok (.invokevirtual 78, 3) := by decide +kernel
theorem dX3_take_20 : decode cX3_take 20 = .ok (.aload_n 0, 1) := by decide +kernel
theorem dX3_take_21 : decode cX3_take 21 = .ok (.iload_n 1, 1) := by decide +kernel
theorem dX3_take_22 : decode cX3_take 22 = .ok (.invokevirtual 81, 3) := by decide +kernel
theorem dX3_take_25 : decode cX3_take 25 = .ok (.return_, 1) := by decide +kernel
theorem dX3_findAncestors_0 : decode cX3_findAncestors 0 = .ok (.aload_n 0, 1) := by decide +kernel
theorem dX3_findAncestors_1 : decode cX3_findAncestors 1 = .ok (.getfield 49, 3) := by decide +kernel
theorem dX3_findAncestors_4 : decode cX3_findAncestors 4 = .ok (.getfield 84, 3) := by decide +kernel
theorem dX3_findAncestors_7 : decode cX3_findAncestors 7 = .ok (.iload_n 1, 1) := by decide +kernel
theorem dX3_findAncestors_8 : decode cX3_findAncestors 8 = .ok (.iaload, 1) := by decide +kernel
theorem dX3_findAncestors_9 : decode cX3_findAncestors 9 = .ok (.istore_n 2, 1) := by decide +kernel
theorem dX3_findAncestors_10 : decode cX3_findAncestors 10 = .ok (.aload_n 0, 1) := by decide +kernel
theorem dX3_findAncestors_11 : decode cX3_findAncestors 11 = .ok (.getfield 49, 3) := by decide +kernel
theorem dX3_findAncestors_14 : decode cX3_findAncestors 14 = .ok (.getfield 89, 3) := by decide +kernel
theorem dX3_findAncestors_17 : decode cX3_findAncestors 17 = .ok (.iload_n 1, 1) := by decide +kernel
theorem dX3_findAncestors_18 : decode cX3_findAncestors 18 = .ok (.iaload, 1) := by decide +kernel
theorem dX3_findAncestors_19 : decode cX3_findAncestors 19 = .ok (.istore_n 3, 1) := by decide +kernel
theorem dX3_findAncestors_20 : decode cX3_findAncestors 20 = .ok (.aload_n 0, 1) := by decide +kernel
theorem dX3_findAncestors_21 : decode cX3_findAncestors 21 = .ok (.getfield 14, 3) := by decide +kernel
theorem dX3_findAncestors_24 : decode cX3_findAncestors 24 = .ok (.iload_n 1, 1) := by decide +kernel
theorem dX3_findAncestors_25 : decode cX3_findAncestors 25 = .ok (.invokevirtual 92, 3) := by decide +kernel
theorem dX3_findAncestors_28 : decode cX3_findAncestors 28 = .ok (.aload_n 0, 1) := by decide +kernel
theorem dX3_findAncestors_29 : decode cX3_findAncestors 29 = .ok (.getfield 14, 3) := by decide +kernel
theorem dX3_findAncestors_32 : decode cX3_findAncestors 32 = .ok (.iload_n 1, 1) := by decide +kernel
theorem dX3_findAncestors_33 : decode cX3_findAncestors 33 = .ok (.iload_n 1, 1) := by decide +kernel
theorem dX3_findAncestors_34 : decode cX3_findAncestors 34 = .ok (.invokevirtual 95, 3) := by decide +kernel
theorem dX3_findAncestors_37 : decode cX3_findAncestors 37 = .ok (.iload_n 2, 1) := by decide +kernel
theorem dX3_findAncestors_38 : decode cX3_findAncestors 38 = .ok (.iconst (-1), 1) := by decide +kernel
theorem dX3_findAncestors_39 : decode cX3_findAncestors 39 = .ok (.if_icmp .eq 16, 3) := by decide +kernel
theorem dX3_findAncestors_42 : decode cX3_findAncestors 42 = .ok (.aload_n 0, 1) := by decide +kernel
theorem dX3_findAncestors_43 : decode cX3_findAncestors 43 = .ok (.getfield 14, 3) := by decide +kernel
theorem dX3_findAncestors_46 : decode cX3_findAncestors 46 = .ok (.iload_n 1, 1) := by decide +kernel
theorem dX3_findAncestors_47 : decode cX3_findAncestors 47 = .ok (.aload_n 0, 1) := by decide +kernel
theorem dX3_findAncestors_48 : decode cX3_findAncestors 48 = .ok (.getfield 14, 3) := by decide +kernel
theorem dX3_findAncestors_51 : decode cX3_findAncestors 51 = .ok (.iload_n 2, 1) := by decide +kernel
theorem dX3_findAncestors_52 : decode cX3_findAncestors 52 = .ok (.invokevirtual 99, 3) := by decide +kernel
theorem dX3_findAncestors_55 : decode cX3_findAncestors 55 = .ok (.iload_n 3, 1) := by decide +kernel
theorem dX3_findAncestors_56 : decode cX3_findAncestors 56 = .ok (.iconst (-1), 1) := by decide +kernel
theorem dX3_findAncestors_57 : decode cX3_findAncestors 57 = .ok (.if_icmp .eq 16, 3) := by decide +kernel
theorem dX3_findAncestors_60 : decode cX3_findAncestors 60 = .ok (.aload_n 0, 1) := by decide +kernel
theorem dX3_findAncestors_61 : decode cX3_findAncestors 61 = .ok (.getfield 14, 3) := by decide +kernel
theorem dX3_findAncestors_64 : decode cX3_findAncestors 64 = .ok (.iload_n 1, 1) := by decide +kernel
theorem dX3_findAncestors_65 : decode cX3_findAncestors 65 = .ok (.aload_n 0, 1) := by decide +kernel
theorem dX3_findAncestors_66 : decode cX3_findAncestors 66 = .ok (.getfield 14, 3) := by decide +kernel
theorem dX3_findAncestors_69 : decode cX3_findAncestors 69 = .ok (.iload_n 3, 1) := by decide +kernel
theorem dX3_findAncestors_70 : decode cX3_findAncestors 70 = .ok (.invokevirtual 99, 3) := by decide +kernel
theorem dX3_findAncestors_73 : decode cX3_findAncestors 73 = .ok (.aload_n 0, 1) := by decide +kernel
theorem dX3_findAncestors_74 : decode cX3_findAncestors 74 = .ok (.getfield 29, 3) := by decide +kernel
theorem dX3_findAncestors_77 : decode cX3_findAncestors 77 = .ok (.iload_n 1, 1) := by decide +kernel
theorem dX3_findAncestors_78 : decode cX3_findAncestors 78 = .ok (.iload_n 2, 1) := by decide +kernel
theorem dX3_findAncestors_79 : decode cX3_findAncestors 79 = .ok (.iconst (-1), 1) := by decide +kernel
theorem dX3_findAncestors_80 : decode cX3_findAncestors 80 = .ok (.if_icmp .ne 7, 3) := by decide +kernel
theorem dX3_findAncestors_83 : decode cX3_findAncestors 83 = .ok (.iconst 1, 1) := by decide +kernel
theorem dX3_findAncestors_84 : decode cX3_findAncestors 84 = .ok (.goto 11, 3) := by decide +kernel
theorem dX3_findAncestors_87 : decode cX3_findAncestors 87 = .ok (.aload_n 0, 1) := by decide +kernel
theorem dX3_findAncestors_88 : decode cX3_findAncestors 88 = .ok (.getfield 29, 3) := by decide +kernel
theorem dX3_findAncestors_91 : decode cX3_findAncestors 91 = .ok (.iload_n 2, 1) := by decide +kernel
theorem dX3_findAncestors_92 : decode cX3_findAncestors 92 = .ok (.iaload, 1) := by decide +kernel
theorem dX3_findAncestors_93 : decode cX3_findAncestors 93 = .ok (.iconst 1, 1) := by decide +kernel
theorem dX3_findAncestors_94 : decode cX3_findAncestors 94 = .ok (.iadd, 1) := by decide +kernel
theorem dX3_findAncestors_95 : decode cX3_findAncestors 95 = .ok (.iastore, 1) := by decide +kernel
theorem dX3_findAncestors_96 : decode cX3_findAncestors 96 = .ok (.return_, 1) := by decide +kernel
theorem dX3_countForks_0 : decode cX3_countForks 0 = .ok (.aload_n 0, 1) := by decide +kernel
theorem dX3_countForks_1 : decode cX3_countForks 1 = .ok (.getfield 49, 3) := by decide +kernel
theorem dX3_countForks_4 : decode cX3_countForks 4 = .ok (.getfield 103, 3) := by decide +kernel
theorem dX3_countForks_7 : decode cX3_countForks 7 = .ok (.iload_n 1, 1) := by decide +kernel
theorem dX3_countForks_8 : decode cX3_countForks 8 = .ok (.iaload, 1) := by decide +kernel
theorem dX3_countForks_9 : decode cX3_countForks 9 = .ok (.istore_n 2, 1) := by decide +kernel
theorem dX3_countForks_10 : decode cX3_countForks 10 = .ok (.aload_n 0, 1) := by decide +kernel
theorem dX3_countForks_11 : decode cX3_countForks 11 = .ok (.dup, 1) := by decide +kernel
theorem dX3_countForks_12 : decode cX3_countForks 12 = .ok (.getfield 57, 3) := by decide +kernel
theorem dX3_countForks_15 : decode cX3_countForks 15 = .ok (.aload_n 0, 1) := by decide +kernel
theorem dX3_countForks_16 : decode cX3_countForks 16 = .ok (.getfield 40, 3) := by decide +kernel
theorem dX3_countForks_19 : decode cX3_countForks 19 = .ok (.iload_n 2, 1) := by decide +kernel
theorem dX3_countForks_20 : decode cX3_countForks 20 = .ok (.iaload, 1) := by decide +kernel
theorem dX3_countForks_21 : decode cX3_countForks 21 = .ok (.aload_n 0, 1) := by decide +kernel
theorem dX3_countForks_22 : decode cX3_countForks 22 = .ok (.getfield 29, 3) := by decide +kernel
theorem dX3_countForks_25 : decode cX3_countForks 25 = .ok (.iload_n 1, 1) := by decide +kernel
theorem dX3_countForks_26 : decode cX3_countForks 26 = .ok (.iaload, 1) := by decide +kernel
theorem dX3_countForks_27 : decode cX3_countForks 27 = .ok (.iconst 1, 1) := by decide +kernel
theorem dX3_countForks_28 : decode cX3_countForks 28 = .ok (.isub, 1) := by decide +kernel
theorem dX3_countForks_29 : decode cX3_countForks 29 = .ok (.isub, 1) := by decide +kernel
theorem dX3_countForks_30 : decode cX3_countForks 30 = .ok (.iadd, 1) := by decide +kernel
theorem dX3_countForks_31 : decode cX3_countForks 31 = .ok (.putfield 57, 3) := by decide +kernel
theorem dX3_countForks_34 : decode cX3_countForks 34 = .ok (.aload_n 0, 1) := by decide +kernel
theorem dX3_countForks_35 : decode cX3_countForks 35 = .ok (.getfield 40, 3) := by decide +kernel
theorem dX3_countForks_38 : decode cX3_countForks 38 = .ok (.iload_n 2, 1) := by decide +kernel
theorem dX3_countForks_39 : decode cX3_countForks 39 = .ok (.dup2, 1) := by decide +kernel
theorem dX3_countForks_40 : decode cX3_countForks 40 = .ok (.iaload, 1) := by decide +kernel
theorem dX3_countForks_41 : decode cX3_countForks 41 = .ok (.iconst 1, 1) := by decide +kernel
theorem dX3_countForks_42 : decode cX3_countForks 42 = .ok (.iadd, 1) := by decide +kernel
theorem dX3_countForks_43 : decode cX3_countForks 43 = .ok (.iastore, 1) := by decide +kernel
theorem dX3_countForks_44 : decode cX3_countForks 44 = .ok (.return_, 1) := by decide +kernel
theorem dX3_findSeen_0 : decode cX3_findSeen 0 = .ok (.aload_n 0, 1) := by decide +kernel
theorem dX3_findSeen_1 : decode cX3_findSeen 1 = .ok (.iload_n 1, 1) := by decide +kernel
theorem dX3_findSeen_2 : decode cX3_findSeen 2 = .ok (.invokevirtual 106, 3) := by decide +kernel
theorem dX3_findSeen_5 : decode cX3_findSeen 5 = .ok (.aload_n 0, 1) := by decide +kernel
theorem dX3_findSeen_6 : decode cX3_findSeen 6 = .ok (.getfield 20, 3) := by decide +kernel
theorem dX3_findSeen_9 : decode cX3_findSeen 9 = .ok (.iload_n 1, 1) := by decide +kernel
theorem dX3_findSeen_10 : decode cX3_findSeen 10 = .ok (.invokevirtual 92, 3) := by decide +kernel
theorem dX3_findSeen_13 : decode cX3_findSeen 13 = .ok (.iconst 0, 1) := by decide +kernel
theorem dX3_findSeen_14 : decode cX3_findSeen 14 = .ok (.istore_n 2, 1) := by decide +kernel
theorem dX3_findSeen_15 : decode cX3_findSeen 15 = .ok (.iload_n 2, 1) := by decide +kernel
theorem dX3_findSeen_16 : decode cX3_findSeen 16 = .ok (.iload_n 1, 1) := by decide +kernel
theorem dX3_findSeen_17 : decode cX3_findSeen 17 = .ok (.if_icmp .gt 46, 3) := by decide +kernel
theorem dX3_findSeen_20 : decode cX3_findSeen 20 = .ok (.aload_n 0, 1) := by decide +kernel
theorem dX3_findSeen_21 : decode cX3_findSeen 21 = .ok (.getfield 14, 3) := by decide +kernel
theorem dX3_findSeen_24 : decode cX3_findSeen 24 = .ok (.iload_n 1, 1) := by decide +kernel
theorem dX3_findSeen_25 : decode cX3_findSeen 25 = .ok (.iload_n 2, 1) := by decide +kernel
theorem dX3_findSeen_26 : decode cX3_findSeen 26 = .ok (.invokevirtual 109, 3) := by decide +kernel
theorem dX3_findSeen_29 : decode cX3_findSeen 29 = .ok (.ifCond .eq 28, 3) := by decide +kernel
theorem dX3_findSeen_32 : decode cX3_findSeen 32 = .ok (.aload_n 0, 1) := by decide +kernel
theorem dX3_findSeen_33 : decode cX3_findSeen 33 = .ok (.aload_n 0, 1) := by decide +kernel
theorem dX3_findSeen_34 : decode cX3_findSeen 34 = .ok (.getfield 49, 3) := by decide +kernel
theorem dX3_findSeen_37 : decode cX3_findSeen 37 = .ok (.getfield 103, 3) := by decide +kernel
theorem dX3_findSeen_40 : decode cX3_findSeen 40 = .ok (.iload_n 2, 1) := by decide +kernel
theorem dX3_findSeen_41 : decode cX3_findSeen 41 = .ok (.iaload, 1) := by decide +kernel
theorem dX3_findSeen_42 : decode cX3_findSeen 42 = .ok (.invokevirtual 113, 3) := by decide +kernel
theorem dX3_findSeen_45 : decode cX3_findSeen 45 = .ok (.ifCond .ne 12, 3) := by decide +kernel
theorem dX3_findSeen_48 : decode cX3_findSeen 48 = .ok (.aload_n 0, 1) := by decide +kernel
theorem dX3_findSeen_49 : decode cX3_findSeen 49 = .ok (.getfield 20, 3) := by decide +kernel
theorem dX3_findSeen_52 : decode cX3_findSeen 52 = .ok (.iload_n 1, 1) := by decide +kernel
theorem dX3_findSeen_53 : decode cX3_findSeen 53 = .ok (.iload_n 2, 1) := by decide +kernel
theorem dX3_findSeen_54 : decode cX3_findSeen 54 = .ok (.invokevirtual 95, 3) := by decide +kernel
theorem dX3_findSeen_57 : decode cX3_findSeen 57 = .ok (.iinc 2 1, 3) := by decide +kernel
theorem dX3_findSeen_60 : decode cX3_findSeen 60 = .ok (.goto (-45), 3) := by decide +kernel
theorem dX3_findSeen_63 : decode cX3_findSeen 63 = .ok (.return_, 1) := by decide +kernel
theorem dX3_countAncestorsByCreator_0 : decode cX3_countAncestorsByCreator 0 = .ok (.aload_n 0, 1) := by decide +kernel
theorem dX3_countAncestorsByCreator_1 : decode cX3_countAncestorsByCreator 1 = .ok (.getfield 43, 3) := by decide +kernel
theorem dX3_countAncestorsByCreator_4 : decode cX3_countAncestorsByCreator 4 = .ok (.iconst 0, 1) := by decide +kernel
theorem dX3_countAncestorsByCreator_5 : decode cX3_countAncestorsByCreator 5 = .ok (.invokestatic 63, 3) := by decide +kernel
theorem dX3_countAncestorsByCreator_8 : decode cX3_countAncestorsByCreator 8 = .ok (.aload_n 0, 1) := by decide +kernel
theorem dX3_countAncestorsByCreator_9 : decode cX3_countAncestorsByCreator 9 = .ok (.getfield 46, 3) := by decide +kernel
theorem dX3_countAncestorsByCreator_12 : decode cX3_countAncestorsByCreator 12 = .ok (.iconst 0, 1) := by decide +kernel
theorem dX3_countAncestorsByCreator_13 : decode cX3_countAncestorsByCreator 13 = .ok (.invokestatic 63, 3) := by decide +kernel
theorem dX3_countAncestorsByCreator_16 : decode cX3_countAncestorsByCreator 16 = .ok (.iconst 0, 1) := by decide +kernel
theorem dX3_countAncestorsByCreator_17 : decode cX3_countAncestorsByCreator 17 = .ok (.istore_n 2, 1) := by decide +kernel
theorem dX3_countAncestorsByCreator_18 : decode cX3_countAncestorsByCreator 18 = .ok (.iload_n 2, 1) := by decide +kernel
theorem dX3_countAncestorsByCreator_19 : decode cX3_countAncestorsByCreator 19 = .ok (.iload_n 1, 1) := by decide +kernel
theorem dX3_countAncestorsByCreator_20 : decode cX3_countAncestorsByCreator 20 = .ok (.if_icmp .gt 62, 3) := by decide +kernel
theorem dX3_countAncestorsByCreator_23 : decode cX3_countAncestorsByCreator 23 = .ok (.aload_n 0, 1) := by decide +kernel
theorem dX3_countAncestorsByCreator_24 : decode cX3_countAncestorsByCreator 24 = .ok (.getfield 14, 3) := by decide +kernel
theorem dX3_countAncestorsByCreator_27 : decode cX3_countAncestorsByCreator 27 = .ok (.iload_n 1, 1) := by decide +kernel
theorem dX3_countAncestorsByCreator_28 : decode cX3_countAncestorsByCreator 28 = .ok (.iload_n 2, 1) := by decide +kernel
theorem dX3_countAncestorsByCreator_29 : decode cX3_countAncestorsByCreator 29 = .ok (.invokevirtual 109, 3) := by decide +kernel
theorem dX3_countAncestorsByCreator_32 : decode cX3_countAncestorsByCreator 32 = .ok (.ifCond .eq 44, 3) := by decide +kernel
theorem dX3_countAncestorsByCreator_35 : decode cX3_countAncestorsByCreator 35 = .ok (.aload_n 0, 1) := by decide +kernel
theorem dX3_countAncestorsByCreator_36 : decode cX3_countAncestorsByCreator 36 = .ok (.getfield 49, 3) := by decide +kernel
theorem dX3_countAncestorsByCreator_39 : decode cX3_countAncestorsByCreator 39 = .ok (.getfield 103, 3) := by decide +kernel
theorem dX3_countAncestorsByCreator_42 : decode cX3_countAncestorsByCreator 42 = .ok (.iload_n 2, 1) := by decide +kernel
theorem dX3_countAncestorsByCreator_43 : decode cX3_countAncestorsByCreator 43 = .ok (.iaload, 1) := by decide +kernel
theorem dX3_countAncestorsByCreator_44 : decode cX3_countAncestorsByCreator 44 = .ok (.istore_n 3, 1) := by decide +kernel
theorem dX3_countAncestorsByCreator_45 : decode cX3_countAncestorsByCreator 45 = .ok (.aload_n 0, 1) := by decide +kernel
theorem dX3_countAncestorsByCreator_46 : decode cX3_countAncestorsByCreator 46 = .ok (.getfield 43, 3) := by decide +kernel
theorem dX3_countAncestorsByCreator_49 : decode cX3_countAncestorsByCreator 49 = .ok (.iload_n 3, 1) := by decide +kernel
theorem dX3_countAncestorsByCreator_50 : decode cX3_countAncestorsByCreator 50 = .ok (.dup2, 1) := by decide +kernel
theorem dX3_countAncestorsByCreator_51 : decode cX3_countAncestorsByCreator 51 = .ok (.iaload, 1) := by decide +kernel
theorem dX3_countAncestorsByCreator_52 : decode cX3_countAncestorsByCreator 52 = .ok (.iconst 1, 1) := by decide +kernel
theorem dX3_countAncestorsByCreator_53 : decode cX3_countAncestorsByCreator 53 = .ok (.iadd, 1) := by decide +kernel
theorem dX3_countAncestorsByCreator_54 : decode cX3_countAncestorsByCreator 54 = .ok (.iastore, 1) := by decide +kernel
theorem dX3_countAncestorsByCreator_55 : decode cX3_countAncestorsByCreator 55 = .ok (.aload_n 0, 1) := by decide +kernel
theorem dX3_countAncestorsByCreator_56 : decode cX3_countAncestorsByCreator 56 = .ok (.getfield 46, 3) := by decide +kernel
theorem dX3_countAncestorsByCreator_59 : decode cX3_countAncestorsByCreator 59 = .ok (.iload_n 3, 1) := by decide +kernel
theorem dX3_countAncestorsByCreator_60 : decode cX3_countAncestorsByCreator 60 = .ok (.aload_n 0, 1) := by decide +kernel
theorem dX3_countAncestorsByCreator_61 : decode cX3_countAncestorsByCreator 61 = .ok (.getfield 46, 3) := by decide +kernel
theorem dX3_countAncestorsByCreator_64 : decode cX3_countAncestorsByCreator 64 = .ok (.iload_n 3, 1) := by decide +kernel
theorem dX3_countAncestorsByCreator_65 : decode cX3_countAncestorsByCreator 65 = .ok (.iaload, 1) := by decide +kernel
theorem dX3_countAncestorsByCreator_66 : decode cX3_countAncestorsByCreator 66 = .ok (.aload_n 0, 1) := by decide +kernel
theorem dX3_countAncestorsByCreator_67 : decode cX3_countAncestorsByCreator 67 = .ok (.getfield 29, 3) := by decide +kernel
theorem dX3_countAncestorsByCreator_70 : decode cX3_countAncestorsByCreator 70 = .ok (.iload_n 2, 1) := by decide +kernel
theorem dX3_countAncestorsByCreator_71 : decode cX3_countAncestorsByCreator 71 = .ok (.iaload, 1) := by decide +kernel
theorem dX3_countAncestorsByCreator_72 : decode cX3_countAncestorsByCreator 72 = .ok (.invokestatic 117, 3) := by decide +kernel
theorem dX3_countAncestorsByCreator_75 : decode cX3_countAncestorsByCreator 75 = .ok (.iastore, 1) := by decide +kernel
theorem dX3_countAncestorsByCreator_76 : decode cX3_countAncestorsByCreator 76 = .ok (.iinc 2 1, 3) := by decide +kernel
theorem dX3_countAncestorsByCreator_79 : decode cX3_countAncestorsByCreator 79 = .ok (.goto (-61), 3) := by decide +kernel
theorem dX3_countAncestorsByCreator_82 : decode cX3_countAncestorsByCreator 82 = .ok (.return_, 1) := by decide +kernel
theorem dX3_isForker_0 : decode cX3_isForker 0 = .ok (.aload_n 0, 1) := by decide +kernel
theorem dX3_isForker_1 : decode cX3_isForker 1 = .ok (.getfield 43, 3) := by decide +kernel
theorem dX3_isForker_4 : decode cX3_isForker 4 = .ok (.iload_n 1, 1) := by decide +kernel
theorem dX3_isForker_5 : decode cX3_isForker 5 = .ok (.iaload, 1) := by decide +kernel
theorem dX3_isForker_6 : decode cX3_isForker 6 = .ok (.aload_n 0, 1) := by decide +kernel
theorem dX3_isForker_7 : decode cX3_isForker 7 = .ok (.getfield 46, 3) := by decide +kernel
theorem dX3_isForker_10 : decode cX3_isForker 10 = .ok (.iload_n 1, 1) := by decide +kernel
theorem dX3_isForker_11 : decode cX3_isForker 11 = .ok (.iaload, 1) := by decide +kernel
theorem dX3_isForker_12 : decode cX3_isForker 12 = .ok (.if_icmp .le 7, 3) := by decide +kernel
theorem dX3_isForker_15 : decode cX3_isForker 15 = .ok (.iconst 1, 1) := by decide +kernel
theorem dX3_isForker_16 : decode cX3_isForker 16 = .ok (.goto 4, 3) := by decide +kernel
theorem dX3_isForker_19 : decode cX3_isForker 19 = .ok (.iconst 0, 1) := by decide +kernel
theorem dX3_isForker_20 : decode cX3_isForker 20 = .ok (.ireturn, 1) := by decide +kernel
theorem dX3_findStronglySeen_0 : decode cX3_findStronglySeen 0 = .ok (.aload_n 0, 1) := by decide +kernel
theorem dX3_findStronglySeen_1 : decode cX3_findStronglySeen 1 = .ok (.getfield 26, 3) := by decide +kernel
theorem dX3_findStronglySeen_4 : decode cX3_findStronglySeen 4 = .ok (.invokevirtual 123, 3) := by decide +kernel
theorem dX3_findStronglySeen_7 : decode cX3_findStronglySeen 7 = .ok (.iconst 0, 1) := by decide +kernel
theorem dX3_findStronglySeen_8 : decode cX3_findStronglySeen 8 = .ok (.istore_n 2, 1) := by decide +kernel
theorem dX3_findStronglySeen_9 : decode cX3_findStronglySeen 9 = .ok (.iload_n 2, 1) := by decide +kernel
theorem dX3_findStronglySeen_10 : decode cX3_findStronglySeen 10 = .ok (.iload_n 1, 1) := by decide +kernel
theorem dX3_findStronglySeen_11 : decode cX3_findStronglySeen 11 = .ok (.if_icmp .gt 42, 3) := by decide +kernel
theorem dX3_findStronglySeen_14 : decode cX3_findStronglySeen 14 = .ok (.aload_n 0, 1) := by decide +kernel
theorem dX3_findStronglySeen_15 : decode cX3_findStronglySeen 15 = .ok (.getfield 20, 3) := by decide +kernel
theorem dX3_findStronglySeen_18 : decode cX3_findStronglySeen 18 = .ok (.iload_n 1, 1) := by decide +kernel
theorem dX3_findStronglySeen_19 : decode cX3_findStronglySeen 19 = .ok (.iload_n 2, 1) := by decide +kernel
theorem dX3_findStronglySeen_20 : decode cX3_findStronglySeen 20 = .ok (.invokevirtual 109, 3) := by decide +kernel
theorem dX3_findStronglySeen_23 : decode cX3_findStronglySeen 23 = .ok (.ifCond .eq 24, 3) := by decide +kernel
theorem dX3_findStronglySeen_26 : decode cX3_findStronglySeen 26 = .ok (.aload_n 0, 1) := by decide +kernel
theorem dX3_findStronglySeen_27 : decode cX3_findStronglySeen 27 = .ok (.getfield 26, 3) := by decide +kernel
theorem dX3_findStronglySeen_30 : decode cX3_findStronglySeen 30 = .ok (.aload_n 0, 1) := by decide +kernel
theorem dX3_findStronglySeen_31 : decode cX3_findStronglySeen 31 = .ok (.getfield 49, 3) := by decide +kernel
theorem dX3_findStronglySeen_34 : decode cX3_findStronglySeen 34 = .ok (.getfield 103, 3) := by decide +kernel
theorem dX3_findStronglySeen_37 : decode cX3_findStronglySeen 37 = .ok (.iload_n 2, 1) := by decide +kernel
theorem dX3_findStronglySeen_38 : decode cX3_findStronglySeen 38 = .ok (.iaload, 1) := by decide +kernel
theorem dX3_findStronglySeen_39 : decode cX3_findStronglySeen 39 = .ok (.aload_n 0, 1) := by decide +kernel
theorem dX3_findStronglySeen_40 : decode cX3_findStronglySeen 40 = .ok (.getfield 20, 3) := by decide +kernel
theorem dX3_findStronglySeen_43 : decode cX3_findStronglySeen 43 = .ok (.iload_n 2, 1) := by decide +kernel
theorem dX3_findStronglySeen_44 : decode cX3_findStronglySeen 44 = .ok (.invokevirtual 99, 3) := by decide +kernel
theorem dX3_findStronglySeen_47 : decode cX3_findStronglySeen 47 = .ok (.iinc 2 1, 3) := by decide +kernel
theorem dX3_findStronglySeen_50 : decode cX3_findStronglySeen 50 = .ok (.goto (-41), 3) := by decide +kernel
theorem dX3_findStronglySeen_53 : decode cX3_findStronglySeen 53 = .ok (.aload_n 0, 1) := by decide +kernel
theorem dX3_findStronglySeen_54 : decode cX3_findStronglySeen 54 = .ok (.getfield 23, 3) := by decide +kernel
theorem dX3_findStronglySeen_57 : decode cX3_findStronglySeen 57 = .ok (.iload_n 1, 1) := by decide +kernel
theorem dX3_findStronglySeen_58 : decode cX3_findStronglySeen 58 = .ok (.invokevirtual 92, 3) := by decide +kernel
theorem dX3_findStronglySeen_61 : decode cX3_findStronglySeen 61 = .ok (.iconst 0, 1) := by decide +kernel
theorem dX3_findStronglySeen_62 : decode cX3_findStronglySeen 62 = .ok (.istore_n 2, 1) := by decide +kernel
theorem dX3_findStronglySeen_63 : decode cX3_findStronglySeen 63 = .ok (.iload_n 2, 1) := by decide +kernel
theorem dX3_findStronglySeen_64 : decode cX3_findStronglySeen 64 = .ok (.iload_n 1, 1) := by decide +kernel
theorem dX3_findStronglySeen_65 : decode cX3_findStronglySeen 65 = .ok (.if_icmp .gt 36, 3) := by decide +kernel
theorem dX3_findStronglySeen_68 : decode cX3_findStronglySeen 68 = .ok (.aload_n 0, 1) := by decide +kernel
theorem dX3_findStronglySeen_69 : decode cX3_findStronglySeen 69 = .ok (.getfield 26, 3) := by decide +kernel
theorem dX3_findStronglySeen_72 : decode cX3_findStronglySeen 72 = .ok (.iload_n 2, 1) := by decide +kernel
theorem dX3_findStronglySeen_73 : decode cX3_findStronglySeen 73 = .ok (.invokevirtual 126, 3) := by decide +kernel
theorem dX3_findStronglySeen_76 : decode cX3_findStronglySeen 76 = .ok (.aload_n 0, 1) := by decide +kernel
theorem dX3_findStronglySeen_77 : decode cX3_findStronglySeen 77 = .ok (.getfield 53, 3) := by decide +kernel
theorem dX3_findStronglySeen_80 : decode cX3_findStronglySeen 80 = .ok (.invokestatic 130, 3) := by decide +kernel
theorem dX3_findStronglySeen_83 : decode cX3_findStronglySeen 83 = .ok (.ifCond .eq 12, 3) := by decide +kernel
theorem dX3_findStronglySeen_86 : decode cX3_findStronglySeen 86 = .ok (.aload_n 0, 1) := by decide +kernel
theorem dX3_findStronglySeen_87 : decode cX3_findStronglySeen 87 = .ok (.getfield 23, 3) := by decide +kernel
theorem dX3_findStronglySeen_90 : decode cX3_findStronglySeen 90 = .ok (.iload_n 1, 1) := by decide +kernel
theorem dX3_findStronglySeen_91 : decode cX3_findStronglySeen 91 = .ok (.iload_n 2, 1) := by decide +kernel
theorem dX3_findStronglySeen_92 : decode cX3_findStronglySeen 92 = .ok (.invokevirtual 95, 3) := by decide +kernel
theorem dX3_findStronglySeen_95 : decode cX3_findStronglySeen 95 = .ok (.iinc 2 1, 3) := by decide +kernel
theorem dX3_findStronglySeen_98 : decode cX3_findStronglySeen 98 = .ok (.goto (-35), 3) := by decide +kernel
theorem dX3_findStronglySeen_101 : decode cX3_findStronglySeen 101 = .ok (.return_, 1) := by decide +kernel
theorem dX3_findRound_0 : decode cX3_findRound 0 = .ok (.aload_n 0, 1) := by decide +kernel
theorem dX3_findRound_1 : decode cX3_findRound 1 = .ok (.getfield 49, 3) := by decide +kernel
theorem dX3_findRound_4 : decode cX3_findRound 4 = .ok (.getfield 84, 3) := by decide +kernel
theorem dX3_findRound_7 : decode cX3_findRound 7 = .ok (.iload_n 1, 1) := by decide +kernel
theorem dX3_findRound_8 : decode cX3_findRound 8 = .ok (.iaload, 1) := by decide +kernel
theorem dX3_findRound_9 : decode cX3_findRound 9 = .ok (.istore_n 2, 1) := by decide +kernel
theorem dX3_findRound_10 : decode cX3_findRound 10 = .ok (.aload_n 0, 1) := by decide +kernel
theorem dX3_findRound_11 : decode cX3_findRound 11 = .ok (.getfield 49, 3) := by decide +kernel
theorem dX3_findRound_14 : decode cX3_findRound 14 = .ok (.getfield 89, 3) := by decide +kernel
theorem dX3_findRound_17 : decode cX3_findRound 17 = .ok (.iload_n 1, 1) := by decide +kernel
theorem dX3_findRound_18 : decode cX3_findRound 18 = .ok (.iaload, 1) := by decide +kernel
theorem dX3_findRound_19 : decode cX3_findRound 19 = .ok (.istore_n 3, 1) := by decide +kernel
theorem dX3_findRound_20 : decode cX3_findRound 20 = .ok (.iload_n 2, 1) := by decide +kernel
theorem dX3_findRound_21 : decode cX3_findRound 21 = .ok (.iconst (-1), 1) := by decide +kernel
theorem dX3_findRound_22 : decode cX3_findRound 22 = .ok (.if_icmp .ne 7, 3) := by decide +kernel
theorem dX3_findRound_25 : decode cX3_findRound 25 = .ok (.iconst 0, 1) := by decide +kernel
theorem dX3_findRound_26 : decode cX3_findRound 26 = .ok (.goto 9, 3) := by decide +kernel
theorem dX3_findRound_29 : decode cX3_findRound 29 = .ok (.aload_n 0, 1) := by decide +kernel
theorem dX3_findRound_30 : decode cX3_findRound 30 = .ok (.getfield 33, 3) := by decide +kernel
theorem dX3_findRound_33 : decode cX3_findRound 33 = .ok (.iload_n 2, 1) := by decide +kernel
theorem dX3_findRound_34 : decode cX3_findRound 34 = .ok (.iaload, 1) := by decide +kernel
theorem dX3_findRound_35 : decode cX3_findRound 35 = .ok (.iload_n 3, 1) := by decide +kernel
theorem dX3_findRound_36 : decode cX3_findRound 36 = .ok (.iconst (-1), 1) := by decide +kernel
theorem dX3_findRound_37 : decode cX3_findRound 37 = .ok (.if_icmp .ne 7, 3) := by decide +kernel
theorem dX3_findRound_40 : decode cX3_findRound 40 = .ok (.iconst 0, 1) := by decide +kernel
theorem dX3_findRound_41 : decode cX3_findRound 41 = .ok (.goto 9, 3) := by decide +kernel
theorem dX3_findRound_44 : decode cX3_findRound 44 = .ok (.aload_n 0, 1) := by decide +kernel
theorem dX3_findRound_45 : decode cX3_findRound 45 = .ok (.getfield 33, 3) := by decide +kernel
theorem dX3_findRound_48 : decode cX3_findRound 48 = .ok (.iload_n 3, 1) := by decide +kernel
theorem dX3_findRound_49 : decode cX3_findRound 49 = .ok (.iaload, 1) := by decide +kernel
theorem dX3_findRound_50 : decode cX3_findRound 50 = .ok (.invokestatic 117, 3) := by decide +kernel
theorem dX3_findRound_53 : decode cX3_findRound 53 = .ok (.istore 4, 2) := by decide +kernel
theorem dX3_findRound_55 : decode cX3_findRound 55 = .ok (.iload 4, 2) := by decide +kernel
theorem dX3_findRound_57 : decode cX3_findRound 57 = .ok (.ifCond .eq 13, 3) := by decide +kernel
theorem dX3_findRound_60 : decode cX3_findRound 60 = .ok (.aload_n 0, 1) := by decide +kernel
theorem dX3_findRound_61 : decode cX3_findRound 61 = .ok (.iload_n 1, 1) := by decide +kernel
theorem dX3_findRound_62 : decode cX3_findRound 62 = .ok (.iload 4, 2) := by decide +kernel
theorem dX3_findRound_64 : decode cX3_findRound 64 = .ok (.invokevirtual 133, 3) := by decide +kernel
theorem dX3_findRound_67 : decode cX3_findRound 67 = .ok (.ifCond .eq 7, 3) := by decide +kernel
theorem dX3_findRound_70 : decode cX3_findRound 70 = .ok (.iconst 1, 1) := by decide +kernel
theorem dX3_findRound_71 : decode cX3_findRound 71 = .ok (.goto 4, 3) := by decide +kernel
theorem dX3_findRound_74 : decode cX3_findRound 74 = .ok (.iconst 0, 1) := by decide +kernel
theorem dX3_findRound_75 : decode cX3_findRound 75 = .ok (.istore 5, 2) := by decide +kernel
theorem dX3_findRound_77 : decode cX3_findRound 77 = .ok (.aload_n 0, 1) := by decide +kernel
theorem dX3_findRound_78 : decode cX3_findRound 78 = .ok (.getfield 33, 3) := by decide +kernel
theorem dX3_findRound_81 : decode cX3_findRound 81 = .ok (.iload_n 1, 1) := by decide +kernel
theorem dX3_findRound_82 : decode cX3_findRound 82 = .ok (.iload 5, 2) := by decide +kernel
theorem dX3_findRound_84 : decode cX3_findRound 84 = .ok (.ifCond .eq 10, 3) := by decide +kernel
theorem dX3_findRound_87 : decode cX3_findRound 87 = .ok (.iload 4, 2) := by decide +kernel
theorem dX3_findRound_89 : decode cX3_findRound 89 = .ok (.iconst 1, 1) := by decide +kernel
theorem dX3_findRound_90 : decode cX3_findRound 90 = .ok (.iadd, 1) := by decide +kernel
theorem dX3_findRound_91 : decode cX3_findRound 91 = .ok (.goto 5, 3) := by decide +kernel
theorem dX3_findRound_94 : decode cX3_findRound 94 = .ok (.iload 4, 2) := by decide +kernel
theorem dX3_findRound_96 : decode cX3_findRound 96 = .ok (.iastore, 1) := by decide +kernel
theorem dX3_findRound_97 : decode cX3_findRound 97 = .ok (.aload_n 0, 1) := by decide +kernel
theorem dX3_findRound_98 : decode cX3_findRound 98 = .ok (.getfield 36, 3) := by decide +kernel
theorem dX3_findRound_101 : decode cX3_findRound 101 = .ok (.iload_n 1, 1) := by decide +kernel
theorem dX3_findRound_102 : decode cX3_findRound 102 = .ok (.iload_n 2, 1) := by decide +kernel
theorem dX3_findRound_103 : decode cX3_findRound 103 = .ok (.iconst (-1), 1) := by decide +kernel
theorem dX3_findRound_104 : decode cX3_findRound 104 = .ok (.if_icmp .eq 18, 3) := by decide +kernel
theorem dX3_findRound_107 : decode cX3_findRound 107 = .ok (.aload_n 0, 1) := by decide +kernel
theorem dX3_findRound_108 : decode cX3_findRound 108 = .ok (.getfield 33, 3) := by decide +kernel
theorem dX3_findRound_111 : decode cX3_findRound 111 = .ok (.iload_n 2, 1) := by decide +kernel
theorem dX3_findRound_112 : decode cX3_findRound 112 = .ok (.iaload, 1) := by decide +kernel
theorem dX3_findRound_113 : decode cX3_findRound 113 = .ok (.aload_n 0, 1) := by decide +kernel
theorem dX3_findRound_114 : decode cX3_findRound 114 = .ok (.getfield 33, 3) := by decide +kernel
theorem dX3_findRound_117 : decode cX3_findRound 117 = .ok (.iload_n 1, 1) := by decide +kernel
theorem dX3_findRound_118 : decode cX3_findRound 118 = .ok (.iaload, 1) := by decide +kernel
theorem dX3_findRound_119 : decode cX3_findRound 119 = .ok (.if_icmp .ge 7, 3) := by decide +kernel
theorem dX3_findRound_122 : decode cX3_findRound 122 = .ok (.iconst 1, 1) := by decide +kernel
theorem dX3_findRound_123 : decode cX3_findRound 123 = .ok (.goto 4, 3) := by decide +kernel
theorem dX3_findRound_126 : decode cX3_findRound 126 = .ok (.iconst 0, 1) := by decide +kernel
theorem dX3_findRound_127 : decode cX3_findRound 127 = .ok (.bastore, 1) := by decide +kernel
theorem dX3_findRound_128 : decode cX3_findRound 128 = .ok (.aload_n 0, 1) := by decide +kernel
theorem dX3_findRound_129 : decode cX3_findRound 129 = .ok (.aload_n 0, 1) := by decide +kernel
theorem dX3_findRound_130 : decode cX3_findRound 130 = .ok (.getfield 60, 3) := by decide +kernel
theorem dX3_findRound_133 : decode cX3_findRound 133 = .ok (.aload_n 0, 1) := by decide +kernel
theorem dX3_findRound_134 : decode cX3_findRound 134 = .ok (.getfield 33, 3) := by decide +kernel
theorem dX3_findRound_137 : decode cX3_findRound 137 = .ok (.iload_n 1, 1) := by decide +kernel
theorem dX3_findRound_138 : decode cX3_findRound 138 = .ok (.iaload, 1) := by decide +kernel
theorem dX3_findRound_139 : decode cX3_findRound 139 = .ok (.invokestatic 117, 3) := by decide +kernel
theorem dX3_findRound_142 : decode cX3_findRound 142 = .ok (.putfield 60, 3) := by decide +kernel
theorem dX3_findRound_145 : decode cX3_findRound 145 = .ok (.return_, 1) := by decide +kernel
theorem dX3_stronglySeesMostOf_0 : decode cX3_stronglySeesMostOf 0 = .ok (.iconst 0, 1) := by decide +kernel
theorem dX3_stronglySeesMostOf_1 : decode cX3_stronglySeesMostOf 1 = .ok (.istore_n 3, 1) := by decide +kernel
theorem dX3_stronglySeesMostOf_2 : decode cX3_stronglySeesMostOf 2 = .ok (.iconst 0, 1) := by decide +kernel
theorem dX3_stronglySeesMostOf_3 : decode cX3_stronglySeesMostOf 3 = .ok (.istore 4, 2) := by decide +kernel
theorem dX3_stronglySeesMostOf_5 : decode cX3_stronglySeesMostOf 5 = .ok (.iload 4, 2) := by decide +kernel
theorem dX3_stronglySeesMostOf_7 : decode cX3_stronglySeesMostOf 7 = .ok (.iload_n 1, 1) := by decide +kernel
theorem dX3_stronglySeesMostOf_8 : decode cX3_stronglySeesMostOf 8 = .ok (.if_icmp .ge 58, 3) := by decide +kernel
theorem dX3_stronglySeesMostOf_11 : decode cX3_stronglySeesMostOf 11 = .ok (.aload_n 0, 1) := by decide +kernel
theorem dX3_stronglySeesMostOf_12 : decode cX3_stronglySeesMostOf 12 = .ok (.getfield 36, 3) := by decide +kernel
theorem dX3_stronglySeesMostOf_15 : decode cX3_stronglySeesMostOf 15 = .ok (.iload 4, 2) := by decide +kernel
theorem dX3_stronglySeesMostOf_17 : decode cX3_stronglySeesMostOf 17 = .ok (.baload, 1) := by decide +kernel
theorem dX3_stronglySeesMostOf_18 : decode cX3_stronglySeesMostOf 18 = .ok (.ifCond .eq 42, 3) := by decide +kernel
theorem dX3_stronglySeesMostOf_21 : decode cX3_stronglySeesMostOf 21 = .ok (.aload_n 0, 1) := by decide +kernel
theorem dX3_stronglySeesMostOf_22 : decode cX3_stronglySeesMostOf 22 = .ok (.getfield 33, 3) := by decide +kernel
theorem dX3_stronglySeesMostOf_25 : decode cX3_stronglySeesMostOf 25 = .ok (.iload 4, 2) := by decide +kernel
theorem dX3_stronglySeesMostOf_27 : decode cX3_stronglySeesMostOf 27 = .ok (.iaload, 1) := by decide +kernel
theorem dX3_stronglySeesMostOf_28 : decode cX3_stronglySeesMostOf 28 = .ok (.iload_n 2, 1) := by decide +kernel
theorem dX3_stronglySeesMostOf_29 : decode cX3_stronglySeesMostOf 29 = .ok (.if_icmp .ne 31, 3) := by decide +kernel
theorem dX3_stronglySeesMostOf_32 : decode cX3_stronglySeesMostOf 32 = .ok (.aload_n 0, 1) := by decide +kernel
theorem dX3_stronglySeesMostOf_33 : decode cX3_stronglySeesMostOf 33 = .ok (.getfield 23, 3) := by decide +kernel
theorem dX3_stronglySeesMostOf_36 : decode cX3_stronglySeesMostOf 36 = .ok (.iload_n 1, 1) := by decide +kernel
theorem dX3_stronglySeesMostOf_37 : decode cX3_stronglySeesMostOf 37 = .ok (.iload 4, 2) := by decide +kernel
theorem dX3_stronglySeesMostOf_39 : decode cX3_stronglySeesMostOf 39 = .ok (.invokevirtual 109, 3) := by decide +kernel
theorem dX3_stronglySeesMostOf_42 : decode cX3_stronglySeesMostOf 42 = .ok (.ifCond .eq 18, 3) := by decide +kernel
theorem dX3_stronglySeesMostOf_45 : decode cX3_stronglySeesMostOf 45 = .ok (.iload_n 3, 1) := by decide +kernel
theorem dX3_stronglySeesMostOf_46 : decode cX3_stronglySeesMostOf 46 = .ok (.iconst 1, 1) := by decide +kernel
theorem dX3_stronglySeesMostOf_47 : decode cX3_stronglySeesMostOf 47 = .ok (.aload_n 0, 1) := by decide +kernel
theorem dX3_stronglySeesMostOf_48 : decode cX3_stronglySeesMostOf 48 = .ok (.getfield 49, 3) := by decide +kernel
theorem dX3_stronglySeesMostOf_51 : decode cX3_stronglySeesMostOf 51 = .ok (.getfield 103, 3) := by decide +kernel
theorem dX3_stronglySeesMostOf_54 : decode cX3_stronglySeesMostOf 54 = .ok (.iload 4, 2) := by decide +kernel
theorem dX3_stronglySeesMostOf_56 : decode cX3_stronglySeesMostOf 56 = .ok (.iaload, 1) := by decide +kernel
theorem dX3_stronglySeesMostOf_57 : decode cX3_stronglySeesMostOf 57 = .ok (.ishl, 1) := by decide +kernel
theorem dX3_stronglySeesMostOf_58 : decode cX3_stronglySeesMostOf 58 = .ok (.ior, 1) := by decide +kernel
theorem dX3_stronglySeesMostOf_59 : decode cX3_stronglySeesMostOf 59 = .ok (.istore_n 3, 1) := by decide +kernel
theorem dX3_stronglySeesMostOf_60 : decode cX3_stronglySeesMostOf 60 = .ok (.iinc 4 1, 3) := by decide +kernel
theorem dX3_stronglySeesMostOf_63 : decode cX3_stronglySeesMostOf 63 = .ok (.goto (-58), 3) := by decide +kernel
theorem dX3_stronglySeesMostOf_66 : decode cX3_stronglySeesMostOf 66 = .ok (.iload_n 3, 1) := by decide +kernel
theorem dX3_stronglySeesMostOf_67 : decode cX3_stronglySeesMostOf 67 = .ok (.invokestatic 136, 3) := by decide +kernel
theorem dX3_stronglySeesMostOf_70 : decode cX3_stronglySeesMostOf 70 = .ok (.aload_n 0, 1) := by decide +kernel
theorem dX3_stronglySeesMostOf_71 : decode cX3_stronglySeesMostOf 71 = .ok (.getfield 53, 3) := by decide +kernel
theorem dX3_stronglySeesMostOf_74 : decode cX3_stronglySeesMostOf 74 = .ok (.invokestatic 130, 3) := by decide +kernel
theorem dX3_stronglySeesMostOf_77 : decode cX3_stronglySeesMostOf 77 = .ok (.ireturn, 1) := by decide +kernel
theorem dX4_init_0 : decode cX4_init 0 = .ok (.aload_n 0, 1) := by decide +kernel
theorem dX4_init_1 : decode cX4_init 1 = .ok (.invokespecial 3, 3) := by decide +kernel
theorem dX4_init_4 : decode cX4_init 4 = .ok (.aload_n 0, 1) := by decide +kernel
theorem dX4_init_5 : decode cX4_init 5 = .ok (.bipush 32, 2) := by decide +kernel
theorem dX4_init_7 : decode cX4_init 7 = .ok (.newarray .int, 2) := by decide +kernel
theorem dX4_init_9 : decode cX4_init 9 = .ok (.putfield 11, 3) := by decide +kernel
theorem dX4_init_12 : decode cX4_init 12 = .ok (.aload_n 0, 1) := by decide +kernel
theorem dX4_init_13 : decode cX4_init 13 = .ok (.bipush 64, 2) := by decide +kernel
theorem dX4_init_15 : decode cX4_init 15 = .ok (.newarray .int, 2) := by decide +kernel
theorem dX4_init_17 : decode cX4_init 17 = .ok (.putfield 15, 3) := by decide +kernel
theorem dX4_init_20 : decode cX4_init 20 = .ok (.aload_n 0, 1) := by decide +kernel
theorem dX4_init_21 : decode cX4_init 21 = .ok (.bipush 8, 2) := by decide +kernel
theorem dX4_init_23 : decode cX4_init 23 = .ok (.newarray .int, 2) := by decide +kernel
theorem dX4_init_25 : decode cX4_init 25 = .ok (.putfield 18, 3) := by decide +kernel
theorem dX4_init_28 : decode cX4_init 28 = .ok (.return_, 1) := by decide +kernel
theorem dX4_start_0 : decode cX4_start 0 = .ok (.aload_n 0, 1) := by decide +kernel
theorem dX4_start_1 : decode cX4_start 1 = .ok (.getfield 11, 3) := by decide +kernel
theorem dX4_start_4 : decode cX4_start 4 = .ok (.iconst 0, 1) := by decide +kernel
theorem dX4_start_5 : decode cX4_start 5 = .ok (.invokestatic 21, 3) := by decide +kernel
theorem dX4_start_8 : decode cX4_start 8 = .ok (.aload_n 0, 1) := by decide +kernel
theorem dX4_start_9 : decode cX4_start 9 = .ok (.iconst 0, 1) := by decide +kernel
theorem dX4_start_10 : decode cX4_start 10 = .ok (.putfield 27, 3) := by decide +kernel
theorem dX4_start_13 : decode cX4_start 13 = .ok (.return_, 1) := by decide +kernel
theorem dX4_putOctet_0 : decode cX4_putOctet 0 = .ok (.aload_n 0, 1) := by decide +kernel
theorem dX4_putOctet_1 : decode cX4_putOctet 1 = .ok (.getfield 11, 3) := by decide +kernel
theorem dX4_putOctet_4 : decode cX4_putOctet 4 = .ok (.aload_n 0, 1) := by decide +kernel
theorem dX4_putOctet_5 : decode cX4_putOctet 5 = .ok (.getfield 27, 3) := by decide +kernel
theorem dX4_putOctet_8 : decode cX4_putOctet 8 = .ok (.iconst 2, 1) := by decide +kernel
theorem dX4_putOctet_9 : decode cX4_putOctet 9 = .ok (.ishr, 1) := by decide +kernel
theorem dX4_putOctet_10 : decode cX4_putOctet 10 = .ok (.dup2, 1) := by decide +kernel
theorem dX4_putOctet_11 : decode cX4_putOctet 11 = .ok (.iaload, 1) := by decide +kernel
theorem dX4_putOctet_12 : decode cX4_putOctet 12 = .ok (.iload_n 1, 1) := by decide +kernel
theorem dX4_putOctet_13 : decode cX4_putOctet 13 = .ok (.sipush 255, 3) := by decide +kernel
theorem dX4_putOctet_16 : decode cX4_putOctet 16 = .ok (.iand, 1) := by decide +kernel
theorem dX4_putOctet_17 : decode cX4_putOctet 17 = .ok (.bipush 24, 2) := by decide +kernel
theorem dX4_putOctet_19 : decode cX4_putOctet 19 = .ok (.bipush 8, 2) := by decide +kernel
theorem dX4_putOctet_21 : decode cX4_putOctet 21 = .ok (.aload_n 0, 1) := by decide +kernel
theorem dX4_putOctet_22 : decode cX4_putOctet 22 = .ok (.getfield 27, 3) := by decide +kernel
theorem dX4_putOctet_25 : decode cX4_putOctet 25 = .ok (.iconst 3, 1) := by decide +kernel
theorem dX4_putOctet_26 : decode cX4_putOctet 26 = .ok (.iand, 1) := by decide +kernel
theorem dX4_putOctet_27 : decode cX4_putOctet 27 = .ok (.imul, 1) := by decide +kernel
theorem dX4_putOctet_28 : decode cX4_putOctet 28 = .ok (.isub, 1) := by decide +kernel
theorem dX4_putOctet_29 : decode cX4_putOctet 29 = .ok (.ishl, 1) := by decide +kernel
theorem dX4_putOctet_30 : decode cX4_putOctet 30 = .ok (.ior, 1) := by decide +kernel
theorem dX4_putOctet_31 : decode cX4_putOctet 31 = .ok (.iastore, 1) := by decide +kernel
theorem dX4_putOctet_32 : decode cX4_putOctet 32 = .ok (.aload_n 0, 1) := by decide +kernel
theorem dX4_putOctet_33 : decode cX4_putOctet 33 = .ok (.dup, 1) := by decide +kernel
theorem dX4_putOctet_34 : decode cX4_putOctet 34 = .ok (.getfield 27, 3) := by decide +kernel
theorem dX4_putOctet_37 : decode cX4_putOctet 37 = .ok (.iconst 1, 1) := by decide +kernel
theorem dX4_putOctet_38 : decode cX4_putOctet 38 = .ok (.iadd, 1) := by decide +kernel
theorem dX4_putOctet_39 : decode cX4_putOctet 39 = .ok (.putfield 27, 3) := by decide +kernel
theorem dX4_putOctet_42 : decode cX4_putOctet 42 = .ok (.return_, 1) := by decide +kernel
theorem dX4_putInt_0 : decode cX4_putInt 0 = .ok (.bipush 24, 2) := by decide +kernel
theorem dX4_putInt_2 : decode cX4_putInt 2 = .ok (.istore_n 2, 1) := by decide +kernel
theorem dX4_putInt_3 : decode cX4_putInt 3 = .ok (.iload_n 2, 1) := by decide +kernel
theorem dX4_putInt_4 : decode cX4_putInt 4 = .ok (.ifCond .lt 16, 3) := by decide +kernel
theorem dX4_putInt_7 : decode cX4_putInt 7 = .ok (.aload_n 0, 1) := by decide +kernel
theorem dX4_putInt_8 : decode cX4_putInt 8 = .ok (.iload_n 1, 1) := by decide +kernel
theorem dX4_putInt_9 : decode cX4_putInt 9 = .ok (.iload_n 2, 1) := by decide +kernel
theorem dX4_putInt_10 : decode cX4_putInt 10 = .ok (.iushr, 1) := by decide +kernel
theorem dX4_putInt_11 : decode cX4_putInt 11 = .ok (.invokevirtual 31, 3) := by decide +kernel
theorem dX4_putInt_14 : decode cX4_putInt 14 = .ok (.iinc 2 (-8), 3) := by decide +kernel
theorem dX4_putInt_17 : decode cX4_putInt 17 = .ok (.goto (-14), 3) := by decide +kernel
theorem dX4_putInt_20 : decode cX4_putInt 20 = .ok (.return_, 1) := by decide +kernel
theorem dX4_putLong_0 : decode cX4_putLong 0 = .ok (.aload_n 0, 1) := by decide +kernel
theorem dX4_putLong_1 : decode cX4_putLong 1 = .ok (.lload_n 1, 1) := by decide +kernel
theorem dX4_putLong_2 : decode cX4_putLong 2 = .ok (.bipush 32, 2) := by decide +kernel
theorem dX4_putLong_4 : decode cX4_putLong 4 = .ok (.lushr, 1) := by decide +kernel
theorem dX4_putLong_5 : decode cX4_putLong 5 = .ok (.l2i, 1) := by decide +kernel
theorem dX4_putLong_6 : decode cX4_putLong 6 = .ok (.invokevirtual 35, 3) := by decide +kernel
theorem dX4_putLong_9 : decode cX4_putLong 9 = .ok (.aload_n 0, 1) := by decide +kernel
theorem dX4_putLong_10 : decode cX4_putLong 10 = .ok (.lload_n 1, 1) := by decide +kernel
theorem dX4_putLong_11 : decode cX4_putLong 11 = .ok (.l2i, 1) := by decide +kernel
theorem dX4_putLong_12 : decode cX4_putLong 12 = .ok (.invokevirtual 35, 3) := by decide +kernel
theorem dX4_putLong_15 : decode cX4_putLong 15 = .ok (.return_, 1) := by decide +kernel
theorem dX4_finishInto_0 : decode cX4_finishInto 0 = .ok (.bipush 8, 2) := by decide +kernel
theorem dX4_finishInto_2 : decode cX4_finishInto 2 = .ok (.aload_n 0, 1) := by decide +kernel
theorem dX4_finishInto_3 : decode cX4_finishInto 3 = .ok (.getfield 27, 3) := by decide +kernel
theorem dX4_finishInto_6 : decode cX4_finishInto 6 = .ok (.imul, 1) := by decide +kernel
theorem dX4_finishInto_7 : decode cX4_finishInto 7 = .ok (.istore_n 3, 1) := by decide +kernel
theorem dX4_finishInto_8 : decode cX4_finishInto 8 = .ok (.aload_n 0, 1) := by decide +kernel
theorem dX4_finishInto_9 : decode cX4_finishInto 9 = .ok (.sipush 128, 3) := by decide +kernel
theorem dX4_finishInto_12 : decode cX4_finishInto 12 = .ok (.invokevirtual 31, 3) := by decide +kernel
theorem dX4_finishInto_15 : decode cX4_finishInto 15 = .ok (.aload_n 0, 1) := by decide +kernel
theorem dX4_finishInto_16 : decode cX4_finishInto 16 = .ok (.getfield 11, 3) := by decide +kernel
theorem dX4_finishInto_19 : decode cX4_finishInto 19 = .ok (.bipush 31, 2) := by decide +kernel
theorem dX4_finishInto_21 : decode cX4_finishInto 21 = .ok (.iload_n 3, 1) := by decide +kernel
theorem dX4_finishInto_22 : decode cX4_finishInto 22 = .ok (.iastore, 1) := by decide +kernel
theorem dX4_finishInto_23 : decode cX4_finishInto 23 = .ok (.getstatic 38, 3) := by decide +kernel
theorem dX4_finishInto_26 : decode cX4_finishInto 26 = .ok (.iconst 0, 1) := by decide +kernel
theorem dX4_finishInto_27 : decode cX4_finishInto 27 = .ok (.aload_n 0, 1) := by decide +kernel
theorem dX4_finishInto_28 : decode cX4_finishInto 28 = .ok (.getfield 18, 3) := by decide +kernel
theorem dX4_finishInto_31 : decode cX4_finishInto 31 = .ok (.iconst 0, 1) := by decide +kernel
theorem dX4_finishInto_32 : decode cX4_finishInto 32 = .ok (.bipush 8, 2) := by decide +kernel
theorem dX4_finishInto_34 : decode cX4_finishInto 34 = .ok (.invokestatic 41, 3) := by decide +kernel
theorem dX4_finishInto_37 : decode cX4_finishInto 37 = .ok (.aload_n 0, 1) := by decide +kernel
theorem dX4_finishInto_38 : decode cX4_finishInto 38 = .ok (.iconst 0, 1) := by decide +kernel
theorem dX4_finishInto_39 : decode cX4_finishInto 39 = .ok (.invokevirtual 47, 3) := by decide +kernel
theorem dX4_finishInto_42 : decode cX4_finishInto 42 = .ok (.aload_n 0, 1) := by decide +kernel
theorem dX4_finishInto_43 : decode cX4_finishInto 43 = .ok (.invokevirtual 50, 3) := by decide +kernel
theorem dX4_finishInto_46 : decode cX4_finishInto 46 = .ok (.aload_n 0, 1) := by decide +kernel
theorem dX4_finishInto_47 : decode cX4_finishInto 47 = .ok (.bipush 16, 2) := by decide +kernel
theorem dX4_finishInto_49 : decode cX4_finishInto 49 = .ok (.invokevirtual 47, 3) := by decide +kernel
theorem dX4_finishInto_52 : decode cX4_finishInto 52 = .ok (.aload_n 0, 1) := by decide +kernel
theorem dX4_finishInto_53 : decode cX4_finishInto 53 = .ok (.invokevirtual 50, 3) := by decide +kernel
theorem dX4_finishInto_56 : decode cX4_finishInto 56 = .ok (.aload_n 0, 1) := by decide +kernel
theorem dX4_finishInto_57 : decode cX4_finishInto 57 = .ok (.getfield 18, 3) := by decide +kernel
theorem dX4_finishInto_60 : decode cX4_finishInto 60 = .ok (.iconst 0, 1) := by decide +kernel
theorem dX4_finishInto_61 : decode cX4_finishInto 61 = .ok (.aload_n 1, 1) := by decide +kernel
theorem dX4_finishInto_62 : decode cX4_finishInto 62 = .ok (.iload_n 2, 1) := by decide +kernel
theorem dX4_finishInto_63 : decode cX4_finishInto 63 = .ok (.bipush 8, 2) := by decide +kernel
theorem dX4_finishInto_65 : decode cX4_finishInto 65 = .ok (.invokestatic 41, 3) := by decide +kernel
theorem dX4_finishInto_68 : decode cX4_finishInto 68 = .ok (.return_, 1) := by decide +kernel
theorem dX4_fillSchedule_0 : decode cX4_fillSchedule 0 = .ok (.aload_n 0, 1) := by decide +kernel
theorem dX4_fillSchedule_1 : decode cX4_fillSchedule 1 = .ok (.getfield 11, 3) := by decide +kernel
theorem dX4_fillSchedule_4 : decode cX4_fillSchedule 4 = .ok (.iload_n 1, 1) := by decide +kernel
theorem dX4_fillSchedule_5 : decode cX4_fillSchedule 5 = .ok (.aload_n 0, 1) := by decide +kernel
theorem dX4_fillSchedule_6 : decode cX4_fillSchedule 6 = .ok (.getfield 15, 3) := by decide +kernel
theorem dX4_fillSchedule_9 : decode cX4_fillSchedule 9 = .ok (.iconst 0, 1) := by decide +kernel
theorem dX4_fillSchedule_10 : decode cX4_fillSchedule 10 = .ok (.bipush 16, 2) := by decide +kernel
theorem dX4_fillSchedule_12 : decode cX4_fillSchedule 12 = .ok (.invokestatic 41, 3) := by decide +kernel
theorem dX4_fillSchedule_15 : decode cX4_fillSchedule 15 = .ok (.bipush 16, 2) := by decide +kernel
theorem dX4_fillSchedule_17 : decode cX4_fillSchedule 17 = .ok (.istore_n 2, 1) := by decide +kernel
theorem dX4_fillSchedule_18 : decode cX4_fillSchedule 18 = .ok (.iload_n 2, 1) := by decide +kernel
theorem dX4_fillSchedule_19 : decode cX4_fillSchedule 19 = .ok (.bipush 64, 2) := by decide +kernel
theorem dX4_fillSchedule_21 : decode cX4_fillSchedule 21 = .ok (.if_icmp .ge 102, 3) := by decide +kernel
theorem dX4_fillSchedule_24 : decode cX4_fillSchedule 24 = .ok (.aload_n 0, 1) := by decide +kernel
theorem dX4_fillSchedule_25 : decode cX4_fillSchedule 25 = .ok (.getfield 15, 3) := by decide +kernel
theorem dX4_fillSchedule_28 : decode cX4_fillSchedule 28 = .ok (.iload_n 2, 1) := by decide +kernel
theorem dX4_fillSchedule_29 : decode cX4_fillSchedule 29 = .ok (.bipush 15, 2) := by decide +kernel
theorem dX4_fillSchedule_31 : decode cX4_fillSchedule 31 = .ok (.isub, 1) := by decide +kernel
theorem dX4_fillSchedule_32 : decode cX4_fillSchedule 32 = .ok (.iaload, 1) := by decide +kernel
theorem dX4_fillSchedule_33 : decode cX4_fillSchedule 33 = .ok (.istore_n 3, 1) := by decide +kernel
theorem dX4_fillSchedule_34 : decode cX4_fillSchedule 34 = .ok (.aload_n 0, 1) := by decide +kernel
theorem dX4_fillSchedule_35 : decode cX4_fillSchedule 35 = .ok (.getfield 15, 3) := by decide +kernel
theorem dX4_fillSchedule_38 : decode cX4_fillSchedule 38 = .ok (.iload_n 2, 1) := by decide +kernel
theorem dX4_fillSchedule_39 : decode cX4_fillSchedule 39 = .ok (.iconst 2, 1) := by decide +kernel
theorem dX4_fillSchedule_40 : decode cX4_fillSchedule 40 = .ok (.isub, 1) := by decide +kernel
theorem dX4_fillSchedule_41 : decode cX4_fillSchedule 41 = .ok (.iaload, 1) := by decide +kernel
theorem dX4_fillSchedule_42 : decode cX4_fillSchedule 42 = .ok (.istore 4, 2) := by decide +kernel
theorem dX4_fillSchedule_44 : decode cX4_fillSchedule 44 = .ok (.iload_n 3, 1) := by decide +kernel
theorem dX4_fillSchedule_45 : decode cX4_fillSchedule 45 = .ok (.bipush 7, 2) := by decide +kernel
theorem dX4_fillSchedule_47 : decode cX4_fillSchedule 47 = .ok (.invokestatic 53, 3) := by decide +kernel
theorem dX4_fillSchedule_50 : decode cX4_fillSchedule 50 = .ok (.iload_n 3, 1) := by decide +kernel
theorem dX4_fillSchedule_51 : decode cX4_fillSchedule 51 = .ok (.bipush 18, 2) := by decide +kernel
theorem dX4_fillSchedule_53 : decode cX4_fillSchedule 53 = .ok (.invokestatic 53, 3) := by decide +kernel
theorem dX4_fillSchedule_56 : decode cX4_fillSchedule 56 = .ok (.ixor, 1) := by decide +kernel
theorem dX4_fillSchedule_57 : decode cX4_fillSchedule 57 = .ok (.iload_n 3, 1) := by decide +kernel
theorem dX4_fillSchedule_58 : decode cX4_fillSchedule 58 = .ok (.iconst 3, 1) := by decide +kernel
theorem dX4_fillSchedule_59 : decode cX4_fillSchedule 59 = .ok (.iushr, 1) := by decide +kernel
theorem dX4_fillSchedule_60 : decode cX4_fillSchedule 60 = .ok (.ixor, 1) := by decide +kernel
theorem dX4_fillSchedule_61 : decode cX4_fillSchedule 61 = .ok (.istore 5, 2) := by decide +kernel
theorem dX4_fillSchedule_63 : decode cX4_fillSchedule 63 = .ok (.iload 4, 2) := by decide +kernel
theorem dX4_fillSchedule_65 : decode cX4_fillSchedule 65 = .ok (.bipush 17, 2) := by decide +kernel
theorem dX4_fillSchedule_67 : decode cX4_fillSchedule 67 = .ok (.invokestatic 53, 3) := by decide +kernel
theorem dX4_fillSchedule_70 : decode cX4_fillSchedule 70 = .ok (.iload 4, 2) := by decide +kernel
theorem dX4_fillSchedule_72 : decode cX4_fillSchedule 72 = .ok (.bipush 19, 2) := by decide +kernel
theorem dX4_fillSchedule_74 : decode cX4_fillSchedule 74 = .ok (.invokestatic 53, 3) := by decide +kernel
theorem dX4_fillSchedule_77 : decode cX4_fillSchedule 77 = .ok (.ixor, 1) := by decide +kernel
theorem dX4_fillSchedule_78 : decode cX4_fillSchedule 78 = .ok (.iload 4, 2) := by decide +kernel
theorem dX4_fillSchedule_80 : decode cX4_fillSchedule 80 = .ok (.bipush 10, 2) := by decide +kernel
theorem dX4_fillSchedule_82 : decode cX4_fillSchedule 82 = .ok (.iushr, 1) := by decide +kernel
theorem dX4_fillSchedule_83 : decode cX4_fillSchedule 83 = .ok (.ixor, 1) := by decide +kernel
theorem dX4_fillSchedule_84 : decode cX4_fillSchedule 84 = .ok (.istore 6, 2) := by decide +kernel
theorem dX4_fillSchedule_86 : decode cX4_fillSchedule 86 = .ok (.aload_n 0, 1) := by decide +kernel
theorem dX4_fillSchedule_87 : decode cX4_fillSchedule 87 = .ok (.getfield 15, 3) := by decide +kernel
theorem dX4_fillSchedule_90 : decode cX4_fillSchedule 90 = .ok (.iload_n 2, 1) := by decide +kernel
theorem dX4_fillSchedule_91 : decode cX4_fillSchedule 91 = .ok (.aload_n 0, 1) := by decide +kernel
theorem dX4_fillSchedule_92 : decode cX4_fillSchedule 92 = .ok (.getfield 15, 3) := by decide +kernel
theorem dX4_fillSchedule_95 : decode cX4_fillSchedule 95 = .ok (.iload_n 2, 1) := by decide +kernel
theorem dX4_fillSchedule_96 : decode cX4_fillSchedule 96 = .ok (.bipush 16, 2) := by decide +kernel
theorem dX4_fillSchedule_98 : decode cX4_fillSchedule 98 = .ok (.isub, 1) := by decide +kernel
theorem dX4_fillSchedule_99 : decode cX4_fillSchedule 99 = .ok (.iaload, 1) := by decide +kernel
theorem dX4_fillSchedule_100 : decode cX4_fillSchedule 100 = .ok (.iload 5, 2) := by decide +kernel
theorem dX4_fillSchedule_102 : decode cX4_fillSchedule 102 = .ok (.iadd, 1) := by decide +kernel
theorem dX4_fillSchedule_103 : decode cX4_fillSchedule 103 = .ok (.aload_n 0, 1) := by decide +kernel
theorem dX4_fillSchedule_104 : decode cX4_fillSchedule 104 = .ok (.getfield 15, 3) := by decide +kernel
theorem dX4_fillSchedule_107 : decode cX4_fillSchedule 107 = .ok (.iload_n 2, 1) := by decide +kernel
theorem dX4_fillSchedule_108 : decode cX4_fillSchedule 108 = .ok (.bipush 7, 2) := by decide +kernel
theorem dX4_fillSchedule_110 : decode cX4_fillSchedule 110 = .ok (.isub, 1) := by decide +kernel
theorem dX4_fillSchedule_111 : decode cX4_fillSchedule 111 = .ok (.iaload, 1) := by decide +kernel
theorem dX4_fillSchedule_112 : decode cX4_fillSchedule 112 = .ok (.iadd, 1) := by decide +kernel
theorem dX4_fillSchedule_113 : decode cX4_fillSchedule 113 = .ok (.iload 6, 2) := by decide +kernel
theorem dX4_fillSchedule_115 : decode cX4_fillSchedule 115 = .ok (.iadd, 1) := by decide +kernel
theorem dX4_fillSchedule_116 : decode cX4_fillSchedule 116 = .ok (.iastore, 1) := by decide +kernel
theorem dX4_fillSchedule_117 : decode cX4_fillSchedule 117 = .ok (.iinc 2 1, 3) := by decide +kernel
theorem dX4_fillSchedule_120 : decode cX4_fillSchedule 120 = .ok (.goto (-102), 3) := by decide +kernel
theorem dX4_fillSchedule_123 : decode cX4_fillSchedule 123 = .ok (.return_, 1) := by decide +kernel
theorem dX4_mixSchedule_0 : decode cX4_mixSchedule 0 = .ok (.aload_n 0, 1) := by decide +kernel
theorem dX4_mixSchedule_1 : decode cX4_mixSchedule 1 = .ok (.getfield 18, 3) := by decide +kernel
theorem dX4_mixSchedule_4 : decode cX4_mixSchedule 4 = .ok (.iconst 0, 1) := by decide +kernel
theorem dX4_mixSchedule_5 : decode cX4_mixSchedule 5 = .ok (.iaload, 1) := by decide +kernel
theorem dX4_mixSchedule_6 : decode cX4_mixSchedule 6 = .ok (.istore_n 1, 1) := by decide +kernel
theorem dX4_mixSchedule_7 : decode cX4_mixSchedule 7 = .ok (.aload_n 0, 1) := by decide +kernel
theorem dX4_mixSchedule_8 : decode cX4_mixSchedule 8 = .ok (.getfield 18, 3) := by decide +kernel
theorem dX4_mixSchedule_11 : decode cX4_mixSchedule 11 = .ok (.iconst 1, 1) := by decide +kernel
theorem dX4_mixSchedule_12 : decode cX4_mixSchedule 12 = .ok (.iaload, 1) := by decide +kernel
theorem dX4_mixSchedule_13 : decode cX4_mixSchedule 13 = .ok (.istore_n 2, 1) := by decide +kernel
theorem dX4_mixSchedule_14 : decode cX4_mixSchedule 14 = .ok (.aload_n 0, 1) := by decide +kernel
theorem dX4_mixSchedule_15 : decode cX4_mixSchedule 15 = .ok (.getfield 18, 3) := by decide +kernel
theorem dX4_mixSchedule_18 : decode cX4_mixSchedule 18 = .ok (.iconst 2, 1) := by decide +kernel
theorem dX4_mixSchedule_19 : decode cX4_mixSchedule 19 = .ok (.iaload, 1) := by decide +kernel
theorem dX4_mixSchedule_20 : decode cX4_mixSchedule 20 = .ok (.istore_n 3, 1) := by decide +kernel
theorem dX4_mixSchedule_21 : decode cX4_mixSchedule 21 = .ok (.aload_n 0, 1) := by decide +kernel
theorem dX4_mixSchedule_22 : decode cX4_mixSchedule 22 = .ok (.getfield 18, 3) := by decide +kernel
theorem dX4_mixSchedule_25 : decode cX4_mixSchedule 25 = .ok (.iconst 3, 1) := by decide +kernel
theorem dX4_mixSchedule_26 : decode cX4_mixSchedule 26 = .ok (.iaload, 1) := by decide +kernel
theorem dX4_mixSchedule_27 : decode cX4_mixSchedule 27 = .ok (.istore 4, 2) := by decide +kernel
theorem dX4_mixSchedule_29 : decode cX4_mixSchedule 29 = .ok (.aload_n 0, 1) := by decide +kernel
theorem dX4_mixSchedule_30 : decode cX4_mixSchedule 30 = .ok (.getfield 18, 3) := by decide +kernel
theorem dX4_mixSchedule_33 : decode cX4_mixSchedule 33 = .ok (.iconst 4, 1) := by decide +kernel
theorem dX4_mixSchedule_34 : decode cX4_mixSchedule 34 = .ok (.iaload, 1) := by decide +kernel
theorem dX4_mixSchedule_35 : decode cX4_mixSchedule 35 = .ok (.istore 5, 2) := by decide +kernel
theorem dX4_mixSchedule_37 : decode cX4_mixSchedule 37 = .ok (.aload_n 0, 1) := by decide +kernel
theorem dX4_mixSchedule_38 : decode cX4_mixSchedule 38 = .ok (.getfield 18, 3) := by decide +kernel
theorem dX4_mixSchedule_41 : decode cX4_mixSchedule 41 = .ok (.iconst 5, 1) := by decide +kernel
theorem dX4_mixSchedule_42 : decode cX4_mixSchedule 42 = .ok (.iaload, 1) := by decide +kernel
theorem dX4_mixSchedule_43 : decode cX4_mixSchedule 43 = .ok (.istore 6, 2) := by decide +kernel
theorem dX4_mixSchedule_45 : decode cX4_mixSchedule 45 = .ok (.aload_n 0, 1) := by decide +kernel
theorem dX4_mixSchedule_46 : decode cX4_mixSchedule 46 = .ok (.getfield 18, 3) := by decide +kernel
theorem dX4_mixSchedule_49 : decode cX4_mixSchedule 49 = .ok (.bipush 6, 2) := by decide +kernel
theorem dX4_mixSchedule_51 : decode cX4_mixSchedule 51 = .ok (.iaload, 1) := by decide +kernel
theorem dX4_mixSchedule_52 : decode cX4_mixSchedule 52 = .ok (.istore 7, 2) := by decide +kernel
theorem dX4_mixSchedule_54 : decode cX4_mixSchedule 54 = .ok (.aload_n 0, 1) := by decide +kernel
theorem dX4_mixSchedule_55 : decode cX4_mixSchedule 55 = .ok (.getfield 18, 3) := by decide +kernel
theorem dX4_mixSchedule_58 : decode cX4_mixSchedule 58 = .ok (.bipush 7, 2) := by decide +kernel
theorem dX4_mixSchedule_60 : decode cX4_mixSchedule 60 = .ok (.iaload, 1) := by decide +kernel
theorem dX4_mixSchedule_61 : decode cX4_mixSchedule 61 = .ok (.istore 8, 2) := by decide +kernel
theorem dX4_mixSchedule_63 : decode cX4_mixSchedule 63 = .ok (.iconst 0, 1) := by decide +kernel
theorem dX4_mixSchedule_64 : decode cX4_mixSchedule 64 = .ok (.istore 9, 2) := by decide +kernel
theorem dX4_mixSchedule_66 : decode cX4_mixSchedule 66 = .ok (.iload 9, 2) := by decide +kernel
theorem dX4_mixSchedule_68 : decode cX4_mixSchedule 68 = .ok (.bipush 64, 2) := by decide +kernel
theorem dX4_mixSchedule_70 : decode cX4_mixSchedule 70 = .ok (.if_icmp .ge 143, 3) := by decide +kernel
theorem dX4_mixSchedule_73 : decode cX4_mixSchedule 73 = .ok (.iload 5, 2) := by decide +kernel
theorem dX4_mixSchedule_75 : decode cX4_mixSchedule 75 = .ok (.bipush 6, 2) := by decide +kernel
theorem dX4_mixSchedule_77 : decode cX4_mixSchedule 77 = .ok (.invokestatic 53, 3) := by decide +kernel
theorem dX4_mixSchedule_80 : decode cX4_mixSchedule 80 = .ok (.iload 5, 2) := by decide +kernel
theorem dX4_mixSchedule_82 : decode cX4_mixSchedule 82 = .ok (.bipush 11, 2) := by decide +kernel
theorem dX4_mixSchedule_84 : decode cX4_mixSchedule 84 = .ok (.invokestatic 53, 3) := by decide +kernel
theorem dX4_mixSchedule_87 : decode cX4_mixSchedule 87 = .ok (.ixor, 1) := by decide +kernel
theorem dX4_mixSchedule_88 : decode cX4_mixSchedule 88 = .ok (.iload 5, 2) := by decide +kernel
theorem dX4_mixSchedule_90 : decode cX4_mixSchedule 90 = .ok (.bipush 25, 2) := by decide +kernel
theorem dX4_mixSchedule_92 : decode cX4_mixSchedule 92 = .ok (.invokestatic 53, 3) := by decide +kernel
theorem dX4_mixSchedule_95 : decode cX4_mixSchedule 95 = .ok (.ixor, 1) := by decide +kernel
theorem dX4_mixSchedule_96 : decode cX4_mixSchedule 96 = .ok (.istore 10, 2) := by decide +kernel
theorem dX4_mixSchedule_98 : decode cX4_mixSchedule 98 = .ok (.iload 5, 2) := by decide +kernel
theorem dX4_mixSchedule_100 : decode cX4_mixSchedule 100 = .ok (.iload 6, 2) := by decide +kernel
theorem dX4_mixSchedule_102 : decode cX4_mixSchedule 102 = .ok (.iand, 1) := by decide +kernel
theorem dX4_mixSchedule_103 : decode cX4_mixSchedule 103 = .ok (.iload 5, 2) := by decide +kernel
theorem dX4_mixSchedule_105 : decode cX4_mixSchedule 105 = .ok (.iconst (-1), 1) := by decide +kernel
theorem dX4_mixSchedule_106 : decode cX4_mixSchedule 106 = .ok (.ixor, 1) := by decide +kernel
theorem dX4_mixSchedule_107 : decode cX4_mixSchedule 107 = .ok (.iload 7, 2) := by decide +kernel
theorem dX4_mixSchedule_109 : decode cX4_mixSchedule 109 = .ok (.iand, 1) := by decide +kernel
theorem dX4_mixSchedule_110 : decode cX4_mixSchedule 110 = .ok (.ixor, 1) := by decide +kernel
theorem dX4_mixSchedule_111 : decode cX4_mixSchedule 111 = .ok (.istore 11, 2) := by decide +kernel
theorem dX4_mixSchedule_113 : decode cX4_mixSchedule 113 = .ok (.iload 8, 2) := by decide +kernel
theorem dX4_mixSchedule_115 : decode cX4_mixSchedule 115 = .ok (.iload 10, 2) := by decide +kernel
theorem dX4_mixSchedule_117 : decode cX4_mixSchedule 117 = .ok (.iadd, 1) := by decide +kernel
theorem dX4_mixSchedule_118 : decode cX4_mixSchedule 118 = .ok (.iload 11, 2) := by decide +kernel
theorem dX4_mixSchedule_120 : decode cX4_mixSchedule 120 = .ok (.iadd, 1) := by decide +kernel
theorem dX4_mixSchedule_121 : decode cX4_mixSchedule 121 = .ok (.getstatic 57, 3) := by decide +kernel
theorem dX4_mixSchedule_124 : decode cX4_mixSchedule 124 = .ok (.iload 9, 2) := by decide +kernel
theorem dX4_mixSchedule_126 : decode cX4_mixSchedule 126 = .ok (.iaload, 1) := by decide +kernel
theorem dX4_mixSchedule_127 : decode cX4_mixSchedule 127 = .ok (.iadd, 1) := by decide +kernel
theorem dX4_mixSchedule_128 : decode cX4_mixSchedule 128 = .ok (.aload_n 0, 1) := by decide +kernel
theorem dX4_mixSchedule_129 : decode cX4_mixSchedule 129 = .ok (.getfield 15, 3) := by decide +kernel
theorem dX4_mixSchedule_132 : decode cX4_mixSchedule 132 = .ok (.iload 9, 2) := by decide +kernel
theorem dX4_mixSchedule_134 : decode cX4_mixSchedule 134 = .ok (.iaload, 1) := by decide +kernel
theorem dX4_mixSchedule_135 : decode cX4_mixSchedule 135 = .ok (.iadd, 1) := by decide +kernel
theorem dX4_mixSchedule_136 : decode cX4_mixSchedule 136 = .ok (.istore 12, 2) := by decide +kernel
theorem dX4_mixSchedule_138 : decode cX4_mixSchedule 138 = .ok (.iload_n 1, 1) := by decide +kernel
theorem dX4_mixSchedule_139 : decode cX4_mixSchedule 139 = .ok (.iconst 2, 1) := by decide +kernel
theorem dX4_mixSchedule_140 : decode cX4_mixSchedule 140 = .ok (.invokestatic 53, 3) := by decide +kernel
theorem dX4_mixSchedule_143 : decode cX4_mixSchedule 143 = .ok (.iload_n 1, 1) := by decide +kernel
theorem dX4_mixSchedule_144 : decode cX4_mixSchedule 144 = .ok (.bipush 13, 2) := by decide +kernel
theorem dX4_mixSchedule_146 : decode cX4_mixSchedule 146 = .ok (.invokestatic 53, 3) := by decide +kernel
theorem dX4_mixSchedule_149 : decode cX4_mixSchedule 149 = .ok (.ixor, 1) := by decide +kernel
theorem dX4_mixSchedule_150 : decode cX4_mixSchedule 150 = .ok (.iload_n 1, 1) := by decide +kernel
theorem dX4_mixSchedule_151 : decode cX4_mixSchedule 151 = .ok (.bipush 22, 2) := by decide +kernel
theorem dX4_mixSchedule_153 : decode cX4_mixSchedule 153 = .ok (.invokestatic 53, 3) := by decide +kernel
theorem dX4_mixSchedule_156 : decode cX4_mixSchedule 156 = .ok (.ixor, 1) := by decide +kernel
theorem dX4_mixSchedule_157 : decode cX4_mixSchedule 157 = .ok (.istore 13, 2) := by decide +kernel
theorem dX4_mixSchedule_159 : decode cX4_mixSchedule 159 = .ok (.iload_n 1, 1) := by decide +kernel
theorem dX4_mixSchedule_160 : decode cX4_mixSchedule 160 = .ok (.iload_n 2, 1) := by decide +kernel
theorem dX4_mixSchedule_161 : decode cX4_mixSchedule 161 = .ok (.iand, 1) := by decide +kernel
theorem dX4_mixSchedule_162 : decode cX4_mixSchedule 162 = .ok (.iload_n 1, 1) := by decide +kernel
theorem dX4_mixSchedule_163 : decode cX4_mixSchedule 163 = .ok (.iload_n 3, 1) := by decide +kernel
theorem dX4_mixSchedule_164 : decode cX4_mixSchedule 164 = .ok (.iand, 1) := by decide +kernel
theorem dX4_mixSchedule_165 : decode cX4_mixSchedule 165 = .ok (.ixor, 1) := by decide +kernel
theorem dX4_mixSchedule_166 : decode cX4_mixSchedule 166 = .ok (.iload_n 2, 1) := by decide +kernel
theorem dX4_mixSchedule_167 : decode cX4_mixSchedule 167 = .ok (.iload_n 3, 1) := by decide +kernel
theorem dX4_mixSchedule_168 : decode cX4_mixSchedule 168 = .ok (.iand, 1) := by decide +kernel
theorem dX4_mixSchedule_169 : decode cX4_mixSchedule 169 = .ok (.ixor, 1) := by decide +kernel
theorem dX4_mixSchedule_170 : decode cX4_mixSchedule 170 = .ok (.istore 14, 2) := by decide +kernel
theorem dX4_mixSchedule_172 : decode cX4_mixSchedule 172 = .ok (.iload 7, 2) := by decide +kernel
theorem dX4_mixSchedule_174 : decode cX4_mixSchedule 174 = .ok (.istore 8, 2) := by decide +kernel
theorem dX4_mixSchedule_176 : decode cX4_mixSchedule 176 = .ok (.iload 6, 2) := by decide +kernel
theorem dX4_mixSchedule_178 : decode cX4_mixSchedule 178 = .ok (.istore 7, 2) := by decide +kernel
theorem dX4_mixSchedule_180 : decode cX4_mixSchedule 180 = .ok (.iload 5, 2) := by decide +kernel
theorem dX4_mixSchedule_182 : decode cX4_mixSchedule 182 = .ok (.istore 6, 2) := by decide +kernel
theorem dX4_mixSchedule_184 : decode cX4_mixSchedule 184 = .ok (.iload 4, 2) := by decide +kernel
theorem dX4_mixSchedule_186 : decode cX4_mixSchedule 186 = .ok (.iload 12, 2) := by decide +kernel
theorem dX4_mixSchedule_188 : decode cX4_mixSchedule 188 = .ok (.iadd, 1) := by decide +kernel
theorem dX4_mixSchedule_189 : decode cX4_mixSchedule 189 = .ok (.istore 5, 2) := by decide +kernel
theorem dX4_mixSchedule_191 : decode cX4_mixSchedule 191 = .ok (.iload_n 3, 1) := by decide +kernel
theorem dX4_mixSchedule_192 : decode cX4_mixSchedule 192 = .ok (.istore 4, 2) := by decide +kernel
theorem dX4_mixSchedule_194 : decode cX4_mixSchedule 194 = .ok (.iload_n 2, 1) := by decide +kernel
theorem dX4_mixSchedule_195 : decode cX4_mixSchedule 195 = .ok (.istore_n 3, 1) := by decide +kernel
theorem dX4_mixSchedule_196 : decode cX4_mixSchedule 196 = .ok (.iload_n 1, 1) := by decide +kernel
theorem dX4_mixSchedule_197 : decode cX4_mixSchedule 197 = .ok (.istore_n 2, 1) := by decide +kernel
theorem dX4_mixSchedule_198 : decode cX4_mixSchedule 198 = .ok (.iload 12, 2) := by decide +kernel
theorem dX4_mixSchedule_200 : decode cX4_mixSchedule 200 = .ok (.iload 13, 2) := by decide +kernel
theorem dX4_mixSchedule_202 : decode cX4_mixSchedule 202 = .ok (.iadd, 1) := by decide +kernel
theorem dX4_mixSchedule_203 : decode cX4_mixSchedule 203 = .ok (.iload 14, 2) := by decide +kernel
theorem dX4_mixSchedule_205 : decode cX4_mixSchedule 205 = .ok (.iadd, 1) := by decide +kernel
theorem dX4_mixSchedule_206 : decode cX4_mixSchedule 206 = .ok (.istore_n 1, 1) := by decide +kernel
theorem dX4_mixSchedule_207 : decode cX4_mixSchedule 207 = .ok (.iinc 9 1, 3) := by decide +kernel
theorem dX4_mixSchedule_210 : decode cX4_mixSchedule 210 = .ok (.goto (-144), 3) := by decide +kernel
theorem dX4_mixSchedule_213 : decode cX4_mixSchedule 213 = .ok (.aload_n 0, 1) := by decide +kernel
theorem dX4_mixSchedule_214 : decode cX4_mixSchedule 214 = .ok (.getfield 18, 3) := by decide +kernel
theorem dX4_mixSchedule_217 : decode cX4_mixSchedule 217 = .ok (.iconst 0, 1) := by decide +kernel
theorem dX4_mixSchedule_218 : decode cX4_mixSchedule 218 = .ok (.dup2, 1) := by decide +kernel
theorem dX4_mixSchedule_219 : decode cX4_mixSchedule 219 = .ok (.iaload, 1) := by decide +kernel
theorem dX4_mixSchedule_220 : decode cX4_mixSchedule 220 = .ok (.iload_n 1, 1) := by decide +kernel
theorem dX4_mixSchedule_221 : decode cX4_mixSchedule 221 = .ok (.iadd, 1) := by decide +kernel
theorem dX4_mixSchedule_222 : decode cX4_mixSchedule 222 = .ok (.iastore, 1) := by decide +kernel
theorem dX4_mixSchedule_223 : decode cX4_mixSchedule 223 = .ok (.aload_n 0, 1) := by decide +kernel
theorem dX4_mixSchedule_224 : decode cX4_mixSchedule 224 = .ok (.getfield 18, 3) := by decide +kernel
theorem dX4_mixSchedule_227 : decode cX4_mixSchedule 227 = .ok (.iconst 1, 1) := by decide +kernel
theorem dX4_mixSchedule_228 : decode cX4_mixSchedule 228 = .ok (.dup2, 1) := by decide +kernel
theorem dX4_mixSchedule_229 : decode cX4_mixSchedule 229 = .ok (.iaload, 1) := by decide +kernel
theorem dX4_mixSchedule_230 : decode cX4_mixSchedule 230 = .ok (.iload_n 2, 1) := by decide +kernel
theorem dX4_mixSchedule_231 : decode cX4_mixSchedule 231 = .ok (.iadd, 1) := by decide +kernel
theorem dX4_mixSchedule_232 : decode cX4_mixSchedule 232 = .ok (.iastore, 1) := by decide +kernel
theorem dX4_mixSchedule_233 : decode cX4_mixSchedule 233 = .ok (.aload_n 0, 1) := by decide +kernel
theorem dX4_mixSchedule_234 : decode cX4_mixSchedule 234 = .ok (.getfield 18, 3) := by decide +kernel
theorem dX4_mixSchedule_237 : decode cX4_mixSchedule 237 = .ok (.iconst 2, 1) := by decide +kernel
theorem dX4_mixSchedule_238 : decode cX4_mixSchedule 238 = .ok (.dup2, 1) := by decide +kernel
theorem dX4_mixSchedule_239 : decode cX4_mixSchedule 239 = .ok (.iaload, 1) := by decide +kernel
theorem dX4_mixSchedule_240 : decode cX4_mixSchedule 240 = .ok (.iload_n 3, 1) := by decide +kernel
theorem dX4_mixSchedule_241 : decode cX4_mixSchedule 241 = .ok (.iadd, 1) := by decide +kernel
theorem dX4_mixSchedule_242 : decode cX4_mixSchedule 242 = .ok (.iastore, 1) := by decide +kernel
theorem dX4_mixSchedule_243 : decode cX4_mixSchedule 243 = .ok (.aload_n 0, 1) := by decide +kernel
theorem dX4_mixSchedule_244 : decode cX4_mixSchedule 244 = .ok (.getfield 18, 3) := by decide +kernel
theorem dX4_mixSchedule_247 : decode cX4_mixSchedule 247 = .ok (.iconst 3, 1) := by decide +kernel
theorem dX4_mixSchedule_248 : decode cX4_mixSchedule 248 = .ok (.dup2, 1) := by decide +kernel
theorem dX4_mixSchedule_249 : decode cX4_mixSchedule 249 = .ok (.iaload, 1) := by decide +kernel
theorem dX4_mixSchedule_250 : decode cX4_mixSchedule 250 = .ok (.iload 4, 2) := by decide +kernel
theorem dX4_mixSchedule_252 : decode cX4_mixSchedule 252 = .ok (.iadd, 1) := by decide +kernel
theorem dX4_mixSchedule_253 : decode cX4_mixSchedule 253 = .ok (.iastore, 1) := by decide +kernel
theorem dX4_mixSchedule_254 : decode cX4_mixSchedule 254 = .ok (.aload_n 0, 1) := by decide +kernel
theorem dX4_mixSchedule_255 : decode cX4_mixSchedule 255 = .ok (.getfield 18, 3) := by decide +kernel
theorem dX4_mixSchedule_258 : decode cX4_mixSchedule 258 = .ok (.iconst 4, 1) := by decide +kernel
theorem dX4_mixSchedule_259 : decode cX4_mixSchedule 259 = .ok (.dup2, 1) := by decide +kernel
theorem dX4_mixSchedule_260 : decode cX4_mixSchedule 260 = .ok (.iaload, 1) := by decide +kernel
theorem dX4_mixSchedule_261 : decode cX4_mixSchedule 261 = .ok (.iload 5, 2) := by decide +kernel
theorem dX4_mixSchedule_263 : decode cX4_mixSchedule 263 = .ok (.iadd, 1) := by decide +kernel
theorem dX4_mixSchedule_264 : decode cX4_mixSchedule 264 = .ok (.iastore, 1) := by decide +kernel
theorem dX4_mixSchedule_265 : decode cX4_mixSchedule 265 = .ok (.aload_n 0, 1) := by decide +kernel
theorem dX4_mixSchedule_266 : decode cX4_mixSchedule 266 = .ok (.getfield 18, 3) := by decide +kernel
theorem dX4_mixSchedule_269 : decode cX4_mixSchedule 269 = .ok (.iconst 5, 1) := by decide +kernel
theorem dX4_mixSchedule_270 : decode cX4_mixSchedule 270 = .ok (.dup2, 1) := by decide +kernel
theorem dX4_mixSchedule_271 : decode cX4_mixSchedule 271 = .ok (.iaload, 1) := by decide +kernel
theorem dX4_mixSchedule_272 : decode cX4_mixSchedule 272 = .ok (.iload 6, 2) := by decide +kernel
theorem dX4_mixSchedule_274 : decode cX4_mixSchedule 274 = .ok (.iadd, 1) := by decide +kernel
theorem dX4_mixSchedule_275 : decode cX4_mixSchedule 275 = .ok (.iastore, 1) := by decide +kernel
theorem dX4_mixSchedule_276 : decode cX4_mixSchedule 276 = .ok (.aload_n 0, 1) := by decide +kernel
theorem dX4_mixSchedule_277 : decode cX4_mixSchedule 277 = .ok (.getfield 18, 3) := by decide +kernel
theorem dX4_mixSchedule_280 : decode cX4_mixSchedule 280 = .ok (.bipush 6, 2) := by decide +kernel
theorem dX4_mixSchedule_282 : decode cX4_mixSchedule 282 = .ok (.dup2, 1) := by decide +kernel
theorem dX4_mixSchedule_283 : decode cX4_mixSchedule 283 = .ok (.iaload, 1) := by decide +kernel
theorem dX4_mixSchedule_284 : decode cX4_mixSchedule 284 = .ok (.iload 7, 2) := by decide +kernel
theorem dX4_mixSchedule_286 : decode cX4_mixSchedule 286 = .ok (.iadd, 1) := by decide +kernel
theorem dX4_mixSchedule_287 : decode cX4_mixSchedule 287 = .ok (.iastore, 1) := by decide +kernel
theorem dX4_mixSchedule_288 : decode cX4_mixSchedule 288 = .ok (.aload_n 0, 1) := by decide +kernel
theorem dX4_mixSchedule_289 : decode cX4_mixSchedule 289 = .ok (.getfield 18, 3) := by decide +kernel
theorem dX4_mixSchedule_292 : decode cX4_mixSchedule 292 = .ok (.bipush 7, 2) := by decide +kernel
theorem dX4_mixSchedule_294 : decode cX4_mixSchedule 294 = .ok (.dup2, 1) := by decide +kernel
theorem dX4_mixSchedule_295 : decode cX4_mixSchedule 295 = .ok (.iaload, 1) := by decide +kernel
theorem dX4_mixSchedule_296 : decode cX4_mixSchedule 296 = .ok (.iload 8, 2) := by decide +kernel
theorem dX4_mixSchedule_298 : decode cX4_mixSchedule 298 = .ok (.iadd, 1) := by decide +kernel
theorem dX4_mixSchedule_299 : decode cX4_mixSchedule 299 = .ok (.iastore, 1) := by decide +kernel
theorem dX4_mixSchedule_300 : decode cX4_mixSchedule 300 = .ok (.return_, 1) := by decide +kernel
theorem dX4_turned_0 : decode cX4_turned 0 = .ok (.iload_n 0, 1) := by decide +kernel
theorem dX4_turned_1 : decode cX4_turned 1 = .ok (.iload_n 1, 1) := by decide +kernel
theorem dX4_turned_2 : decode cX4_turned 2 = .ok (.iushr, 1) := by decide +kernel
theorem dX4_turned_3 : decode cX4_turned 3 = .ok (.iload_n 0, 1) := by decide +kernel
theorem dX4_turned_4 : decode cX4_turned 4 = .ok (.bipush 32, 2) := by decide +kernel
theorem dX4_turned_6 : decode cX4_turned 6 = .ok (.iload_n 1, 1) := by decide +kernel
theorem dX4_turned_7 : decode cX4_turned 7 = .ok (.isub, 1) := by decide +kernel
theorem dX4_turned_8 : decode cX4_turned 8 = .ok (.ishl, 1) := by decide +kernel
theorem dX4_turned_9 : decode cX4_turned 9 = .ok (.ior, 1) := by decide +kernel
theorem dX4_turned_10 : decode cX4_turned 10 = .ok (.ireturn, 1) := by decide +kernel
theorem dX5_init_0 : decode cX5_init 0 = .ok (.aload_n 0, 1) := by decide +kernel
theorem dX5_init_1 : decode cX5_init 1 = .ok (.invokespecial 3, 3) := by decide +kernel
theorem dX5_init_4 : decode cX5_init 4 = .ok (.aload_n 0, 1) := by decide +kernel
theorem dX5_init_5 : decode cX5_init 5 = .ok (.sipush 240, 3) := by decide +kernel
theorem dX5_init_8 : decode cX5_init 8 = .ok (.newarray .int, 2) := by decide +kernel
theorem dX5_init_10 : decode cX5_init 10 = .ok (.putfield 9, 3) := by decide +kernel
theorem dX5_init_13 : decode cX5_init 13 = .ok (.aload_n 0, 1) := by decide +kernel
theorem dX5_init_14 : decode cX5_init 14 = .ok (.sipush 240, 3) := by decide +kernel
theorem dX5_init_17 : decode cX5_init 17 = .ok (.newarray .int, 2) := by decide +kernel
theorem dX5_init_19 : decode cX5_init 19 = .ok (.putfield 15, 3) := by decide +kernel
theorem dX5_init_22 : decode cX5_init 22 = .ok (.aload_n 0, 1) := by decide +kernel
theorem dX5_init_23 : decode cX5_init 23 = .ok (.sipush 240, 3) := by decide +kernel
theorem dX5_init_26 : decode cX5_init 26 = .ok (.newarray .long, 2) := by decide +kernel
theorem dX5_init_28 : decode cX5_init 28 = .ok (.putfield 18, 3) := by decide +kernel
theorem dX5_init_31 : decode cX5_init 31 = .ok (.aload_n 0, 1) := by decide +kernel
theorem dX5_init_32 : decode cX5_init 32 = .ok (.sipush 240, 3) := by decide +kernel
theorem dX5_init_35 : decode cX5_init 35 = .ok (.newarray .int, 2) := by decide +kernel
theorem dX5_init_37 : decode cX5_init 37 = .ok (.putfield 22, 3) := by decide +kernel
theorem dX5_init_40 : decode cX5_init 40 = .ok (.aload_n 0, 1) := by decide +kernel
theorem dX5_init_41 : decode cX5_init 41 = .ok (.sipush 240, 3) := by decide +kernel
theorem dX5_init_44 : decode cX5_init 44 = .ok (.newarray .int, 2) := by decide +kernel
theorem dX5_init_46 : decode cX5_init 46 = .ok (.putfield 25, 3) := by decide +kernel
theorem dX5_init_49 : decode cX5_init 49 = .ok (.aload_n 0, 1) := by decide +kernel
theorem dX5_init_50 : decode cX5_init 50 = .ok (.bipush 8, 2) := by decide +kernel
theorem dX5_init_52 : decode cX5_init 52 = .ok (.newarray .int, 2) := by decide +kernel
theorem dX5_init_54 : decode cX5_init 54 = .ok (.putfield 28, 3) := by decide +kernel
theorem dX5_init_57 : decode cX5_init 57 = .ok (.aload_n 0, 1) := by decide +kernel
theorem dX5_init_58 : decode cX5_init 58 = .ok (.sipush 1928, 3) := by decide +kernel
theorem dX5_init_61 : decode cX5_init 61 = .ok (.newarray .int, 2) := by decide +kernel
theorem dX5_init_63 : decode cX5_init 63 = .ok (.putfield 31, 3) := by decide +kernel
theorem dX5_init_66 : decode cX5_init 66 = .ok (.aload_n 0, 1) := by decide +kernel
theorem dX5_init_67 : decode cX5_init 67 = .ok (.sipush 241, 3) := by decide +kernel
theorem dX5_init_70 : decode cX5_init 70 = .ok (.newarray .int, 2) := by decide +kernel
theorem dX5_init_72 : decode cX5_init 72 = .ok (.putfield 34, 3) := by decide +kernel
theorem dX5_init_75 : decode cX5_init 75 = .ok (.aload_n 0, 1) := by decide +kernel
theorem dX5_init_76 : decode cX5_init 76 = .ok (.sipush 1928, 3) := by decide +kernel
theorem dX5_init_79 : decode cX5_init 79 = .ok (.newarray .int, 2) := by decide +kernel
theorem dX5_init_81 : decode cX5_init 81 = .ok (.putfield 37, 3) := by decide +kernel
theorem dX5_init_84 : decode cX5_init 84 = .ok (.aload_n 0, 1) := by decide +kernel
theorem dX5_init_85 : decode cX5_init 85 = .ok (.sipush 241, 3) := by decide +kernel
theorem dX5_init_88 : decode cX5_init 88 = .ok (.newarray .boolean, 2) := by decide +kernel
theorem dX5_init_90 : decode cX5_init 90 = .ok (.putfield 40, 3) := by decide +kernel
theorem dX5_init_93 : decode cX5_init 93 = .ok (.aload_n 0, 1) := by decide +kernel
theorem dX5_init_94 : decode cX5_init 94 = .ok (.bipush 8, 2) := by decide +kernel
theorem dX5_init_96 : decode cX5_init 96 = .ok (.newarray .long, 2) := by decide +kernel
theorem dX5_init_98 : decode cX5_init 98 = .ok (.putfield 44, 3) := by decide +kernel
theorem dX5_init_101 : decode cX5_init 101 = .ok (.aload_n 0, 1) := by decide +kernel
theorem dX5_init_102 : decode cX5_init 102 = .ok (.iload_n 1, 1) := by decide +kernel
theorem dX5_init_103 : decode cX5_init 103 = .ok (.putfield 47, 3) := by decide +kernel
theorem dX5_init_106 : decode cX5_init 106 = .ok (.aload_n 0, 1) := by decide +kernel
theorem dX5_init_107 : decode cX5_init 107 = .ok (.aload_n 2, 1) := by decide +kernel
theorem dX5_init_108 : decode cX5_init 108 = .ok (.putfield 51, 3) := by decide +kernel
theorem dX5_init_111 : decode cX5_init 111 = .ok (.aload_n 0, 1) := by decide +kernel
theorem dX5_init_112 : decode cX5_init 112 = .ok (.aload_n 3, 1) := by decide +kernel
theorem dX5_init_113 : decode cX5_init 113 = .ok (.putfield 55, 3) := by decide +kernel
theorem dX5_init_116 : decode cX5_init 116 = .ok (.aload_n 0, 1) := by decide +kernel
theorem dX5_init_117 : decode cX5_init 117 = .ok (.aload 4, 2) := by decide +kernel
theorem dX5_init_119 : decode cX5_init 119 = .ok (.putfield 59, 3) := by decide +kernel
theorem dX5_init_122 : decode cX5_init 122 = .ok (.return_, 1) := by decide +kernel
theorem dX5_findAll_0 : decode cX5_findAll 0 = .ok (.aload_n 0, 1) := by decide +kernel
theorem dX5_findAll_1 : decode cX5_findAll 1 = .ok (.invokevirtual 63, 3) := by decide +kernel
theorem dX5_findAll_4 : decode cX5_findAll 4 = .ok (.aload_n 0, 1) := by decide +kernel
theorem dX5_findAll_5 : decode cX5_findAll 5 = .ok (.invokevirtual 66, 3) := by decide +kernel
theorem dX5_findAll_8 : decode cX5_findAll 8 = .ok (.aload_n 0, 1) := by decide +kernel
theorem dX5_findAll_9 : decode cX5_findAll 9 = .ok (.invokevirtual 69, 3) := by decide +kernel
theorem dX5_findAll_12 : decode cX5_findAll 12 = .ok (.aload_n 0, 1) := by decide +kernel
theorem dX5_findAll_13 : decode cX5_findAll 13 = .ok (.invokevirtual 72, 3) := by decide +kernel
theorem dX5_findAll_16 : decode cX5_findAll 16 = .ok (.aload_n 0, 1) := by decide +kernel
theorem dX5_findAll_17 : decode cX5_findAll 17 = .ok (.invokevirtual 75, 3) := by decide +kernel
theorem dX5_findAll_20 : decode cX5_findAll 20 = .ok (.aload_n 0, 1) := by decide +kernel
theorem dX5_findAll_21 : decode cX5_findAll 21 = .ok (.iload_n 1, 1) := by decide +kernel
theorem dX5_findAll_22 : decode cX5_findAll 22 = .ok (.invokevirtual 78, 3) := by decide +kernel
theorem dX5_findAll_25 : decode cX5_findAll 25 = .ok (.aload_n 0, 1) := by decide +kernel
theorem dX5_findAll_26 : decode cX5_findAll 26 = .ok (.iconst 0, 1) := by decide +kernel
theorem dX5_findAll_27 : decode cX5_findAll 27 = .ok (.putfield 82, 3) := by decide +kernel
theorem dX5_findAll_30 : decode cX5_findAll 30 = .ok (.return_, 1) := by decide +kernel
theorem dX5_holds_0 : decode cX5_holds 0 = .ok (.aload_n 0, 1) := by decide +kernel
theorem dX5_holds_1 : decode cX5_holds 1 = .ok (.getfield 51, 3) := by decide +kernel
theorem dX5_holds_4 : decode cX5_holds 4 = .ok (.getfield 86, 3) := by decide +kernel
theorem dX5_holds_7 : decode cX5_holds 7 = .ok (.aload_n 0, 1) := by decide +kernel
theorem dX5_holds_8 : decode cX5_holds 8 = .ok (.getfield 47, 3) := by decide +kernel
theorem dX5_holds_11 : decode cX5_holds 11 = .ok (.iload_n 1, 1) := by decide +kernel
theorem dX5_holds_12 : decode cX5_holds 12 = .ok (.invokevirtual 92, 3) := by decide +kernel
theorem dX5_holds_15 : decode cX5_holds 15 = .ok (.ireturn, 1) := by decide +kernel
theorem dX5_findFame_0 : decode cX5_findFame 0 = .ok (.aload_n 0, 1) := by decide +kernel
theorem dX5_findFame_1 : decode cX5_findFame 1 = .ok (.getfield 9, 3) := by decide +kernel
theorem dX5_findFame_4 : decode cX5_findFame 4 = .ok (.iconst 0, 1) := by decide +kernel
theorem dX5_findFame_5 : decode cX5_findFame 5 = .ok (.invokestatic 98, 3) := by decide +kernel
theorem dX5_findFame_8 : decode cX5_findFame 8 = .ok (.iconst 0, 1) := by decide +kernel
theorem dX5_findFame_9 : decode cX5_findFame 9 = .ok (.istore_n 1, 1) := by decide +kernel
theorem dX5_findFame_10 : decode cX5_findFame 10 = .ok (.iload_n 1, 1) := by decide +kernel
theorem dX5_findFame_11 : decode cX5_findFame 11 = .ok (.aload_n 0, 1) := by decide +kernel
theorem dX5_findFame_12 : decode cX5_findFame 12 = .ok (.getfield 59, 3) := by decide +kernel
theorem dX5_findFame_15 : decode cX5_findFame 15 = .ok (.getfield 104, 3) := by decide +kernel
theorem dX5_findFame_18 : decode cX5_findFame 18 = .ok (.if_icmp .ge 65, 3) := by decide +kernel
theorem dX5_findFame_21 : decode cX5_findFame 21 = .ok (.aload_n 0, 1) := by decide +kernel
theorem dX5_findFame_22 : decode cX5_findFame 22 = .ok (.getfield 59, 3) := by decide +kernel
theorem dX5_findFame_25 : decode cX5_findFame 25 = .ok (.getfield 109, 3) := by decide +kernel
theorem dX5_findFame_28 : decode cX5_findFame 28 = .ok (.iload_n 1, 1) := by decide +kernel
theorem dX5_findFame_29 : decode cX5_findFame 29 = .ok (.iaload, 1) := by decide +kernel
theorem dX5_findFame_30 : decode cX5_findFame 30 = .ok (.istore_n 2, 1) := by decide +kernel
theorem dX5_findFame_31 : decode cX5_findFame 31 = .ok (.aload_n 0, 1) := by decide +kernel
theorem dX5_findFame_32 : decode cX5_findFame 32 = .ok (.iload_n 2, 1) := by decide +kernel
theorem dX5_findFame_33 : decode cX5_findFame 33 = .ok (.invokevirtual 112, 3) := by decide +kernel
theorem dX5_findFame_36 : decode cX5_findFame 36 = .ok (.ifCond .eq 11, 3) := by decide +kernel
theorem dX5_findFame_39 : decode cX5_findFame 39 = .ok (.aload_n 0, 1) := by decide +kernel
theorem dX5_findFame_40 : decode cX5_findFame 40 = .ok (.iload_n 2, 1) := by decide +kernel
theorem dX5_findFame_41 : decode cX5_findFame 41 = .ok (.invokevirtual 116, 3) := by decide +kernel
theorem dX5_findFame_44 : decode cX5_findFame 44 = .ok (.goto 4, 3) := by decide +kernel
theorem dX5_findFame_47 : decode cX5_findFame 47 = .ok (.iconst (-1), 1) := by decide +kernel
theorem dX5_findFame_48 : decode cX5_findFame 48 = .ok (.istore_n 3, 1) := by decide +kernel
theorem dX5_findFame_49 : decode cX5_findFame 49 = .ok (.iload_n 3, 1) := by decide +kernel
theorem dX5_findFame_50 : decode cX5_findFame 50 = .ok (.iconst (-1), 1) := by decide +kernel
theorem dX5_findFame_51 : decode cX5_findFame 51 = .ok (.if_icmp .eq 26, 3) := by decide +kernel
theorem dX5_findFame_54 : decode cX5_findFame 54 = .ok (.aload_n 0, 1) := by decide +kernel
theorem dX5_findFame_55 : decode cX5_findFame 55 = .ok (.getfield 9, 3) := by decide +kernel
theorem dX5_findFame_58 : decode cX5_findFame 58 = .ok (.iload_n 2, 1) := by decide +kernel
theorem dX5_findFame_59 : decode cX5_findFame 59 = .ok (.aload_n 0, 1) := by decide +kernel
theorem dX5_findFame_60 : decode cX5_findFame 60 = .ok (.getfield 59, 3) := by decide +kernel
theorem dX5_findFame_63 : decode cX5_findFame 63 = .ok (.iload_n 3, 1) := by decide +kernel
theorem dX5_findFame_64 : decode cX5_findFame 64 = .ok (.iload_n 2, 1) := by decide +kernel
theorem dX5_findFame_65 : decode cX5_findFame 65 = .ok (.invokevirtual 120, 3) := by decide +kernel
theorem dX5_findFame_68 : decode cX5_findFame 68 = .ok (.ifCond .eq 7, 3) := by decide +kernel
theorem dX5_findFame_71 : decode cX5_findFame 71 = .ok (.iconst 2, 1) := by decide +kernel
theorem dX5_findFame_72 : decode cX5_findFame 72 = .ok (.goto 4, 3) := by decide +kernel
theorem dX5_findFame_75 : decode cX5_findFame 75 = .ok (.iconst 1, 1) := by decide +kernel
theorem dX5_findFame_76 : decode cX5_findFame 76 = .ok (.iastore, 1) := by decide +kernel
theorem dX5_findFame_77 : decode cX5_findFame 77 = .ok (.iinc 1 1, 3) := by decide +kernel
theorem dX5_findFame_80 : decode cX5_findFame 80 = .ok (.goto (-70), 3) := by decide +kernel
theorem dX5_findFame_83 : decode cX5_findFame 83 = .ok (.return_, 1) := by decide +kernel
theorem dX5_deciderOf_0 : decode cX5_deciderOf 0 = .ok (.iconst (-1), 1) := by decide +kernel
theorem dX5_deciderOf_1 : decode cX5_deciderOf 1 = .ok (.istore_n 2, 1) := by decide +kernel
theorem dX5_deciderOf_2 : decode cX5_deciderOf 2 = .ok (.iconst 0, 1) := by decide +kernel
theorem dX5_deciderOf_3 : decode cX5_deciderOf 3 = .ok (.istore_n 3, 1) := by decide +kernel
theorem dX5_deciderOf_4 : decode cX5_deciderOf 4 = .ok (.iload_n 3, 1) := by decide +kernel
theorem dX5_deciderOf_5 : decode cX5_deciderOf 5 = .ok (.aload_n 0, 1) := by decide +kernel
theorem dX5_deciderOf_6 : decode cX5_deciderOf 6 = .ok (.getfield 59, 3) := by decide +kernel
theorem dX5_deciderOf_9 : decode cX5_deciderOf 9 = .ok (.getfield 104, 3) := by decide +kernel
theorem dX5_deciderOf_12 : decode cX5_deciderOf 12 = .ok (.if_icmp .ge 84, 3) := by decide +kernel
theorem dX5_deciderOf_15 : decode cX5_deciderOf 15 = .ok (.aload_n 0, 1) := by decide +kernel
theorem dX5_deciderOf_16 : decode cX5_deciderOf 16 = .ok (.getfield 59, 3) := by decide +kernel
theorem dX5_deciderOf_19 : decode cX5_deciderOf 19 = .ok (.getfield 109, 3) := by decide +kernel
theorem dX5_deciderOf_22 : decode cX5_deciderOf 22 = .ok (.iload_n 3, 1) := by decide +kernel
theorem dX5_deciderOf_23 : decode cX5_deciderOf 23 = .ok (.iaload, 1) := by decide +kernel
theorem dX5_deciderOf_24 : decode cX5_deciderOf 24 = .ok (.istore 4, 2) := by decide +kernel
theorem dX5_deciderOf_26 : decode cX5_deciderOf 26 = .ok (.iload_n 2, 1) := by decide +kernel
theorem dX5_deciderOf_27 : decode cX5_deciderOf 27 = .ok (.iconst (-1), 1) := by decide +kernel
theorem dX5_deciderOf_28 : decode cX5_deciderOf 28 = .ok (.if_icmp .eq 25, 3) := by decide +kernel
theorem dX5_deciderOf_31 : decode cX5_deciderOf 31 = .ok (.aload_n 0, 1) := by decide +kernel
theorem dX5_deciderOf_32 : decode cX5_deciderOf 32 = .ok (.getfield 55, 3) := by decide +kernel
theorem dX5_deciderOf_35 : decode cX5_deciderOf 35 = .ok (.getfield 123, 3) := by decide +kernel
theorem dX5_deciderOf_38 : decode cX5_deciderOf 38 = .ok (.iload 4, 2) := by decide +kernel
theorem dX5_deciderOf_40 : decode cX5_deciderOf 40 = .ok (.iaload, 1) := by decide +kernel
theorem dX5_deciderOf_41 : decode cX5_deciderOf 41 = .ok (.aload_n 0, 1) := by decide +kernel
theorem dX5_deciderOf_42 : decode cX5_deciderOf 42 = .ok (.getfield 55, 3) := by decide +kernel
theorem dX5_deciderOf_45 : decode cX5_deciderOf 45 = .ok (.getfield 123, 3) := by decide +kernel
theorem dX5_deciderOf_48 : decode cX5_deciderOf 48 = .ok (.iload_n 2, 1) := by decide +kernel
theorem dX5_deciderOf_49 : decode cX5_deciderOf 49 = .ok (.iaload, 1) := by decide +kernel
theorem dX5_deciderOf_50 : decode cX5_deciderOf 50 = .ok (.if_icmp .ge 7, 3) := by decide +kernel
theorem dX5_deciderOf_53 : decode cX5_deciderOf 53 = .ok (.iconst 1, 1) := by decide +kernel
theorem dX5_deciderOf_54 : decode cX5_deciderOf 54 = .ok (.goto 4, 3) := by decide +kernel
theorem dX5_deciderOf_57 : decode cX5_deciderOf 57 = .ok (.iconst 0, 1) := by decide +kernel
theorem dX5_deciderOf_58 : decode cX5_deciderOf 58 = .ok (.istore 5, 2) := by decide +kernel
theorem dX5_deciderOf_60 : decode cX5_deciderOf 60 = .ok (.iload 5, 2) := by decide +kernel
theorem dX5_deciderOf_62 : decode cX5_deciderOf 62 = .ok (.ifCond .eq 28, 3) := by decide +kernel
theorem dX5_deciderOf_65 : decode cX5_deciderOf 65 = .ok (.aload_n 0, 1) := by decide +kernel
theorem dX5_deciderOf_66 : decode cX5_deciderOf 66 = .ok (.getfield 59, 3) := by decide +kernel
theorem dX5_deciderOf_69 : decode cX5_deciderOf 69 = .ok (.iload 4, 2) := by decide +kernel
theorem dX5_deciderOf_71 : decode cX5_deciderOf 71 = .ok (.iload_n 1, 1) := by decide +kernel
theorem dX5_deciderOf_72 : decode cX5_deciderOf 72 = .ok (.invokevirtual 128, 3) := by decide +kernel
theorem dX5_deciderOf_75 : decode cX5_deciderOf 75 = .ok (.ifCond .eq 15, 3) := by decide +kernel
theorem dX5_deciderOf_78 : decode cX5_deciderOf 78 = .ok (.aload_n 0, 1) := by decide +kernel
theorem dX5_deciderOf_79 : decode cX5_deciderOf 79 = .ok (.iload 4, 2) := by decide +kernel
theorem dX5_deciderOf_81 : decode cX5_deciderOf 81 = .ok (.invokevirtual 112, 3) := by decide +kernel
theorem dX5_deciderOf_84 : decode cX5_deciderOf 84 = .ok (.ifCond .eq 6, 3) := by decide +kernel
theorem dX5_deciderOf_87 : decode cX5_deciderOf 87 = .ok (.iload 4, 2) := by decide +kernel
theorem dX5_deciderOf_89 : decode cX5_deciderOf 89 = .ok (.istore_n 2, 1) := by decide +kernel
theorem dX5_deciderOf_90 : decode cX5_deciderOf 90 = .ok (.iinc 3 1, 3) := by decide +kernel
theorem dX5_deciderOf_93 : decode cX5_deciderOf 93 = .ok (.goto (-89), 3) := by decide +kernel
theorem dX5_deciderOf_96 : decode cX5_deciderOf 96 = .ok (.iload_n 2, 1) := by decide +kernel
theorem dX5_deciderOf_97 : decode cX5_deciderOf 97 = .ok (.ireturn, 1) := by decide +kernel
theorem dX5_findUniques_0 : decode cX5_findUniques 0 = .ok (.aload_n 0, 1) := by decide +kernel
theorem dX5_findUniques_1 : decode cX5_findUniques 1 = .ok (.getfield 34, 3) := by decide +kernel
theorem dX5_findUniques_4 : decode cX5_findUniques 4 = .ok (.iconst 0, 1) := by decide +kernel
theorem dX5_findUniques_5 : decode cX5_findUniques 5 = .ok (.invokestatic 98, 3) := by decide +kernel
theorem dX5_findUniques_8 : decode cX5_findUniques 8 = .ok (.aload_n 0, 1) := by decide +kernel
theorem dX5_findUniques_9 : decode cX5_findUniques 9 = .ok (.getfield 37, 3) := by decide +kernel
theorem dX5_findUniques_12 : decode cX5_findUniques 12 = .ok (.iconst 0, 1) := by decide +kernel
theorem dX5_findUniques_13 : decode cX5_findUniques 13 = .ok (.invokestatic 98, 3) := by decide +kernel
theorem dX5_findUniques_16 : decode cX5_findUniques 16 = .ok (.iconst 0, 1) := by decide +kernel
theorem dX5_findUniques_17 : decode cX5_findUniques 17 = .ok (.istore_n 1, 1) := by decide +kernel
theorem dX5_findUniques_18 : decode cX5_findUniques 18 = .ok (.iload_n 1, 1) := by decide +kernel
theorem dX5_findUniques_19 : decode cX5_findUniques 19 = .ok (.aload_n 0, 1) := by decide +kernel
theorem dX5_findUniques_20 : decode cX5_findUniques 20 = .ok (.getfield 59, 3) := by decide +kernel
theorem dX5_findUniques_23 : decode cX5_findUniques 23 = .ok (.getfield 104, 3) := by decide +kernel
theorem dX5_findUniques_26 : decode cX5_findUniques 26 = .ok (.if_icmp .ge 58, 3) := by decide +kernel
theorem dX5_findUniques_29 : decode cX5_findUniques 29 = .ok (.aload_n 0, 1) := by decide +kernel
theorem dX5_findUniques_30 : decode cX5_findUniques 30 = .ok (.getfield 59, 3) := by decide +kernel
theorem dX5_findUniques_33 : decode cX5_findUniques 33 = .ok (.getfield 109, 3) := by decide +kernel
theorem dX5_findUniques_36 : decode cX5_findUniques 36 = .ok (.iload_n 1, 1) := by decide +kernel
theorem dX5_findUniques_37 : decode cX5_findUniques 37 = .ok (.iaload, 1) := by decide +kernel
theorem dX5_findUniques_38 : decode cX5_findUniques 38 = .ok (.istore_n 2, 1) := by decide +kernel
theorem dX5_findUniques_39 : decode cX5_findUniques 39 = .ok (.aload_n 0, 1) := by decide +kernel
theorem dX5_findUniques_40 : decode cX5_findUniques 40 = .ok (.getfield 9, 3) := by decide +kernel
theorem dX5_findUniques_43 : decode cX5_findUniques 43 = .ok (.iload_n 2, 1) := by decide +kernel
theorem dX5_findUniques_44 : decode cX5_findUniques 44 = .ok (.iaload, 1) := by decide +kernel
theorem dX5_findUniques_45 : decode cX5_findUniques 45 = .ok (.iconst 2, 1) := by decide +kernel
theorem dX5_findUniques_46 : decode cX5_findUniques 46 = .ok (.if_icmp .ne 32, 3) := by decide +kernel
theorem dX5_findUniques_49 : decode cX5_findUniques 49 = .ok (.aload_n 0, 1) := by decide +kernel
theorem dX5_findUniques_50 : decode cX5_findUniques 50 = .ok (.iload_n 2, 1) := by decide +kernel
theorem dX5_findUniques_51 : decode cX5_findUniques 51 = .ok (.invokevirtual 131, 3) := by decide +kernel
theorem dX5_findUniques_54 : decode cX5_findUniques 54 = .ok (.ifCond .eq 24, 3) := by decide +kernel
theorem dX5_findUniques_57 : decode cX5_findUniques 57 = .ok (.aload_n 0, 1) := by decide +kernel
theorem dX5_findUniques_58 : decode cX5_findUniques 58 = .ok (.getfield 9, 3) := by decide +kernel
theorem dX5_findUniques_61 : decode cX5_findUniques 61 = .ok (.iload_n 2, 1) := by decide +kernel
theorem dX5_findUniques_62 : decode cX5_findUniques 62 = .ok (.iconst 3, 1) := by decide +kernel
theorem dX5_findUniques_63 : decode cX5_findUniques 63 = .ok (.iastore, 1) := by decide +kernel
theorem dX5_findUniques_64 : decode cX5_findUniques 64 = .ok (.aload_n 0, 1) := by decide +kernel
theorem dX5_findUniques_65 : decode cX5_findUniques 65 = .ok (.iload_n 2, 1) := by decide +kernel
theorem dX5_findUniques_66 : decode cX5_findUniques 66 = .ok (.aload_n 0, 1) := by decide +kernel
theorem dX5_findUniques_67 : decode cX5_findUniques 67 = .ok (.getfield 55, 3) := by decide +kernel
theorem dX5_findUniques_70 : decode cX5_findUniques 70 = .ok (.getfield 123, 3) := by decide +kernel
theorem dX5_findUniques_73 : decode cX5_findUniques 73 = .ok (.iload_n 2, 1) := by decide +kernel
theorem dX5_findUniques_74 : decode cX5_findUniques 74 = .ok (.iaload, 1) := by decide +kernel
theorem dX5_findUniques_75 : decode cX5_findUniques 75 = .ok (.invokevirtual 134, 3) := by decide +kernel
theorem dX5_findUniques_78 : decode cX5_findUniques 78 = .ok (.iinc 1 1, 3) := by decide +kernel
theorem dX5_findUniques_81 : decode cX5_findUniques 81 = .ok (.goto (-63), 3) := by decide +kernel
theorem dX5_findUniques_84 : decode cX5_findUniques 84 = .ok (.return_, 1) := by decide +kernel
theorem dX5_isOnlyFamousOne_0 : decode cX5_isOnlyFamousOne 0 = .ok (.iconst 0, 1) := by decide +kernel
theorem dX5_isOnlyFamousOne_1 : decode cX5_isOnlyFamousOne 1 = .ok (.istore_n 2, 1) := by decide +kernel
theorem dX5_isOnlyFamousOne_2 : decode cX5_isOnlyFamousOne 2 = .ok (.iload_n 2, 1) := by decide +kernel
theorem dX5_isOnlyFamousOne_3 : decode cX5_isOnlyFamousOne 3 = .ok (.aload_n 0, 1) := by decide +kernel
theorem dX5_isOnlyFamousOne_4 : decode cX5_isOnlyFamousOne 4 = .ok (.getfield 59, 3) := by decide +kernel
theorem dX5_isOnlyFamousOne_7 : decode cX5_isOnlyFamousOne 7 = .ok (.getfield 104, 3) := by decide +kernel
theorem dX5_isOnlyFamousOne_10 : decode cX5_isOnlyFamousOne 10 = .ok (.if_icmp .ge 78, 3) := by decide +kernel
theorem dX5_isOnlyFamousOne_13 : decode cX5_isOnlyFamousOne 13 = .ok (.aload_n 0, 1) := by decide +kernel
theorem dX5_isOnlyFamousOne_14 : decode cX5_isOnlyFamousOne 14 = .ok (.getfield 59, 3) := by decide +kernel
theorem dX5_isOnlyFamousOne_17 : decode cX5_isOnlyFamousOne 17 = .ok (.getfield 109, 3) := by decide +kernel
theorem dX5_isOnlyFamousOne_20 : decode cX5_isOnlyFamousOne 20 = .ok (.iload_n 2, 1) := by decide +kernel
theorem dX5_isOnlyFamousOne_21 : decode cX5_isOnlyFamousOne 21 = .ok (.iaload, 1) := by decide +kernel
theorem dX5_isOnlyFamousOne_22 : decode cX5_isOnlyFamousOne 22 = .ok (.istore_n 3, 1) := by decide +kernel
theorem dX5_isOnlyFamousOne_23 : decode cX5_isOnlyFamousOne 23 = .ok (.iload_n 3, 1) := by decide +kernel
theorem dX5_isOnlyFamousOne_24 : decode cX5_isOnlyFamousOne 24 = .ok (.iload_n 1, 1) := by decide +kernel
theorem dX5_isOnlyFamousOne_25 : decode cX5_isOnlyFamousOne 25 = .ok (.if_icmp .eq 57, 3) := by decide +kernel
theorem dX5_isOnlyFamousOne_28 : decode cX5_isOnlyFamousOne 28 = .ok (.aload_n 0, 1) := by decide +kernel
theorem dX5_isOnlyFamousOne_29 : decode cX5_isOnlyFamousOne 29 = .ok (.getfield 9, 3) := by decide +kernel
theorem dX5_isOnlyFamousOne_32 : decode cX5_isOnlyFamousOne 32 = .ok (.iload_n 3, 1) := by decide +kernel
theorem dX5_isOnlyFamousOne_33 : decode cX5_isOnlyFamousOne 33 = .ok (.iaload, 1) := by decide +kernel
theorem dX5_isOnlyFamousOne_34 : decode cX5_isOnlyFamousOne 34 = .ok (.iconst 2, 1) := by decide +kernel
theorem dX5_isOnlyFamousOne_35 : decode cX5_isOnlyFamousOne 35 = .ok (.if_icmp .lt 47, 3) := by decide +kernel
theorem dX5_isOnlyFamousOne_38 : decode cX5_isOnlyFamousOne 38 = .ok (.aload_n 0, 1) := by decide +kernel
theorem dX5_isOnlyFamousOne_39 : decode cX5_isOnlyFamousOne 39 = .ok (.getfield 55, 3) := by decide +kernel
theorem dX5_isOnlyFamousOne_42 : decode cX5_isOnlyFamousOne 42 = .ok (.getfield 123, 3) := by decide +kernel
theorem dX5_isOnlyFamousOne_45 : decode cX5_isOnlyFamousOne 45 = .ok (.iload_n 3, 1) := by decide +kernel
theorem dX5_isOnlyFamousOne_46 : decode cX5_isOnlyFamousOne 46 = .ok (.iaload, 1) := by decide +kernel
theorem dX5_isOnlyFamousOne_47 : decode cX5_isOnlyFamousOne 47 = .ok (.aload_n 0, 1) := by decide +kernel
theorem dX5_isOnlyFamousOne_48 : decode cX5_isOnlyFamousOne 48 = .ok (.getfield 55, 3) := by decide +kernel
theorem dX5_isOnlyFamousOne_51 : decode cX5_isOnlyFamousOne 51 = .ok (.getfield 123, 3) := by decide +kernel
theorem dX5_isOnlyFamousOne_54 : decode cX5_isOnlyFamousOne 54 = .ok (.iload_n 1, 1) := by decide +kernel
theorem dX5_isOnlyFamousOne_55 : decode cX5_isOnlyFamousOne 55 = .ok (.iaload, 1) := by decide +kernel
theorem dX5_isOnlyFamousOne_56 : decode cX5_isOnlyFamousOne 56 = .ok (.if_icmp .ne 26, 3) := by decide +kernel
theorem dX5_isOnlyFamousOne_59 : decode cX5_isOnlyFamousOne 59 = .ok (.aload_n 0, 1) := by decide +kernel
theorem dX5_isOnlyFamousOne_60 : decode cX5_isOnlyFamousOne 60 = .ok (.getfield 51, 3) := by decide +kernel
theorem dX5_isOnlyFamousOne_63 : decode cX5_isOnlyFamousOne 63 = .ok (.getfield 138, 3) := by decide +kernel
theorem dX5_isOnlyFamousOne_66 : decode cX5_isOnlyFamousOne 66 = .ok (.iload_n 3, 1) := by decide +kernel
theorem dX5_isOnlyFamousOne_67 : decode cX5_isOnlyFamousOne 67 = .ok (.iaload, 1) := by decide +kernel
theorem dX5_isOnlyFamousOne_68 : decode cX5_isOnlyFamousOne 68 = .ok (.aload_n 0, 1) := by decide +kernel
theorem dX5_isOnlyFamousOne_69 : decode cX5_isOnlyFamousOne 69 = .ok (.getfield 51, 3) := by decide +kernel
theorem dX5_isOnlyFamousOne_72 : decode cX5_isOnlyFamousOne 72 = .ok (.getfield 138, 3) := by decide +kernel
theorem dX5_isOnlyFamousOne_75 : decode cX5_isOnlyFamousOne 75 = .ok (.iload_n 1, 1) := by decide +kernel
theorem dX5_isOnlyFamousOne_76 : decode cX5_isOnlyFamousOne 76 = .ok (.iaload, 1) := by decide +kernel
theorem dX5_isOnlyFamousOne_77 : decode cX5_isOnlyFamousOne 77 = .ok (.if_icmp .ne 5, 3) := by decide +kernel
theorem dX5_isOnlyFamousOne_80 : decode cX5_isOnlyFamousOne 80 = .ok (.iconst 0, 1) := by decide +kernel
theorem dX5_isOnlyFamousOne_81 : decode cX5_isOnlyFamousOne 81 = .ok (.ireturn, 1) := by decide +kernel
theorem dX5_isOnlyFamousOne_82 : decode cX5_isOnlyFamousOne 82 = .ok (.iinc 2 1, 3) := by decide +kernel
theorem dX5_isOnlyFamousOne_85 : decode cX5_isOnlyFamousOne 85 = .ok (.goto (-83), 3) := by decide +kernel
theorem dX5_isOnlyFamousOne_88 : decode cX5_isOnlyFamousOne 88 = .ok (.iconst 1, 1) := by decide +kernel
theorem dX5_isOnlyFamousOne_89 : decode cX5_isOnlyFamousOne 89 = .ok (.ireturn, 1) := by decide +kernel
theorem dX5_addUnique_0 : decode cX5_addUnique 0 = .ok (.aload_n 0, 1) := by decide +kernel
theorem dX5_addUnique_1 : decode cX5_addUnique 1 = .ok (.getfield 31, 3) := by decide +kernel
theorem dX5_addUnique_4 : decode cX5_addUnique 4 = .ok (.iload_n 2, 1) := by decide +kernel
theorem dX5_addUnique_5 : decode cX5_addUnique 5 = .ok (.bipush 8, 2) := by decide +kernel
theorem dX5_addUnique_7 : decode cX5_addUnique 7 = .ok (.imul, 1) := by decide +kernel
theorem dX5_addUnique_8 : decode cX5_addUnique 8 = .ok (.aload_n 0, 1) := by decide +kernel
theorem dX5_addUnique_9 : decode cX5_addUnique 9 = .ok (.getfield 34, 3) := by decide +kernel
theorem dX5_addUnique_12 : decode cX5_addUnique 12 = .ok (.iload_n 2, 1) := by decide +kernel
theorem dX5_addUnique_13 : decode cX5_addUnique 13 = .ok (.iaload, 1) := by decide +kernel
theorem dX5_addUnique_14 : decode cX5_addUnique 14 = .ok (.iadd, 1) := by decide +kernel
theorem dX5_addUnique_15 : decode cX5_addUnique 15 = .ok (.iload_n 1, 1) := by decide +kernel
theorem dX5_addUnique_16 : decode cX5_addUnique 16 = .ok (.iastore, 1) := by decide +kernel
theorem dX5_addUnique_17 : decode cX5_addUnique 17 = .ok (.aload_n 0, 1) := by decide +kernel
theorem dX5_addUnique_18 : decode cX5_addUnique 18 = .ok (.getfield 34, 3) := by decide +kernel
theorem dX5_addUnique_21 : decode cX5_addUnique 21 = .ok (.iload_n 2, 1) := by decide +kernel
theorem dX5_addUnique_22 : decode cX5_addUnique 22 = .ok (.dup2, 1) := by decide +kernel
theorem dX5_addUnique_23 : decode cX5_addUnique 23 = .ok (.iaload, 1) := by decide +kernel
theorem dX5_addUnique_24 : decode cX5_addUnique 24 = .ok (.iconst 1, 1) := by decide +kernel
theorem dX5_addUnique_25 : decode cX5_addUnique 25 = .ok (.iadd, 1) := by decide +kernel
theorem dX5_addUnique_26 : decode cX5_addUnique 26 = .ok (.iastore, 1) := by decide +kernel
theorem dX5_addUnique_27 : decode cX5_addUnique 27 = .ok (.iconst 0, 1) := by decide +kernel
theorem dX5_addUnique_28 : decode cX5_addUnique 28 = .ok (.istore_n 3, 1) := by decide +kernel
theorem dX5_addUnique_29 : decode cX5_addUnique 29 = .ok (.iload_n 3, 1) := by decide +kernel
theorem dX5_addUnique_30 : decode cX5_addUnique 30 = .ok (.bipush 8, 2) := by decide +kernel
theorem dX5_addUnique_32 : decode cX5_addUnique 32 = .ok (.if_icmp .ge 32, 3) := by decide +kernel
theorem dX5_addUnique_35 : decode cX5_addUnique 35 = .ok (.aload_n 0, 1) := by decide +kernel
theorem dX5_addUnique_36 : decode cX5_addUnique 36 = .ok (.getfield 37, 3) := by decide +kernel
theorem dX5_addUnique_39 : decode cX5_addUnique 39 = .ok (.iload_n 2, 1) := by decide +kernel
theorem dX5_addUnique_40 : decode cX5_addUnique 40 = .ok (.bipush 8, 2) := by decide +kernel
theorem dX5_addUnique_42 : decode cX5_addUnique 42 = .ok (.imul, 1) := by decide +kernel
theorem dX5_addUnique_43 : decode cX5_addUnique 43 = .ok (.iload_n 3, 1) := by decide +kernel
theorem dX5_addUnique_44 : decode cX5_addUnique 44 = .ok (.iadd, 1) := by decide +kernel
theorem dX5_addUnique_45 : decode cX5_addUnique 45 = .ok (.dup2, 1) := by decide +kernel
theorem dX5_addUnique_46 : decode cX5_addUnique 46 = .ok (.iaload, 1) := by decide +kernel
theorem dX5_addUnique_47 : decode cX5_addUnique 47 = .ok (.aload_n 0, 1) := by decide +kernel
theorem dX5_addUnique_48 : decode cX5_addUnique 48 = .ok (.getfield 51, 3) := by decide +kernel
theorem dX5_addUnique_51 : decode cX5_addUnique 51 = .ok (.iload_n 1, 1) := by decide +kernel
theorem dX5_addUnique_52 : decode cX5_addUnique 52 = .ok (.iload_n 3, 1) := by decide +kernel
theorem dX5_addUnique_53 : decode cX5_addUnique 53 = .ok (.invokevirtual 141, 3) := by decide +kernel
theorem dX5_addUnique_56 : decode cX5_addUnique 56 = .ok (.ixor, 1) := by decide +kernel
theorem dX5_addUnique_57 : decode cX5_addUnique 57 = .ok (.iastore, 1) := by decide +kernel
theorem dX5_addUnique_58 : decode cX5_addUnique 58 = .ok (.iinc 3 1, 3) := by decide +kernel
theorem dX5_addUnique_61 : decode cX5_addUnique 61 = .ok (.goto (-32), 3) := by decide +kernel
theorem dX5_addUnique_64 : decode cX5_addUnique 64 = .ok (.return_, 1) := by decide +kernel
theorem dX5_settleRounds_0 : decode cX5_settleRounds 0 = .ok (.aload_n 0, 1) := by decide +kernel
theorem dX5_settleRounds_1 : decode cX5_settleRounds 1 = .ok (.invokevirtual 145, 3) := by decide +kernel
theorem dX5_settleRounds_4 : decode cX5_settleRounds 4 = .ok (.istore_n 1, 1) := by decide +kernel
theorem dX5_settleRounds_5 : decode cX5_settleRounds 5 = .ok (.aload_n 0, 1) := by decide +kernel
theorem dX5_settleRounds_6 : decode cX5_settleRounds 6 = .ok (.iconst 0, 1) := by decide +kernel
theorem dX5_settleRounds_7 : decode cX5_settleRounds 7 = .ok (.putfield 149, 3) := by decide +kernel
theorem dX5_settleRounds_10 : decode cX5_settleRounds 10 = .ok (.iconst 1, 1) := by decide +kernel
theorem dX5_settleRounds_11 : decode cX5_settleRounds 11 = .ok (.istore_n 2, 1) := by decide +kernel
theorem dX5_settleRounds_12 : decode cX5_settleRounds 12 = .ok (.iload_n 2, 1) := by decide +kernel
theorem dX5_settleRounds_13 : decode cX5_settleRounds 13 = .ok (.sipush 240, 3) := by decide +kernel
theorem dX5_settleRounds_16 : decode cX5_settleRounds 16 = .ok (.if_icmp .gt 57, 3) := by decide +kernel
theorem dX5_settleRounds_19 : decode cX5_settleRounds 19 = .ok (.aload_n 0, 1) := by decide +kernel
theorem dX5_settleRounds_20 : decode cX5_settleRounds 20 = .ok (.getfield 40, 3) := by decide +kernel
theorem dX5_settleRounds_23 : decode cX5_settleRounds 23 = .ok (.iload_n 2, 1) := by decide +kernel
theorem dX5_settleRounds_24 : decode cX5_settleRounds 24 = .ok (.iload_n 2, 1) := by decide +kernel
theorem dX5_settleRounds_25 : decode cX5_settleRounds 25 = .ok (.iload_n 1, 1) := by decide +kernel
theorem dX5_settleRounds_26 : decode cX5_settleRounds 26 = .ok (.if_icmp .ge 16, 3) := by decide +kernel
theorem dX5_settleRounds_29 : decode cX5_settleRounds 29 = .ok (.aload_n 0, 1) := by decide +kernel
theorem dX5_settleRounds_30 : decode cX5_settleRounds 30 = .ok (.getfield 34, 3) := by decide +kernel
theorem dX5_settleRounds_33 : decode cX5_settleRounds 33 = .ok (.iload_n 2, 1) := by decide +kernel
theorem dX5_settleRounds_34 : decode cX5_settleRounds 34 = .ok (.iaload, 1) := by decide +kernel
theorem dX5_settleRounds_35 : decode cX5_settleRounds 35 = .ok (.ifCond .le 7, 3) := by decide +kernel
theorem dX5_settleRounds_38 : decode cX5_settleRounds 38 = .ok (.iconst 1, 1) := by decide +kernel
theorem dX5_settleRounds_39 : decode cX5_settleRounds 39 = .ok (.goto 4, 3) := by decide +kernel
theorem dX5_settleRounds_42 : decode cX5_settleRounds 42 = .ok (.iconst 0, 1) := by decide +kernel
theorem dX5_settleRounds_43 : decode cX5_settleRounds 43 = .ok (.bastore, 1) := by decide +kernel
theorem dX5_settleRounds_44 : decode cX5_settleRounds 44 = .ok (.aload_n 0, 1) := by decide +kernel
theorem dX5_settleRounds_45 : decode cX5_settleRounds 45 = .ok (.dup, 1) := by decide +kernel
theorem dX5_settleRounds_46 : decode cX5_settleRounds 46 = .ok (.getfield 149, 3) := by decide +kernel
theorem dX5_settleRounds_49 : decode cX5_settleRounds 49 = .ok (.aload_n 0, 1) := by decide +kernel
theorem dX5_settleRounds_50 : decode cX5_settleRounds 50 = .ok (.getfield 40, 3) := by decide +kernel
theorem dX5_settleRounds_53 : decode cX5_settleRounds 53 = .ok (.iload_n 2, 1) := by decide +kernel
theorem dX5_settleRounds_54 : decode cX5_settleRounds 54 = .ok (.baload, 1) := by decide +kernel
theorem dX5_settleRounds_55 : decode cX5_settleRounds 55 = .ok (.ifCond .eq 7, 3) := by decide +kernel
theorem dX5_settleRounds_58 : decode cX5_settleRounds 58 = .ok (.iconst 1, 1) := by decide +kernel
theorem dX5_settleRounds_59 : decode cX5_settleRounds 59 = .ok (.goto 4, 3) := by decide +kernel
theorem dX5_settleRounds_62 : decode cX5_settleRounds 62 = .ok (.iconst 0, 1) := by decide +kernel
theorem dX5_settleRounds_63 : decode cX5_settleRounds 63 = .ok (.iadd, 1) := by decide +kernel
theorem dX5_settleRounds_64 : decode cX5_settleRounds 64 = .ok (.putfield 149, 3) := by decide +kernel
theorem dX5_settleRounds_67 : decode cX5_settleRounds 67 = .ok (.iinc 2 1, 3) := by decide +kernel
theorem dX5_settleRounds_70 : decode cX5_settleRounds 70 = .ok (.goto (-58), 3) := by decide +kernel
theorem dX5_settleRounds_73 : decode cX5_settleRounds 73 = .ok (.return_, 1) := by decide +kernel
theorem dX5_leastOpenRound_0 : decode cX5_leastOpenRound 0 = .ok (.sipush 241, 3) := by decide +kernel
theorem dX5_leastOpenRound_3 : decode cX5_leastOpenRound 3 = .ok (.istore_n 1, 1) := by decide +kernel
theorem dX5_leastOpenRound_4 : decode cX5_leastOpenRound 4 = .ok (.iconst 0, 1) := by decide +kernel
theorem dX5_leastOpenRound_5 : decode cX5_leastOpenRound 5 = .ok (.istore_n 2, 1) := by decide +kernel
theorem dX5_leastOpenRound_6 : decode cX5_leastOpenRound 6 = .ok (.iload_n 2, 1) := by decide +kernel
theorem dX5_leastOpenRound_7 : decode cX5_leastOpenRound 7 = .ok (.aload_n 0, 1) := by decide +kernel
theorem dX5_leastOpenRound_8 : decode cX5_leastOpenRound 8 = .ok (.getfield 59, 3) := by decide +kernel
theorem dX5_leastOpenRound_11 : decode cX5_leastOpenRound 11 = .ok (.getfield 104, 3) := by decide +kernel
theorem dX5_leastOpenRound_14 : decode cX5_leastOpenRound 14 = .ok (.if_icmp .ge 50, 3) := by decide +kernel
theorem dX5_leastOpenRound_17 : decode cX5_leastOpenRound 17 = .ok (.aload_n 0, 1) := by decide +kernel
theorem dX5_leastOpenRound_18 : decode cX5_leastOpenRound 18 = .ok (.getfield 59, 3) := by decide +kernel
theorem dX5_leastOpenRound_21 : decode cX5_leastOpenRound 21 = .ok (.getfield 109, 3) := by decide +kernel
theorem dX5_leastOpenRound_24 : decode cX5_leastOpenRound 24 = .ok (.iload_n 2, 1) := by decide +kernel
theorem dX5_leastOpenRound_25 : decode cX5_leastOpenRound 25 = .ok (.iaload, 1) := by decide +kernel
theorem dX5_leastOpenRound_26 : decode cX5_leastOpenRound 26 = .ok (.istore_n 3, 1) := by decide +kernel
theorem dX5_leastOpenRound_27 : decode cX5_leastOpenRound 27 = .ok (.aload_n 0, 1) := by decide +kernel
theorem dX5_leastOpenRound_28 : decode cX5_leastOpenRound 28 = .ok (.iload_n 3, 1) := by decide +kernel
theorem dX5_leastOpenRound_29 : decode cX5_leastOpenRound 29 = .ok (.invokevirtual 112, 3) := by decide +kernel
theorem dX5_leastOpenRound_32 : decode cX5_leastOpenRound 32 = .ok (.ifCond .eq 26, 3) := by decide +kernel
theorem dX5_leastOpenRound_35 : decode cX5_leastOpenRound 35 = .ok (.aload_n 0, 1) := by decide +kernel
theorem dX5_leastOpenRound_36 : decode cX5_leastOpenRound 36 = .ok (.getfield 9, 3) := by decide +kernel
theorem dX5_leastOpenRound_39 : decode cX5_leastOpenRound 39 = .ok (.iload_n 3, 1) := by decide +kernel
theorem dX5_leastOpenRound_40 : decode cX5_leastOpenRound 40 = .ok (.iaload, 1) := by decide +kernel
theorem dX5_leastOpenRound_41 : decode cX5_leastOpenRound 41 = .ok (.ifCond .ne 17, 3) := by decide +kernel
theorem dX5_leastOpenRound_44 : decode cX5_leastOpenRound 44 = .ok (.iload_n 1, 1) := by decide +kernel
theorem dX5_leastOpenRound_45 : decode cX5_leastOpenRound 45 = .ok (.aload_n 0, 1) := by decide +kernel
theorem dX5_leastOpenRound_46 : decode cX5_leastOpenRound 46 = .ok (.getfield 55, 3) := by decide +kernel
theorem dX5_leastOpenRound_49 : decode cX5_leastOpenRound 49 = .ok (.getfield 123, 3) := by decide +kernel
theorem dX5_leastOpenRound_52 : decode cX5_leastOpenRound 52 = .ok (.iload_n 3, 1) := by decide +kernel
theorem dX5_leastOpenRound_53 : decode cX5_leastOpenRound 53 = .ok (.iaload, 1) := by decide +kernel
theorem dX5_leastOpenRound_54 : decode cX5_leastOpenRound 54 = .ok (.invokestatic 152, 3) := by decide +kernel
theorem dX5_leastOpenRound_57 : decode cX5_leastOpenRound 57 = .ok (.istore_n 1, 1) := by decide +kernel
theorem dX5_leastOpenRound_58 : decode cX5_leastOpenRound 58 = .ok (.iinc 2 1, 3) := by decide +kernel
theorem dX5_leastOpenRound_61 : decode cX5_leastOpenRound 61 = .ok (.goto (-55), 3) := by decide +kernel
theorem dX5_leastOpenRound_64 : decode cX5_leastOpenRound 64 = .ok (.iload_n 1, 1) := by decide +kernel
theorem dX5_leastOpenRound_65 : decode cX5_leastOpenRound 65 = .ok (.ireturn, 1) := by decide +kernel
theorem dX5_findReceived_0 : decode cX5_findReceived 0 = .ok (.aload_n 0, 1) := by decide +kernel
theorem dX5_findReceived_1 : decode cX5_findReceived 1 = .ok (.getfield 15, 3) := by decide +kernel
theorem dX5_findReceived_4 : decode cX5_findReceived 4 = .ok (.iconst 0, 1) := by decide +kernel
theorem dX5_findReceived_5 : decode cX5_findReceived 5 = .ok (.invokestatic 98, 3) := by decide +kernel
theorem dX5_findReceived_8 : decode cX5_findReceived 8 = .ok (.iconst 0, 1) := by decide +kernel
theorem dX5_findReceived_9 : decode cX5_findReceived 9 = .ok (.istore_n 1, 1) := by decide +kernel
theorem dX5_findReceived_10 : decode cX5_findReceived 10 = .ok (.iload_n 1, 1) := by decide +kernel
theorem dX5_findReceived_11 : decode cX5_findReceived 11 = .ok (.aload_n 0, 1) := by decide +kernel
theorem dX5_findReceived_12 : decode cX5_findReceived 12 = .ok (.getfield 51, 3) := by decide +kernel
theorem dX5_findReceived_15 : decode cX5_findReceived 15 = .ok (.getfield 157, 3) := by decide +kernel
theorem dX5_findReceived_18 : decode cX5_findReceived 18 = .ok (.if_icmp .ge 54, 3) := by decide +kernel
theorem dX5_findReceived_21 : decode cX5_findReceived 21 = .ok (.aload_n 0, 1) := by decide +kernel
theorem dX5_findReceived_22 : decode cX5_findReceived 22 = .ok (.iload_n 1, 1) := by decide +kernel
theorem dX5_findReceived_23 : decode cX5_findReceived 23 = .ok (.invokevirtual 112, 3) := by decide +kernel
theorem dX5_findReceived_26 : decode cX5_findReceived 26 = .ok (.ifCond .eq 14, 3) := by decide +kernel
theorem dX5_findReceived_29 : decode cX5_findReceived 29 = .ok (.aload_n 0, 1) := by decide +kernel
theorem dX5_findReceived_30 : decode cX5_findReceived 30 = .ok (.getfield 15, 3) := by decide +kernel
theorem dX5_findReceived_33 : decode cX5_findReceived 33 = .ok (.iload_n 1, 1) := by decide +kernel
theorem dX5_findReceived_34 : decode cX5_findReceived 34 = .ok (.aload_n 0, 1) := by decide +kernel
theorem dX5_findReceived_35 : decode cX5_findReceived 35 = .ok (.iload_n 1, 1) := by decide +kernel
theorem dX5_findReceived_36 : decode cX5_findReceived 36 = .ok (.invokevirtual 158, 3) := by decide +kernel
theorem dX5_findReceived_39 : decode cX5_findReceived 39 = .ok (.iastore, 1) := by decide +kernel
theorem dX5_findReceived_40 : decode cX5_findReceived 40 = .ok (.aload_n 0, 1) := by decide +kernel
theorem dX5_findReceived_41 : decode cX5_findReceived 41 = .ok (.getfield 15, 3) := by decide +kernel
theorem dX5_findReceived_44 : decode cX5_findReceived 44 = .ok (.iload_n 1, 1) := by decide +kernel
theorem dX5_findReceived_45 : decode cX5_findReceived 45 = .ok (.iaload, 1) := by decide +kernel
theorem dX5_findReceived_46 : decode cX5_findReceived 46 = .ok (.ifCond .eq 20, 3) := by decide +kernel
theorem dX5_findReceived_49 : decode cX5_findReceived 49 = .ok (.aload_n 0, 1) := by decide +kernel
theorem dX5_findReceived_50 : decode cX5_findReceived 50 = .ok (.getfield 18, 3) := by decide +kernel
theorem dX5_findReceived_53 : decode cX5_findReceived 53 = .ok (.iload_n 1, 1) := by decide +kernel
theorem dX5_findReceived_54 : decode cX5_findReceived 54 = .ok (.aload_n 0, 1) := by decide +kernel
theorem dX5_findReceived_55 : decode cX5_findReceived 55 = .ok (.aload_n 0, 1) := by decide +kernel
theorem dX5_findReceived_56 : decode cX5_findReceived 56 = .ok (.getfield 15, 3) := by decide +kernel
theorem dX5_findReceived_59 : decode cX5_findReceived 59 = .ok (.iload_n 1, 1) := by decide +kernel
theorem dX5_findReceived_60 : decode cX5_findReceived 60 = .ok (.iaload, 1) := by decide +kernel
theorem dX5_findReceived_61 : decode cX5_findReceived 61 = .ok (.iload_n 1, 1) := by decide +kernel
theorem dX5_findReceived_62 : decode cX5_findReceived 62 = .ok (.invokevirtual 161, 3) := by decide +kernel
theorem dX5_findReceived_65 : decode cX5_findReceived 65 = .ok (.lastore, 1) := by decide +kernel
theorem dX5_findReceived_66 : decode cX5_findReceived 66 = .ok (.iinc 1 1, 3) := by decide +kernel
theorem dX5_findReceived_69 : decode cX5_findReceived 69 = .ok (.goto (-59), 3) := by decide +kernel
theorem dX5_findReceived_72 : decode cX5_findReceived 72 = .ok (.return_, 1) := by decide +kernel
theorem dX5_roundReceiving_0 : decode cX5_roundReceiving 0 = .ok (.aload_n 0, 1) := by decide +kernel
theorem dX5_roundReceiving_1 : decode cX5_roundReceiving 1 = .ok (.getfield 55, 3) := by decide +kernel
theorem dX5_roundReceiving_4 : decode cX5_roundReceiving 4 = .ok (.getfield 123, 3) := by decide +kernel
theorem dX5_roundReceiving_7 : decode cX5_roundReceiving 7 = .ok (.iload_n 1, 1) := by decide +kernel
theorem dX5_roundReceiving_8 : decode cX5_roundReceiving 8 = .ok (.iaload, 1) := by decide +kernel
theorem dX5_roundReceiving_9 : decode cX5_roundReceiving 9 = .ok (.istore_n 2, 1) := by decide +kernel
theorem dX5_roundReceiving_10 : decode cX5_roundReceiving 10 = .ok (.iload_n 2, 1) := by decide +kernel
theorem dX5_roundReceiving_11 : decode cX5_roundReceiving 11 = .ok (.aload_n 0, 1) := by decide +kernel
theorem dX5_roundReceiving_12 : decode cX5_roundReceiving 12 = .ok (.getfield 55, 3) := by decide +kernel
theorem dX5_roundReceiving_15 : decode cX5_roundReceiving 15 = .ok (.getfield 165, 3) := by decide +kernel
theorem dX5_roundReceiving_18 : decode cX5_roundReceiving 18 = .ok (.if_icmp .gt 29, 3) := by decide +kernel
theorem dX5_roundReceiving_21 : decode cX5_roundReceiving 21 = .ok (.aload_n 0, 1) := by decide +kernel
theorem dX5_roundReceiving_22 : decode cX5_roundReceiving 22 = .ok (.getfield 40, 3) := by decide +kernel
theorem dX5_roundReceiving_25 : decode cX5_roundReceiving 25 = .ok (.iload_n 2, 1) := by decide +kernel
theorem dX5_roundReceiving_26 : decode cX5_roundReceiving 26 = .ok (.baload, 1) := by decide +kernel
theorem dX5_roundReceiving_27 : decode cX5_roundReceiving 27 = .ok (.ifCond .eq 14, 3) := by decide +kernel
theorem dX5_roundReceiving_30 : decode cX5_roundReceiving 30 = .ok (.aload_n 0, 1) := by decide +kernel
theorem dX5_roundReceiving_31 : decode cX5_roundReceiving 31 = .ok (.iload_n 1, 1) := by decide +kernel
theorem dX5_roundReceiving_32 : decode cX5_roundReceiving 32 = .ok (.iload_n 2, 1) := by decide +kernel
theorem dX5_roundReceiving_33 : decode cX5_roundReceiving 33 = .ok (.invokevirtual 168, 3) := by decide +kernel
theorem dX5_roundReceiving_36 : decode cX5_roundReceiving 36 = .ok (.ifCond .eq 5, 3) := by decide +kernel
theorem dX5_roundReceiving_39 : decode cX5_roundReceiving 39 = .ok (.iload_n 2, 1) := by decide +kernel
theorem dX5_roundReceiving_40 : decode cX5_roundReceiving 40 = .ok (.ireturn, 1) := by decide +kernel
theorem dX5_roundReceiving_41 : decode cX5_roundReceiving 41 = .ok (.iinc 2 1, 3) := by decide +kernel
theorem dX5_roundReceiving_44 : decode cX5_roundReceiving 44 = .ok (.goto (-34), 3) := by decide +kernel
theorem dX5_roundReceiving_47 : decode cX5_roundReceiving 47 = .ok (.iconst 0, 1) := by decide +kernel
theorem dX5_roundReceiving_48 : decode cX5_roundReceiving 48 = .ok (.ireturn, 1) := by decide +kernel
theorem dX5_isBelowAllUniques_0 : decode cX5_isBelowAllUniques 0 = .ok (.iconst 0, 1) := by decide +kernel
theorem dX5_isBelowAllUniques_1 : decode cX5_isBelowAllUniques 1 = .ok (.istore_n 3, 1) := by decide +kernel
theorem dX5_isBelowAllUniques_2 : decode cX5_isBelowAllUniques 2 = .ok (.iload_n 3, 1) := by decide +kernel
theorem dX5_isBelowAllUniques_3 : decode cX5_isBelowAllUniques 3 = .ok (.aload_n 0, 1) := by decide +kernel
theorem dX5_isBelowAllUniques_4 : decode cX5_isBelowAllUniques 4 = .ok (.getfield 34, 3) := by decide +kernel
theorem dX5_isBelowAllUniques_7 : decode cX5_isBelowAllUniques 7 = .ok (.iload_n 2, 1) := by decide +kernel
theorem dX5_isBelowAllUniques_8 : decode cX5_isBelowAllUniques 8 = .ok (.iaload, 1) := by decide +kernel
theorem dX5_isBelowAllUniques_9 : decode cX5_isBelowAllUniques 9 = .ok (.if_icmp .ge 36, 3) := by decide +kernel
theorem dX5_isBelowAllUniques_12 : decode cX5_isBelowAllUniques 12 = .ok (.aload_n 0, 1) := by decide +kernel
theorem dX5_isBelowAllUniques_13 : decode cX5_isBelowAllUniques 13 = .ok (.getfield 55, 3) := by decide +kernel
theorem dX5_isBelowAllUniques_16 : decode cX5_isBelowAllUniques 16 = .ok (.getfield 171, 3) := by decide +kernel
theorem dX5_isBelowAllUniques_19 : decode cX5_isBelowAllUniques 19 = .ok (.aload_n 0, 1) := by decide +kernel
theorem dX5_isBelowAllUniques_20 : decode cX5_isBelowAllUniques 20 = .ok (.getfield 31, 3) := by decide +kernel
theorem dX5_isBelowAllUniques_23 : decode cX5_isBelowAllUniques 23 = .ok (.iload_n 2, 1) := by decide +kernel
theorem dX5_isBelowAllUniques_24 : decode cX5_isBelowAllUniques 24 = .ok (.bipush 8, 2) := by decide +kernel
theorem dX5_isBelowAllUniques_26 : decode cX5_isBelowAllUniques 26 = .ok (.imul, 1) := by decide +kernel
theorem dX5_isBelowAllUniques_27 : decode cX5_isBelowAllUniques 27 = .ok (.iload_n 3, 1) := by decide +kernel
theorem dX5_isBelowAllUniques_28 : decode cX5_isBelowAllUniques 28 = .ok (.iadd, 1) := by decide +kernel
theorem dX5_isBelowAllUniques_29 : decode cX5_isBelowAllUniques 29 = .ok (.iaload, 1) := by decide +kernel
theorem dX5_isBelowAllUniques_30 : decode cX5_isBelowAllUniques 30 = .ok (.iload_n 1, 1) := by decide +kernel
theorem dX5_isBelowAllUniques_31 : decode cX5_isBelowAllUniques 31 = .ok (.invokevirtual 92, 3) := by decide +kernel
theorem dX5_isBelowAllUniques_34 : decode cX5_isBelowAllUniques 34 = .ok (.ifCond .ne 5, 3) := by decide +kernel
theorem dX5_isBelowAllUniques_37 : decode cX5_isBelowAllUniques 37 = .ok (.iconst 0, 1) := by decide +kernel
theorem dX5_isBelowAllUniques_38 : decode cX5_isBelowAllUniques 38 = .ok (.ireturn, 1) := by decide +kernel
theorem dX5_isBelowAllUniques_39 : decode cX5_isBelowAllUniques 39 = .ok (.iinc 3 1, 3) := by decide +kernel
theorem dX5_isBelowAllUniques_42 : decode cX5_isBelowAllUniques 42 = .ok (.goto (-40), 3) := by decide +kernel
theorem dX5_isBelowAllUniques_45 : decode cX5_isBelowAllUniques 45 = .ok (.iconst 1, 1) := by decide +kernel
theorem dX5_isBelowAllUniques_46 : decode cX5_isBelowAllUniques 46 = .ok (.ireturn, 1) := by decide +kernel
theorem dX5_stampIn_0 : decode cX5_stampIn 0 = .ok (.iconst 0, 1) := by decide +kernel
theorem dX5_stampIn_1 : decode cX5_stampIn 1 = .ok (.istore_n 3, 1) := by decide +kernel
theorem dX5_stampIn_2 : decode cX5_stampIn 2 = .ok (.iload_n 3, 1) := by decide +kernel
theorem dX5_stampIn_3 : decode cX5_stampIn 3 = .ok (.aload_n 0, 1) := by decide +kernel
theorem dX5_stampIn_4 : decode cX5_stampIn 4 = .ok (.getfield 34, 3) := by decide +kernel
theorem dX5_stampIn_7 : decode cX5_stampIn 7 = .ok (.iload_n 1, 1) := by decide +kernel
theorem dX5_stampIn_8 : decode cX5_stampIn 8 = .ok (.iaload, 1) := by decide +kernel
theorem dX5_stampIn_9 : decode cX5_stampIn 9 = .ok (.if_icmp .ge 89, 3) := by decide +kernel
theorem dX5_stampIn_12 : decode cX5_stampIn 12 = .ok (.aload_n 0, 1) := by decide +kernel
theorem dX5_stampIn_13 : decode cX5_stampIn 13 = .ok (.getfield 51, 3) := by decide +kernel
theorem dX5_stampIn_16 : decode cX5_stampIn 16 = .ok (.getfield 174, 3) := by decide +kernel
theorem dX5_stampIn_19 : decode cX5_stampIn 19 = .ok (.aload_n 0, 1) := by decide +kernel
theorem dX5_stampIn_20 : decode cX5_stampIn 20 = .ok (.iload_n 2, 1) := by decide +kernel
theorem dX5_stampIn_21 : decode cX5_stampIn 21 = .ok (.aload_n 0, 1) := by decide +kernel
theorem dX5_stampIn_22 : decode cX5_stampIn 22 = .ok (.getfield 31, 3) := by decide +kernel
theorem dX5_stampIn_25 : decode cX5_stampIn 25 = .ok (.iload_n 1, 1) := by decide +kernel
theorem dX5_stampIn_26 : decode cX5_stampIn 26 = .ok (.bipush 8, 2) := by decide +kernel
theorem dX5_stampIn_28 : decode cX5_stampIn 28 = .ok (.imul, 1) := by decide +kernel
theorem dX5_stampIn_29 : decode cX5_stampIn 29 = .ok (.iload_n 3, 1) := by decide +kernel
theorem dX5_stampIn_30 : decode cX5_stampIn 30 = .ok (.iadd, 1) := by decide +kernel
theorem dX5_stampIn_31 : decode cX5_stampIn 31 = .ok (.iaload, 1) := by decide +kernel
theorem dX5_stampIn_32 : decode cX5_stampIn 32 = .ok (.invokevirtual 177, 3) := by decide +kernel
theorem dX5_stampIn_35 : decode cX5_stampIn 35 = .ok (.laload, 1) := by decide +kernel
theorem dX5_stampIn_36 : decode cX5_stampIn 36 = .ok (.lstore 4, 2) := by decide +kernel
theorem dX5_stampIn_38 : decode cX5_stampIn 38 = .ok (.iload_n 3, 1) := by decide +kernel
theorem dX5_stampIn_39 : decode cX5_stampIn 39 = .ok (.istore 6, 2) := by decide +kernel
theorem dX5_stampIn_41 : decode cX5_stampIn 41 = .ok (.iload 6, 2) := by decide +kernel
theorem dX5_stampIn_43 : decode cX5_stampIn 43 = .ok (.ifCond .le 40, 3) := by decide +kernel
theorem dX5_stampIn_46 : decode cX5_stampIn 46 = .ok (.aload_n 0, 1) := by decide +kernel
theorem dX5_stampIn_47 : decode cX5_stampIn 47 = .ok (.getfield 44, 3) := by decide +kernel
theorem dX5_stampIn_50 : decode cX5_stampIn 50 = .ok (.iload 6, 2) := by decide +kernel
theorem dX5_stampIn_52 : decode cX5_stampIn 52 = .ok (.iconst 1, 1) := by decide +kernel
theorem dX5_stampIn_53 : decode cX5_stampIn 53 = .ok (.isub, 1) := by decide +kernel
theorem dX5_stampIn_54 : decode cX5_stampIn 54 = .ok (.laload, 1) := by decide +kernel
theorem dX5_stampIn_55 : decode cX5_stampIn 55 = .ok (.lload 4, 2) := by decide +kernel
theorem dX5_stampIn_57 : decode cX5_stampIn 57 = .ok (.lcmp, 1) := by decide +kernel
theorem dX5_stampIn_58 : decode cX5_stampIn 58 = .ok (.ifCond .le 25, 3) := by decide +kernel
theorem dX5_stampIn_61 : decode cX5_stampIn 61 = .ok (.aload_n 0, 1) := by decide +kernel
theorem dX5_stampIn_62 : decode cX5_stampIn 62 = .ok (.getfield 44, 3) := by decide +kernel
theorem dX5_stampIn_65 : decode cX5_stampIn 65 = .ok (.iload 6, 2) := by decide +kernel
theorem dX5_stampIn_67 : decode cX5_stampIn 67 = .ok (.aload_n 0, 1) := by decide +kernel
theorem dX5_stampIn_68 : decode cX5_stampIn 68 = .ok (.getfield 44, 3) := by decide +kernel
theorem dX5_stampIn_71 : decode cX5_stampIn 71 = .ok (.iload 6, 2) := by decide +kernel
theorem dX5_stampIn_73 : decode cX5_stampIn 73 = .ok (.iconst 1, 1) := by decide +kernel
theorem dX5_stampIn_74 : decode cX5_stampIn 74 = .ok (.isub, 1) := by decide +kernel
theorem dX5_stampIn_75 : decode cX5_stampIn 75 = .ok (.laload, 1) := by decide +kernel
theorem dX5_stampIn_76 : decode cX5_stampIn 76 = .ok (.lastore, 1) := by decide +kernel
theorem dX5_stampIn_77 : decode cX5_stampIn 77 = .ok (.iinc 6 (-1), 3) := by decide +kernel
theorem dX5_stampIn_80 : decode cX5_stampIn 80 = .ok (.goto (-39), 3) := by decide +kernel
theorem dX5_stampIn_83 : decode cX5_stampIn 83 = .ok (.aload_n 0, 1) := by decide +kernel
theorem dX5_stampIn_84 : decode cX5_stampIn 84 = .ok (.getfield 44, 3) := by decide +kernel
theorem dX5_stampIn_87 : decode cX5_stampIn 87 = .ok (.iload 6, 2) := by decide +kernel
theorem dX5_stampIn_89 : decode cX5_stampIn 89 = .ok (.lload 4, 2) := by decide +kernel
theorem dX5_stampIn_91 : decode cX5_stampIn 91 = .ok (.lastore, 1) := by decide +kernel
theorem dX5_stampIn_92 : decode cX5_stampIn 92 = .ok (.iinc 3 1, 3) := by decide +kernel
theorem dX5_stampIn_95 : decode cX5_stampIn 95 = .ok (.goto (-93), 3) := by decide +kernel
theorem dX5_stampIn_98 : decode cX5_stampIn 98 = .ok (.aload_n 0, 1) := by decide +kernel
theorem dX5_stampIn_99 : decode cX5_stampIn 99 = .ok (.getfield 44, 3) := by decide +kernel
theorem dX5_stampIn_102 : decode cX5_stampIn 102 = .ok (.aload_n 0, 1) := by decide +kernel
theorem dX5_stampIn_103 : decode cX5_stampIn 103 = .ok (.getfield 34, 3) := by decide +kernel
theorem dX5_stampIn_106 : decode cX5_stampIn 106 = .ok (.iload_n 1, 1) := by decide +kernel
theorem dX5_stampIn_107 : decode cX5_stampIn 107 = .ok (.iaload, 1) := by decide +kernel
theorem dX5_stampIn_108 : decode cX5_stampIn 108 = .ok (.iconst 2, 1) := by decide +kernel
theorem dX5_stampIn_109 : decode cX5_stampIn 109 = .ok (.idiv, 1) := by decide +kernel
theorem dX5_stampIn_110 : decode cX5_stampIn 110 = .ok (.laload, 1) := by decide +kernel
theorem dX5_stampIn_111 : decode cX5_stampIn 111 = .ok (.lreturn, 1) := by decide +kernel
theorem dX5_firstAbove_0 : decode cX5_firstAbove 0 = .ok (.iload_n 2, 1) := by decide +kernel
theorem dX5_firstAbove_1 : decode cX5_firstAbove 1 = .ok (.istore_n 3, 1) := by decide +kernel
theorem dX5_firstAbove_2 : decode cX5_firstAbove 2 = .ok (.iconst 0, 1) := by decide +kernel
theorem dX5_firstAbove_3 : decode cX5_firstAbove 3 = .ok (.istore 4, 2) := by decide +kernel
theorem dX5_firstAbove_5 : decode cX5_firstAbove 5 = .ok (.iload 4, 2) := by decide +kernel
theorem dX5_firstAbove_7 : decode cX5_firstAbove 7 = .ok (.sipush 240, 3) := by decide +kernel
theorem dX5_firstAbove_10 : decode cX5_firstAbove 10 = .ok (.if_icmp .ge 47, 3) := by decide +kernel
theorem dX5_firstAbove_13 : decode cX5_firstAbove 13 = .ok (.aload_n 0, 1) := by decide +kernel
theorem dX5_firstAbove_14 : decode cX5_firstAbove 14 = .ok (.getfield 51, 3) := by decide +kernel
theorem dX5_firstAbove_17 : decode cX5_firstAbove 17 = .ok (.getfield 180, 3) := by decide +kernel
theorem dX5_firstAbove_20 : decode cX5_firstAbove 20 = .ok (.iload_n 3, 1) := by decide +kernel
theorem dX5_firstAbove_21 : decode cX5_firstAbove 21 = .ok (.iaload, 1) := by decide +kernel
theorem dX5_firstAbove_22 : decode cX5_firstAbove 22 = .ok (.istore 5, 2) := by decide +kernel
theorem dX5_firstAbove_24 : decode cX5_firstAbove 24 = .ok (.iload 5, 2) := by decide +kernel
theorem dX5_firstAbove_26 : decode cX5_firstAbove 26 = .ok (.iconst (-1), 1) := by decide +kernel
theorem dX5_firstAbove_27 : decode cX5_firstAbove 27 = .ok (.if_icmp .eq 19, 3) := by decide +kernel
theorem dX5_firstAbove_30 : decode cX5_firstAbove 30 = .ok (.aload_n 0, 1) := by decide +kernel
theorem dX5_firstAbove_31 : decode cX5_firstAbove 31 = .ok (.getfield 55, 3) := by decide +kernel
theorem dX5_firstAbove_34 : decode cX5_firstAbove 34 = .ok (.getfield 171, 3) := by decide +kernel
theorem dX5_firstAbove_37 : decode cX5_firstAbove 37 = .ok (.iload 5, 2) := by decide +kernel
theorem dX5_firstAbove_39 : decode cX5_firstAbove 39 = .ok (.iload_n 1, 1) := by decide +kernel
theorem dX5_firstAbove_40 : decode cX5_firstAbove 40 = .ok (.invokevirtual 92, 3) := by decide +kernel
theorem dX5_firstAbove_43 : decode cX5_firstAbove 43 = .ok (.ifCond .ne 5, 3) := by decide +kernel
theorem dX5_firstAbove_46 : decode cX5_firstAbove 46 = .ok (.iload_n 3, 1) := by decide +kernel
theorem dX5_firstAbove_47 : decode cX5_firstAbove 47 = .ok (.ireturn, 1) := by decide +kernel
theorem dX5_firstAbove_48 : decode cX5_firstAbove 48 = .ok (.iload 5, 2) := by decide +kernel
theorem dX5_firstAbove_50 : decode cX5_firstAbove 50 = .ok (.istore_n 3, 1) := by decide +kernel
theorem dX5_firstAbove_51 : decode cX5_firstAbove 51 = .ok (.iinc 4 1, 3) := by decide +kernel
theorem dX5_firstAbove_54 : decode cX5_firstAbove 54 = .ok (.goto (-49), 3) := by decide +kernel
theorem dX5_firstAbove_57 : decode cX5_firstAbove 57 = .ok (.iload_n 3, 1) := by decide +kernel
theorem dX5_firstAbove_58 : decode cX5_firstAbove 58 = .ok (.ireturn, 1) := by decide +kernel
theorem dX5_findOrder_0 : decode cX5_findOrder 0 = .ok (.aload_n 0, 1) := by decide +kernel
theorem dX5_findOrder_1 : decode cX5_findOrder 1 = .ok (.getfield 22, 3) := by decide +kernel
theorem dX5_findOrder_4 : decode cX5_findOrder 4 = .ok (.iconst (-1), 1) := by decide +kernel
theorem dX5_findOrder_5 : decode cX5_findOrder 5 = .ok (.invokestatic 98, 3) := by decide +kernel
theorem dX5_findOrder_8 : decode cX5_findOrder 8 = .ok (.aload_n 0, 1) := by decide +kernel
theorem dX5_findOrder_9 : decode cX5_findOrder 9 = .ok (.iconst 0, 1) := by decide +kernel
theorem dX5_findOrder_10 : decode cX5_findOrder 10 = .ok (.putfield 183, 3) := by decide +kernel
theorem dX5_findOrder_13 : decode cX5_findOrder 13 = .ok (.iconst 0, 1) := by decide +kernel
theorem dX5_findOrder_14 : decode cX5_findOrder 14 = .ok (.istore_n 1, 1) := by decide +kernel
theorem dX5_findOrder_15 : decode cX5_findOrder 15 = .ok (.iload_n 1, 1) := by decide +kernel
theorem dX5_findOrder_16 : decode cX5_findOrder 16 = .ok (.aload_n 0, 1) := by decide +kernel
theorem dX5_findOrder_17 : decode cX5_findOrder 17 = .ok (.getfield 51, 3) := by decide +kernel
theorem dX5_findOrder_20 : decode cX5_findOrder 20 = .ok (.getfield 157, 3) := by decide +kernel
theorem dX5_findOrder_23 : decode cX5_findOrder 23 = .ok (.if_icmp .ge 23, 3) := by decide +kernel
theorem dX5_findOrder_26 : decode cX5_findOrder 26 = .ok (.aload_n 0, 1) := by decide +kernel
theorem dX5_findOrder_27 : decode cX5_findOrder 27 = .ok (.getfield 15, 3) := by decide +kernel
theorem dX5_findOrder_30 : decode cX5_findOrder 30 = .ok (.iload_n 1, 1) := by decide +kernel
theorem dX5_findOrder_31 : decode cX5_findOrder 31 = .ok (.iaload, 1) := by decide +kernel
theorem dX5_findOrder_32 : decode cX5_findOrder 32 = .ok (.ifCond .eq 8, 3) := by decide +kernel
theorem dX5_findOrder_35 : decode cX5_findOrder 35 = .ok (.aload_n 0, 1) := by decide +kernel
theorem dX5_findOrder_36 : decode cX5_findOrder 36 = .ok (.iload_n 1, 1) := by decide +kernel
theorem dX5_findOrder_37 : decode cX5_findOrder 37 = .ok (.invokevirtual 186, 3) := by decide +kernel
theorem dX5_findOrder_40 : decode cX5_findOrder 40 = .ok (.iinc 1 1, 3) := by decide +kernel
theorem dX5_findOrder_43 : decode cX5_findOrder 43 = .ok (.goto (-28), 3) := by decide +kernel
theorem dX5_findOrder_46 : decode cX5_findOrder 46 = .ok (.iconst 0, 1) := by decide +kernel
theorem dX5_findOrder_47 : decode cX5_findOrder 47 = .ok (.istore_n 1, 1) := by decide +kernel
theorem dX5_findOrder_48 : decode cX5_findOrder 48 = .ok (.iload_n 1, 1) := by decide +kernel
theorem dX5_findOrder_49 : decode cX5_findOrder 49 = .ok (.aload_n 0, 1) := by decide +kernel
theorem dX5_findOrder_50 : decode cX5_findOrder 50 = .ok (.getfield 183, 3) := by decide +kernel
theorem dX5_findOrder_53 : decode cX5_findOrder 53 = .ok (.if_icmp .ge 21, 3) := by decide +kernel
theorem dX5_findOrder_56 : decode cX5_findOrder 56 = .ok (.aload_n 0, 1) := by decide +kernel
theorem dX5_findOrder_57 : decode cX5_findOrder 57 = .ok (.getfield 22, 3) := by decide +kernel
theorem dX5_findOrder_60 : decode cX5_findOrder 60 = .ok (.aload_n 0, 1) := by decide +kernel
theorem dX5_findOrder_61 : decode cX5_findOrder 61 = .ok (.getfield 25, 3) := by decide +kernel
theorem dX5_findOrder_64 : decode cX5_findOrder 64 = .ok (.iload_n 1, 1) := by decide +kernel
theorem dX5_findOrder_65 : decode cX5_findOrder 65 = .ok (.iaload, 1) := by decide +kernel
theorem dX5_findOrder_66 : decode cX5_findOrder 66 = .ok (.iload_n 1, 1) := by decide +kernel
theorem dX5_findOrder_67 : decode cX5_findOrder 67 = .ok (.iastore, 1) := by decide +kernel
theorem dX5_findOrder_68 : decode cX5_findOrder 68 = .ok (.iinc 1 1, 3) := by decide +kernel
theorem dX5_findOrder_71 : decode cX5_findOrder 71 = .ok (.goto (-23), 3) := by decide +kernel
theorem dX5_findOrder_74 : decode cX5_findOrder 74 = .ok (.return_, 1) := by decide +kernel
theorem dX5_insert_0 : decode cX5_insert 0 = .ok (.aload_n 0, 1) := by decide +kernel
theorem dX5_insert_1 : decode cX5_insert 1 = .ok (.getfield 183, 3) := by decide +kernel
theorem dX5_insert_4 : decode cX5_insert 4 = .ok (.istore_n 2, 1) := by decide +kernel
theorem dX5_insert_5 : decode cX5_insert 5 = .ok (.iload_n 2, 1) := by decide +kernel
theorem dX5_insert_6 : decode cX5_insert 6 = .ok (.ifCond .le 39, 3) := by decide +kernel
theorem dX5_insert_9 : decode cX5_insert 9 = .ok (.aload_n 0, 1) := by decide +kernel
theorem dX5_insert_10 : decode cX5_insert 10 = .ok (.iload_n 1, 1) := by decide +kernel
theorem dX5_insert_11 : decode cX5_insert 11 = .ok (.aload_n 0, 1) := by decide +kernel
theorem dX5_insert_12 : decode cX5_insert 12 = .ok (.getfield 25, 3) := by decide +kernel
theorem dX5_insert_15 : decode cX5_insert 15 = .ok (.iload_n 2, 1) := by decide +kernel
theorem dX5_insert_16 : decode cX5_insert 16 = .ok (.iconst 1, 1) := by decide +kernel
theorem dX5_insert_17 : decode cX5_insert 17 = .ok (.isub, 1) := by decide +kernel
theorem dX5_insert_18 : decode cX5_insert 18 = .ok (.iaload, 1) := by decide +kernel
theorem dX5_insert_19 : decode cX5_insert 19 = .ok (.invokevirtual 189, 3) := by decide +kernel
theorem dX5_insert_22 : decode cX5_insert 22 = .ok (.ifCond .eq 23, 3) := by decide +kernel
theorem dX5_insert_25 : decode cX5_insert 25 = .ok (.aload_n 0, 1) := by decide +kernel
theorem dX5_insert_26 : decode cX5_insert 26 = .ok (.getfield 25, 3) := by decide +kernel
theorem dX5_insert_29 : decode cX5_insert 29 = .ok (.iload_n 2, 1) := by decide +kernel
theorem dX5_insert_30 : decode cX5_insert 30 = .ok (.aload_n 0, 1) := by decide +kernel
theorem dX5_insert_31 : decode cX5_insert 31 = .ok (.getfield 25, 3) := by decide +kernel
theorem dX5_insert_34 : decode cX5_insert 34 = .ok (.iload_n 2, 1) := by decide +kernel
theorem dX5_insert_35 : decode cX5_insert 35 = .ok (.iconst 1, 1) := by decide +kernel
theorem dX5_insert_36 : decode cX5_insert 36 = .ok (.isub, 1) := by decide +kernel
theorem dX5_insert_37 : decode cX5_insert 37 = .ok (.iaload, 1) := by decide +kernel
theorem dX5_insert_38 : decode cX5_insert 38 = .ok (.iastore, 1) := by decide +kernel
theorem dX5_insert_39 : decode cX5_insert 39 = .ok (.iinc 2 (-1), 3) := by decide +kernel
theorem dX5_insert_42 : decode cX5_insert 42 = .ok (.goto (-37), 3) := by decide +kernel
theorem dX5_insert_45 : decode cX5_insert 45 = .ok (.aload_n 0, 1) := by decide +kernel
theorem dX5_insert_46 : decode cX5_insert 46 = .ok (.getfield 25, 3) := by decide +kernel
theorem dX5_insert_49 : decode cX5_insert 49 = .ok (.iload_n 2, 1) := by decide +kernel
theorem dX5_insert_50 : decode cX5_insert 50 = .ok (.iload_n 1, 1) := by decide +kernel
theorem dX5_insert_51 : decode cX5_insert 51 = .ok (.iastore, 1) := by decide +kernel
theorem dX5_insert_52 : decode cX5_insert 52 = .ok (.aload_n 0, 1) := by decide +kernel
theorem dX5_insert_53 : decode cX5_insert 53 = .ok (.dup, 1) := by decide +kernel
theorem dX5_insert_54 : decode cX5_insert 54 = .ok (.getfield 183, 3) := by decide +kernel
theorem dX5_insert_57 : decode cX5_insert 57 = .ok (.iconst 1, 1) := by decide +kernel
theorem dX5_insert_58 : decode cX5_insert 58 = .ok (.iadd, 1) := by decide +kernel
theorem dX5_insert_59 : decode cX5_insert 59 = .ok (.putfield 183, 3) := by decide +kernel
theorem dX5_insert_62 : decode cX5_insert 62 = .ok (.return_, 1) := by decide +kernel
theorem dX5_isBefore_0 : decode cX5_isBefore 0 = .ok (.aload_n 0, 1) := by decide +kernel
theorem dX5_isBefore_1 : decode cX5_isBefore 1 = .ok (.getfield 15, 3) := by decide +kernel
theorem dX5_isBefore_4 : decode cX5_isBefore 4 = .ok (.iload_n 1, 1) := by decide +kernel
theorem dX5_isBefore_5 : decode cX5_isBefore 5 = .ok (.iaload, 1) := by decide +kernel
theorem dX5_isBefore_6 : decode cX5_isBefore 6 = .ok (.aload_n 0, 1) := by decide +kernel
theorem dX5_isBefore_7 : decode cX5_isBefore 7 = .ok (.getfield 15, 3) := by decide +kernel
theorem dX5_isBefore_10 : decode cX5_isBefore 10 = .ok (.iload_n 2, 1) := by decide +kernel
theorem dX5_isBefore_11 : decode cX5_isBefore 11 = .ok (.iaload, 1) := by decide +kernel
theorem dX5_isBefore_12 : decode cX5_isBefore 12 = .ok (.if_icmp .eq 24, 3) := by decide +kernel
theorem dX5_isBefore_15 : decode cX5_isBefore 15 = .ok (.aload_n 0, 1) := by decide +kernel
theorem dX5_isBefore_16 : decode cX5_isBefore 16 = .ok (.getfield 15, 3) := by decide +kernel
theorem dX5_isBefore_19 : decode cX5_isBefore 19 = .ok (.iload_n 1, 1) := by decide +kernel
theorem dX5_isBefore_20 : decode cX5_isBefore 20 = .ok (.iaload, 1) := by decide +kernel
theorem dX5_isBefore_21 : decode cX5_isBefore 21 = .ok (.aload_n 0, 1) := by decide +kernel
theorem dX5_isBefore_22 : decode cX5_isBefore 22 = .ok (.getfield 15, 3) := by decide +kernel
theorem dX5_isBefore_25 : decode cX5_isBefore 25 = .ok (.iload_n 2, 1) := by decide +kernel
theorem dX5_isBefore_26 : decode cX5_isBefore 26 = .ok (.iaload, 1) := by decide +kernel
theorem dX5_isBefore_27 : decode cX5_isBefore 27 = .ok (.if_icmp .ge 7, 3) := by decide +kernel
theorem dX5_isBefore_30 : decode cX5_isBefore 30 = .ok (.iconst 1, 1) := by decide +kernel
theorem dX5_isBefore_31 : decode cX5_isBefore 31 = .ok (.goto 4, 3) := by decide +kernel
theorem dX5_isBefore_34 : decode cX5_isBefore 34 = .ok (.iconst 0, 1) := by decide +kernel
theorem dX5_isBefore_35 : decode cX5_isBefore 35 = .ok (.ireturn, 1) := by decide +kernel
theorem dX5_isBefore_36 : decode cX5_isBefore 36 = .ok (.aload_n 0, 1) := by decide +kernel
theorem dX5_isBefore_37 : decode cX5_isBefore 37 = .ok (.getfield 18, 3) := by decide +kernel
theorem dX5_isBefore_40 : decode cX5_isBefore 40 = .ok (.iload_n 1, 1) := by decide +kernel
theorem dX5_isBefore_41 : decode cX5_isBefore 41 = .ok (.laload, 1) := by decide +kernel
theorem dX5_isBefore_42 : decode cX5_isBefore 42 = .ok (.aload_n 0, 1) := by decide +kernel
theorem dX5_isBefore_43 : decode cX5_isBefore 43 = .ok (.getfield 18, 3) := by decide +kernel
theorem dX5_isBefore_46 : decode cX5_isBefore 46 = .ok (.iload_n 2, 1) := by decide +kernel
theorem dX5_isBefore_47 : decode cX5_isBefore 47 = .ok (.laload, 1) := by decide +kernel
theorem dX5_isBefore_48 : decode cX5_isBefore 48 = .ok (.lcmp, 1) := by decide +kernel
theorem dX5_isBefore_49 : decode cX5_isBefore 49 = .ok (.ifCond .eq 25, 3) := by decide +kernel
theorem dX5_isBefore_52 : decode cX5_isBefore 52 = .ok (.aload_n 0, 1) := by decide +kernel
theorem dX5_isBefore_53 : decode cX5_isBefore 53 = .ok (.getfield 18, 3) := by decide +kernel
theorem dX5_isBefore_56 : decode cX5_isBefore 56 = .ok (.iload_n 1, 1) := by decide +kernel
theorem dX5_isBefore_57 : decode cX5_isBefore 57 = .ok (.laload, 1) := by decide +kernel
theorem dX5_isBefore_58 : decode cX5_isBefore 58 = .ok (.aload_n 0, 1) := by decide +kernel
theorem dX5_isBefore_59 : decode cX5_isBefore 59 = .ok (.getfield 18, 3) := by decide +kernel
theorem dX5_isBefore_62 : decode cX5_isBefore 62 = .ok (.iload_n 2, 1) := by decide +kernel
theorem dX5_isBefore_63 : decode cX5_isBefore 63 = .ok (.laload, 1) := by decide +kernel
theorem dX5_isBefore_64 : decode cX5_isBefore 64 = .ok (.lcmp, 1) := by decide +kernel
theorem dX5_isBefore_65 : decode cX5_isBefore 65 = .ok (.ifCond .ge 7, 3) := by decide +kernel
theorem dX5_isBefore_68 : decode cX5_isBefore 68 = .ok (.iconst 1, 1) := by decide +kernel
theorem dX5_isBefore_69 : decode cX5_isBefore 69 = .ok (.goto 4, 3) := by decide +kernel
theorem dX5_isBefore_72 : decode cX5_isBefore 72 = .ok (.iconst 0, 1) := by decide +kernel
theorem dX5_isBefore_73 : decode cX5_isBefore 73 = .ok (.ireturn, 1) := by decide +kernel
theorem dX5_isBefore_74 : decode cX5_isBefore 74 = .ok (.iconst 0, 1) := by decide +kernel
theorem dX5_isBefore_75 : decode cX5_isBefore 75 = .ok (.istore_n 3, 1) := by decide +kernel
theorem dX5_isBefore_76 : decode cX5_isBefore 76 = .ok (.iload_n 3, 1) := by decide +kernel
theorem dX5_isBefore_77 : decode cX5_isBefore 77 = .ok (.bipush 8, 2) := by decide +kernel
theorem dX5_isBefore_79 : decode cX5_isBefore 79 = .ok (.if_icmp .ge 81, 3) := by decide +kernel
theorem dX5_isBefore_82 : decode cX5_isBefore 82 = .ok (.aload_n 0, 1) := by decide +kernel
theorem dX5_isBefore_83 : decode cX5_isBefore 83 = .ok (.getfield 37, 3) := by decide +kernel
theorem dX5_isBefore_86 : decode cX5_isBefore 86 = .ok (.aload_n 0, 1) := by decide +kernel
theorem dX5_isBefore_87 : decode cX5_isBefore 87 = .ok (.getfield 15, 3) := by decide +kernel
theorem dX5_isBefore_90 : decode cX5_isBefore 90 = .ok (.iload_n 1, 1) := by decide +kernel
theorem dX5_isBefore_91 : decode cX5_isBefore 91 = .ok (.iaload, 1) := by decide +kernel
theorem dX5_isBefore_92 : decode cX5_isBefore 92 = .ok (.bipush 8, 2) := by decide +kernel
theorem dX5_isBefore_94 : decode cX5_isBefore 94 = .ok (.imul, 1) := by decide +kernel
theorem dX5_isBefore_95 : decode cX5_isBefore 95 = .ok (.iload_n 3, 1) := by decide +kernel
theorem dX5_isBefore_96 : decode cX5_isBefore 96 = .ok (.iadd, 1) := by decide +kernel
theorem dX5_isBefore_97 : decode cX5_isBefore 97 = .ok (.iaload, 1) := by decide +kernel
theorem dX5_isBefore_98 : decode cX5_isBefore 98 = .ok (.istore 4, 2) := by decide +kernel
theorem dX5_isBefore_100 : decode cX5_isBefore 100 = .ok (.aload_n 0, 1) := by decide +kernel
theorem dX5_isBefore_101 : decode cX5_isBefore 101 = .ok (.getfield 51, 3) := by decide +kernel
theorem dX5_isBefore_104 : decode cX5_isBefore 104 = .ok (.iload_n 1, 1) := by decide +kernel
theorem dX5_isBefore_105 : decode cX5_isBefore 105 = .ok (.iload_n 3, 1) := by decide +kernel
theorem dX5_isBefore_106 : decode cX5_isBefore 106 = .ok (.invokevirtual 141, 3) := by decide +kernel
theorem dX5_isBefore_109 : decode cX5_isBefore 109 = .ok (.iload 4, 2) := by decide +kernel
theorem dX5_isBefore_111 : decode cX5_isBefore 111 = .ok (.ixor, 1) := by decide +kernel
theorem dX5_isBefore_112 : decode cX5_isBefore 112 = .ok (.istore 5, 2) := by decide +kernel
theorem dX5_isBefore_114 : decode cX5_isBefore 114 = .ok (.aload_n 0, 1) := by decide +kernel
theorem dX5_isBefore_115 : decode cX5_isBefore 115 = .ok (.getfield 51, 3) := by decide +kernel
theorem dX5_isBefore_118 : decode cX5_isBefore 118 = .ok (.iload_n 2, 1) := by decide +kernel
theorem dX5_isBefore_119 : decode cX5_isBefore 119 = .ok (.iload_n 3, 1) := by decide +kernel
theorem dX5_isBefore_120 : decode cX5_isBefore 120 = .ok (.invokevirtual 141, 3) := by decide +kernel
theorem dX5_isBefore_123 : decode cX5_isBefore 123 = .ok (.iload 4, 2) := by decide +kernel
theorem dX5_isBefore_125 : decode cX5_isBefore 125 = .ok (.ixor, 1) := by decide +kernel
theorem dX5_isBefore_126 : decode cX5_isBefore 126 = .ok (.istore 6, 2) := by decide +kernel
theorem dX5_isBefore_128 : decode cX5_isBefore 128 = .ok (.iload 5, 2) := by decide +kernel
theorem dX5_isBefore_130 : decode cX5_isBefore 130 = .ok (.iload 6, 2) := by decide +kernel
theorem dX5_isBefore_132 : decode cX5_isBefore 132 = .ok (.if_icmp .eq 22, 3) := by decide +kernel
theorem dX5_isBefore_135 : decode cX5_isBefore 135 = .ok (.iload 5, 2) := by decide +kernel
theorem dX5_isBefore_137 : decode cX5_isBefore 137 = .ok (.ldc 194, 2) := by decide +kernel
theorem dX5_isBefore_139 : decode cX5_isBefore 139 = .ok (.ixor, 1) := by decide +kernel
theorem dX5_isBefore_140 : decode cX5_isBefore 140 = .ok (.iload 6, 2) := by decide +kernel
theorem dX5_isBefore_142 : decode cX5_isBefore 142 = .ok (.ldc 194, 2) := by decide +kernel
theorem dX5_isBefore_144 : decode cX5_isBefore 144 = .ok (.ixor, 1) := by decide +kernel
theorem dX5_isBefore_145 : decode cX5_isBefore 145 = .ok (.if_icmp .ge 7, 3) := by decide +kernel
theorem dX5_isBefore_148 : decode cX5_isBefore 148 = .ok (.iconst 1, 1) := by decide +kernel
theorem dX5_isBefore_149 : decode cX5_isBefore 149 = .ok (.goto 4, 3) := by decide +kernel
theorem dX5_isBefore_152 : decode cX5_isBefore 152 = .ok (.iconst 0, 1) := by decide +kernel
theorem dX5_isBefore_153 : decode cX5_isBefore 153 = .ok (.ireturn, 1) := by decide +kernel
theorem dX5_isBefore_154 : decode cX5_isBefore 154 = .ok (.iinc 3 1, 3) := by decide +kernel
theorem dX5_isBefore_157 : decode cX5_isBefore 157 = .ok (.goto (-81), 3) := by decide +kernel
theorem dX5_isBefore_160 : decode cX5_isBefore 160 = .ok (.iload_n 1, 1) := by decide +kernel
theorem dX5_isBefore_161 : decode cX5_isBefore 161 = .ok (.iload_n 2, 1) := by decide +kernel
theorem dX5_isBefore_162 : decode cX5_isBefore 162 = .ok (.if_icmp .ge 7, 3) := by decide +kernel
theorem dX5_isBefore_165 : decode cX5_isBefore 165 = .ok (.iconst 1, 1) := by decide +kernel
theorem dX5_isBefore_166 : decode cX5_isBefore 166 = .ok (.goto 4, 3) := by decide +kernel
theorem dX5_isBefore_169 : decode cX5_isBefore 169 = .ok (.iconst 0, 1) := by decide +kernel
theorem dX5_isBefore_170 : decode cX5_isBefore 170 = .ok (.ireturn, 1) := by decide +kernel
theorem dX5_findBalances_0 : decode cX5_findBalances 0 = .ok (.aload_n 0, 1) := by decide +kernel
theorem dX5_findBalances_1 : decode cX5_findBalances 1 = .ok (.getfield 28, 3) := by decide +kernel
theorem dX5_findBalances_4 : decode cX5_findBalances 4 = .ok (.iconst 0, 1) := by decide +kernel
theorem dX5_findBalances_5 : decode cX5_findBalances 5 = .ok (.invokestatic 98, 3) := by decide +kernel
theorem dX5_findBalances_8 : decode cX5_findBalances 8 = .ok (.aload_n 0, 1) := by decide +kernel
theorem dX5_findBalances_9 : decode cX5_findBalances 9 = .ok (.getfield 28, 3) := by decide +kernel
theorem dX5_findBalances_12 : decode cX5_findBalances 12 = .ok (.iconst 0, 1) := by decide +kernel
theorem dX5_findBalances_13 : decode cX5_findBalances 13 = .ok (.iload_n 1, 1) := by decide +kernel
theorem dX5_findBalances_14 : decode cX5_findBalances 14 = .ok (.ldc 195, 2) := by decide +kernel
theorem dX5_findBalances_16 : decode cX5_findBalances 16 = .ok (.invokestatic 196, 3) := by decide +kernel
theorem dX5_findBalances_19 : decode cX5_findBalances 19 = .ok (.iconst 0, 1) := by decide +kernel
theorem dX5_findBalances_20 : decode cX5_findBalances 20 = .ok (.istore_n 2, 1) := by decide +kernel
theorem dX5_findBalances_21 : decode cX5_findBalances 21 = .ok (.iload_n 2, 1) := by decide +kernel
theorem dX5_findBalances_22 : decode cX5_findBalances 22 = .ok (.aload_n 0, 1) := by decide +kernel
theorem dX5_findBalances_23 : decode cX5_findBalances 23 = .ok (.getfield 183, 3) := by decide +kernel
theorem dX5_findBalances_26 : decode cX5_findBalances 26 = .ok (.if_icmp .ge 80, 3) := by decide +kernel
theorem dX5_findBalances_29 : decode cX5_findBalances 29 = .ok (.aload_n 0, 1) := by decide +kernel
theorem dX5_findBalances_30 : decode cX5_findBalances 30 = .ok (.getfield 25, 3) := by decide +kernel
theorem dX5_findBalances_33 : decode cX5_findBalances 33 = .ok (.iload_n 2, 1) := by decide +kernel
theorem dX5_findBalances_34 : decode cX5_findBalances 34 = .ok (.iaload, 1) := by decide +kernel
theorem dX5_findBalances_35 : decode cX5_findBalances 35 = .ok (.istore_n 3, 1) := by decide +kernel
theorem dX5_findBalances_36 : decode cX5_findBalances 36 = .ok (.iconst 0, 1) := by decide +kernel
theorem dX5_findBalances_37 : decode cX5_findBalances 37 = .ok (.istore 4, 2) := by decide +kernel
theorem dX5_findBalances_39 : decode cX5_findBalances 39 = .ok (.iload 4, 2) := by decide +kernel
theorem dX5_findBalances_41 : decode cX5_findBalances 41 = .ok (.aload_n 0, 1) := by decide +kernel
theorem dX5_findBalances_42 : decode cX5_findBalances 42 = .ok (.getfield 51, 3) := by decide +kernel
theorem dX5_findBalances_45 : decode cX5_findBalances 45 = .ok (.getfield 199, 3) := by decide +kernel
theorem dX5_findBalances_48 : decode cX5_findBalances 48 = .ok (.iload_n 3, 1) := by decide +kernel
theorem dX5_findBalances_49 : decode cX5_findBalances 49 = .ok (.iaload, 1) := by decide +kernel
theorem dX5_findBalances_50 : decode cX5_findBalances 50 = .ok (.if_icmp .ge 50, 3) := by decide +kernel
theorem dX5_findBalances_53 : decode cX5_findBalances 53 = .ok (.iload_n 3, 1) := by decide +kernel
theorem dX5_findBalances_54 : decode cX5_findBalances 54 = .ok (.iconst 3, 1) := by decide +kernel
theorem dX5_findBalances_55 : decode cX5_findBalances 55 = .ok (.imul, 1) := by decide +kernel
theorem dX5_findBalances_56 : decode cX5_findBalances 56 = .ok (.iload 4, 2) := by decide +kernel
theorem dX5_findBalances_58 : decode cX5_findBalances 58 = .ok (.iadd, 1) := by decide +kernel
theorem dX5_findBalances_59 : decode cX5_findBalances 59 = .ok (.istore 5, 2) := by decide +kernel
theorem dX5_findBalances_61 : decode cX5_findBalances 61 = .ok (.aload_n 0, 1) := by decide +kernel
theorem dX5_findBalances_62 : decode cX5_findBalances 62 = .ok (.aload_n 0, 1) := by decide +kernel
theorem dX5_findBalances_63 : decode cX5_findBalances 63 = .ok (.getfield 51, 3) := by decide +kernel
theorem dX5_findBalances_66 : decode cX5_findBalances 66 = .ok (.getfield 138, 3) := by decide +kernel
theorem dX5_findBalances_69 : decode cX5_findBalances 69 = .ok (.iload_n 3, 1) := by decide +kernel
theorem dX5_findBalances_70 : decode cX5_findBalances 70 = .ok (.iaload, 1) := by decide +kernel
theorem dX5_findBalances_71 : decode cX5_findBalances 71 = .ok (.aload_n 0, 1) := by decide +kernel
theorem dX5_findBalances_72 : decode cX5_findBalances 72 = .ok (.getfield 51, 3) := by decide +kernel
theorem dX5_findBalances_75 : decode cX5_findBalances 75 = .ok (.getfield 202, 3) := by decide +kernel
theorem dX5_findBalances_78 : decode cX5_findBalances 78 = .ok (.iload 5, 2) := by decide +kernel
theorem dX5_findBalances_80 : decode cX5_findBalances 80 = .ok (.iaload, 1) := by decide +kernel
theorem dX5_findBalances_81 : decode cX5_findBalances 81 = .ok (.aload_n 0, 1) := by decide +kernel
theorem dX5_findBalances_82 : decode cX5_findBalances 82 = .ok (.getfield 51, 3) := by decide +kernel
theorem dX5_findBalances_85 : decode cX5_findBalances 85 = .ok (.getfield 205, 3) := by decide +kernel
theorem dX5_findBalances_88 : decode cX5_findBalances 88 = .ok (.iload 5, 2) := by decide +kernel
theorem dX5_findBalances_90 : decode cX5_findBalances 90 = .ok (.iaload, 1) := by decide +kernel
theorem dX5_findBalances_91 : decode cX5_findBalances 91 = .ok (.invokevirtual 208, 3) := by decide +kernel
theorem dX5_findBalances_94 : decode cX5_findBalances 94 = .ok (.iinc 4 1, 3) := by decide +kernel
theorem dX5_findBalances_97 : decode cX5_findBalances 97 = .ok (.goto (-58), 3) := by decide +kernel
theorem dX5_findBalances_100 : decode cX5_findBalances 100 = .ok (.iinc 2 1, 3) := by decide +kernel
theorem dX5_findBalances_103 : decode cX5_findBalances 103 = .ok (.goto (-82), 3) := by decide +kernel
theorem dX5_findBalances_106 : decode cX5_findBalances 106 = .ok (.return_, 1) := by decide +kernel
theorem dX5_pay_0 : decode cX5_pay 0 = .ok (.aload_n 0, 1) := by decide +kernel
theorem dX5_pay_1 : decode cX5_pay 1 = .ok (.getfield 28, 3) := by decide +kernel
theorem dX5_pay_4 : decode cX5_pay 4 = .ok (.iload_n 1, 1) := by decide +kernel
theorem dX5_pay_5 : decode cX5_pay 5 = .ok (.iaload, 1) := by decide +kernel
theorem dX5_pay_6 : decode cX5_pay 6 = .ok (.iload_n 3, 1) := by decide +kernel
theorem dX5_pay_7 : decode cX5_pay 7 = .ok (.if_icmp .lt 23, 3) := by decide +kernel
theorem dX5_pay_10 : decode cX5_pay 10 = .ok (.aload_n 0, 1) := by decide +kernel
theorem dX5_pay_11 : decode cX5_pay 11 = .ok (.getfield 28, 3) := by decide +kernel
theorem dX5_pay_14 : decode cX5_pay 14 = .ok (.iload_n 1, 1) := by decide +kernel
theorem dX5_pay_15 : decode cX5_pay 15 = .ok (.dup2, 1) := by decide +kernel
theorem dX5_pay_16 : decode cX5_pay 16 = .ok (.iaload, 1) := by decide +kernel
theorem dX5_pay_17 : decode cX5_pay 17 = .ok (.iload_n 3, 1) := by decide +kernel
theorem dX5_pay_18 : decode cX5_pay 18 = .ok (.isub, 1) := by decide +kernel
theorem dX5_pay_19 : decode cX5_pay 19 = .ok (.iastore, 1) := by decide +kernel
theorem dX5_pay_20 : decode cX5_pay 20 = .ok (.aload_n 0, 1) := by decide +kernel
theorem dX5_pay_21 : decode cX5_pay 21 = .ok (.getfield 28, 3) := by decide +kernel
theorem dX5_pay_24 : decode cX5_pay 24 = .ok (.iload_n 2, 1) := by decide +kernel
theorem dX5_pay_25 : decode cX5_pay 25 = .ok (.dup2, 1) := by decide +kernel
theorem dX5_pay_26 : decode cX5_pay 26 = .ok (.iaload, 1) := by decide +kernel
theorem dX5_pay_27 : decode cX5_pay 27 = .ok (.iload_n 3, 1) := by decide +kernel
theorem dX5_pay_28 : decode cX5_pay 28 = .ok (.iadd, 1) := by decide +kernel
theorem dX5_pay_29 : decode cX5_pay 29 = .ok (.iastore, 1) := by decide +kernel
theorem dX5_pay_30 : decode cX5_pay 30 = .ok (.return_, 1) := by decide +kernel
theorem dX6_init_0 : decode cX6_init 0 = .ok (.aload_n 0, 1) := by decide +kernel
theorem dX6_init_1 : decode cX6_init 1 = .ok (.invokespecial 3, 3) := by decide +kernel
theorem dX6_init_4 : decode cX6_init 4 = .ok (.aload_n 0, 1) := by decide +kernel
theorem dX6_init_5 : decode cX6_init 5 = .ok (.bipush 64, 2) := by decide +kernel
theorem dX6_init_7 : decode cX6_init 7 = .ok (.newarray .int, 2) := by decide +kernel
theorem dX6_init_9 : decode cX6_init 9 = .ok (.putfield 11, 3) := by decide +kernel
theorem dX6_init_12 : decode cX6_init 12 = .ok (.aload_n 0, 1) := by decide +kernel
theorem dX6_init_13 : decode cX6_init 13 = .ok (.bipush 64, 2) := by decide +kernel
theorem dX6_init_15 : decode cX6_init 15 = .ok (.newarray .int, 2) := by decide +kernel
theorem dX6_init_17 : decode cX6_init 17 = .ok (.putfield 15, 3) := by decide +kernel
theorem dX6_init_20 : decode cX6_init 20 = .ok (.aload_n 0, 1) := by decide +kernel
theorem dX6_init_21 : decode cX6_init 21 = .ok (.bipush 8, 2) := by decide +kernel
theorem dX6_init_23 : decode cX6_init 23 = .ok (.newarray .int, 2) := by decide +kernel
theorem dX6_init_25 : decode cX6_init 25 = .ok (.putfield 18, 3) := by decide +kernel
theorem dX6_init_28 : decode cX6_init 28 = .ok (.return_, 1) := by decide +kernel
theorem dX6_clear_0 : decode cX6_clear 0 = .ok (.aload_n 0, 1) := by decide +kernel
theorem dX6_clear_1 : decode cX6_clear 1 = .ok (.getfield 18, 3) := by decide +kernel
theorem dX6_clear_4 : decode cX6_clear 4 = .ok (.iconst 0, 1) := by decide +kernel
theorem dX6_clear_5 : decode cX6_clear 5 = .ok (.invokestatic 21, 3) := by decide +kernel
theorem dX6_clear_8 : decode cX6_clear 8 = .ok (.return_, 1) := by decide +kernel
theorem dX6_isFull_0 : decode cX6_isFull 0 = .ok (.aload_n 0, 1) := by decide +kernel
theorem dX6_isFull_1 : decode cX6_isFull 1 = .ok (.getfield 18, 3) := by decide +kernel
theorem dX6_isFull_4 : decode cX6_isFull 4 = .ok (.iload_n 1, 1) := by decide +kernel
theorem dX6_isFull_5 : decode cX6_isFull 5 = .ok (.iaload, 1) := by decide +kernel
theorem dX6_isFull_6 : decode cX6_isFull 6 = .ok (.bipush 8, 2) := by decide +kernel
theorem dX6_isFull_8 : decode cX6_isFull 8 = .ok (.if_icmp .ne 7, 3) := by decide +kernel
theorem dX6_isFull_11 : decode cX6_isFull 11 = .ok (.iconst 1, 1) := by decide +kernel
theorem dX6_isFull_12 : decode cX6_isFull 12 = .ok (.goto 4, 3) := by decide +kernel
theorem dX6_isFull_15 : decode cX6_isFull 15 = .ok (.iconst 0, 1) := by decide +kernel
theorem dX6_isFull_16 : decode cX6_isFull 16 = .ok (.ireturn, 1) := by decide +kernel
theorem dX6_join_0 : decode cX6_join 0 = .ok (.iload_n 1, 1) := by decide +kernel
theorem dX6_join_1 : decode cX6_join 1 = .ok (.bipush 8, 2) := by decide +kernel
theorem dX6_join_3 : decode cX6_join 3 = .ok (.imul, 1) := by decide +kernel
theorem dX6_join_4 : decode cX6_join 4 = .ok (.aload_n 0, 1) := by decide +kernel
theorem dX6_join_5 : decode cX6_join 5 = .ok (.getfield 18, 3) := by decide +kernel
theorem dX6_join_8 : decode cX6_join 8 = .ok (.iload_n 1, 1) := by decide +kernel
theorem dX6_join_9 : decode cX6_join 9 = .ok (.iaload, 1) := by decide +kernel
theorem dX6_join_10 : decode cX6_join 10 = .ok (.iadd, 1) := by decide +kernel
theorem dX6_join_11 : decode cX6_join 11 = .ok (.istore 4, 2) := by decide +kernel
theorem dX6_join_13 : decode cX6_join 13 = .ok (.aload_n 0, 1) := by decide +kernel
theorem dX6_join_14 : decode cX6_join 14 = .ok (.getfield 11, 3) := by decide +kernel
theorem dX6_join_17 : decode cX6_join 17 = .ok (.iload 4, 2) := by decide +kernel
theorem dX6_join_19 : decode cX6_join 19 = .ok (.iload_n 2, 1) := by decide +kernel
theorem dX6_join_20 : decode cX6_join 20 = .ok (.iastore, 1) := by decide +kernel
theorem dX6_join_21 : decode cX6_join 21 = .ok (.aload_n 0, 1) := by decide +kernel
theorem dX6_join_22 : decode cX6_join 22 = .ok (.getfield 15, 3) := by decide +kernel
theorem dX6_join_25 : decode cX6_join 25 = .ok (.iload 4, 2) := by decide +kernel
theorem dX6_join_27 : decode cX6_join 27 = .ok (.iload_n 3, 1) := by decide +kernel
theorem dX6_join_28 : decode cX6_join 28 = .ok (.iastore, 1) := by decide +kernel
theorem dX6_join_29 : decode cX6_join 29 = .ok (.aload_n 0, 1) := by decide +kernel
theorem dX6_join_30 : decode cX6_join 30 = .ok (.getfield 18, 3) := by decide +kernel
theorem dX6_join_33 : decode cX6_join 33 = .ok (.iload_n 1, 1) := by decide +kernel
theorem dX6_join_34 : decode cX6_join 34 = .ok (.dup2, 1) := by decide +kernel
theorem dX6_join_35 : decode cX6_join 35 = .ok (.iaload, 1) := by decide +kernel
theorem dX6_join_36 : decode cX6_join 36 = .ok (.iconst 1, 1) := by decide +kernel
theorem dX6_join_37 : decode cX6_join 37 = .ok (.iadd, 1) := by decide +kernel
theorem dX6_join_38 : decode cX6_join 38 = .ok (.iastore, 1) := by decide +kernel
theorem dX6_join_39 : decode cX6_join 39 = .ok (.return_, 1) := by decide +kernel
theorem dX6_firstTo_0 : decode cX6_firstTo 0 = .ok (.aload_n 0, 1) := by decide +kernel
theorem dX6_firstTo_1 : decode cX6_firstTo 1 = .ok (.getfield 11, 3) := by decide +kernel
theorem dX6_firstTo_4 : decode cX6_firstTo 4 = .ok (.iload_n 1, 1) := by decide +kernel
theorem dX6_firstTo_5 : decode cX6_firstTo 5 = .ok (.bipush 8, 2) := by decide +kernel
theorem dX6_firstTo_7 : decode cX6_firstTo 7 = .ok (.imul, 1) := by decide +kernel
theorem dX6_firstTo_8 : decode cX6_firstTo 8 = .ok (.iaload, 1) := by decide +kernel
theorem dX6_firstTo_9 : decode cX6_firstTo 9 = .ok (.ireturn, 1) := by decide +kernel
theorem dX6_firstAmount_0 : decode cX6_firstAmount 0 = .ok (.aload_n 0, 1) := by decide +kernel
theorem dX6_firstAmount_1 : decode cX6_firstAmount 1 = .ok (.getfield 15, 3) := by decide +kernel
theorem dX6_firstAmount_4 : decode cX6_firstAmount 4 = .ok (.iload_n 1, 1) := by decide +kernel
theorem dX6_firstAmount_5 : decode cX6_firstAmount 5 = .ok (.bipush 8, 2) := by decide +kernel
theorem dX6_firstAmount_7 : decode cX6_firstAmount 7 = .ok (.imul, 1) := by decide +kernel
theorem dX6_firstAmount_8 : decode cX6_firstAmount 8 = .ok (.iaload, 1) := by decide +kernel
theorem dX6_firstAmount_9 : decode cX6_firstAmount 9 = .ok (.ireturn, 1) := by decide +kernel
theorem dX6_dropFirst_0 : decode cX6_dropFirst 0 = .ok (.iload_n 1, 1) := by decide +kernel
theorem dX6_dropFirst_1 : decode cX6_dropFirst 1 = .ok (.bipush 8, 2) := by decide +kernel
theorem dX6_dropFirst_3 : decode cX6_dropFirst 3 = .ok (.imul, 1) := by decide +kernel
theorem dX6_dropFirst_4 : decode cX6_dropFirst 4 = .ok (.istore_n 2, 1) := by decide +kernel
theorem dX6_dropFirst_5 : decode cX6_dropFirst 5 = .ok (.aload_n 0, 1) := by decide +kernel
theorem dX6_dropFirst_6 : decode cX6_dropFirst 6 = .ok (.getfield 18, 3) := by decide +kernel
theorem dX6_dropFirst_9 : decode cX6_dropFirst 9 = .ok (.iload_n 1, 1) := by decide +kernel
theorem dX6_dropFirst_10 : decode cX6_dropFirst 10 = .ok (.dup2, 1) := by decide +kernel
theorem dX6_dropFirst_11 : decode cX6_dropFirst 11 = .ok (.iaload, 1) := by decide +kernel
theorem dX6_dropFirst_12 : decode cX6_dropFirst 12 = .ok (.iconst 1, 1) := by decide +kernel
theorem dX6_dropFirst_13 : decode cX6_dropFirst 13 = .ok (.isub, 1) := by decide +kernel
theorem dX6_dropFirst_14 : decode cX6_dropFirst 14 = .ok (.iastore, 1) := by decide +kernel
theorem dX6_dropFirst_15 : decode cX6_dropFirst 15 = .ok (.aload_n 0, 1) := by decide +kernel
theorem dX6_dropFirst_16 : decode cX6_dropFirst 16 = .ok (.getfield 11, 3) := by decide +kernel
theorem dX6_dropFirst_19 : decode cX6_dropFirst 19 = .ok (.iload_n 2, 1) := by decide +kernel
theorem dX6_dropFirst_20 : decode cX6_dropFirst 20 = .ok (.iconst 1, 1) := by decide +kernel
theorem dX6_dropFirst_21 : decode cX6_dropFirst 21 = .ok (.iadd, 1) := by decide +kernel
theorem dX6_dropFirst_22 : decode cX6_dropFirst 22 = .ok (.aload_n 0, 1) := by decide +kernel
theorem dX6_dropFirst_23 : decode cX6_dropFirst 23 = .ok (.getfield 11, 3) := by decide +kernel
theorem dX6_dropFirst_26 : decode cX6_dropFirst 26 = .ok (.iload_n 2, 1) := by decide +kernel
theorem dX6_dropFirst_27 : decode cX6_dropFirst 27 = .ok (.aload_n 0, 1) := by decide +kernel
theorem dX6_dropFirst_28 : decode cX6_dropFirst 28 = .ok (.getfield 18, 3) := by decide +kernel
theorem dX6_dropFirst_31 : decode cX6_dropFirst 31 = .ok (.iload_n 1, 1) := by decide +kernel
theorem dX6_dropFirst_32 : decode cX6_dropFirst 32 = .ok (.iaload, 1) := by decide +kernel
theorem dX6_dropFirst_33 : decode cX6_dropFirst 33 = .ok (.invokestatic 27, 3) := by decide +kernel
theorem dX6_dropFirst_36 : decode cX6_dropFirst 36 = .ok (.aload_n 0, 1) := by decide +kernel
theorem dX6_dropFirst_37 : decode cX6_dropFirst 37 = .ok (.getfield 15, 3) := by decide +kernel
theorem dX6_dropFirst_40 : decode cX6_dropFirst 40 = .ok (.iload_n 2, 1) := by decide +kernel
theorem dX6_dropFirst_41 : decode cX6_dropFirst 41 = .ok (.iconst 1, 1) := by decide +kernel
theorem dX6_dropFirst_42 : decode cX6_dropFirst 42 = .ok (.iadd, 1) := by decide +kernel
theorem dX6_dropFirst_43 : decode cX6_dropFirst 43 = .ok (.aload_n 0, 1) := by decide +kernel
theorem dX6_dropFirst_44 : decode cX6_dropFirst 44 = .ok (.getfield 15, 3) := by decide +kernel
theorem dX6_dropFirst_47 : decode cX6_dropFirst 47 = .ok (.iload_n 2, 1) := by decide +kernel
theorem dX6_dropFirst_48 : decode cX6_dropFirst 48 = .ok (.aload_n 0, 1) := by decide +kernel
theorem dX6_dropFirst_49 : decode cX6_dropFirst 49 = .ok (.getfield 18, 3) := by decide +kernel
theorem dX6_dropFirst_52 : decode cX6_dropFirst 52 = .ok (.iload_n 1, 1) := by decide +kernel
theorem dX6_dropFirst_53 : decode cX6_dropFirst 53 = .ok (.iaload, 1) := by decide +kernel
theorem dX6_dropFirst_54 : decode cX6_dropFirst 54 = .ok (.invokestatic 27, 3) := by decide +kernel
theorem dX6_dropFirst_57 : decode cX6_dropFirst 57 = .ok (.return_, 1) := by decide +kernel
theorem dX6_lengthOfAll_0 : decode cX6_lengthOfAll 0 = .ok (.iconst 0, 1) := by decide +kernel
theorem dX6_lengthOfAll_1 : decode cX6_lengthOfAll 1 = .ok (.istore_n 1, 1) := by decide +kernel
theorem dX6_lengthOfAll_2 : decode cX6_lengthOfAll 2 = .ok (.iconst 0, 1) := by decide +kernel
theorem dX6_lengthOfAll_3 : decode cX6_lengthOfAll 3 = .ok (.istore_n 2, 1) := by decide +kernel
theorem dX6_lengthOfAll_4 : decode cX6_lengthOfAll 4 = .ok (.iload_n 2, 1) := by decide +kernel
theorem dX6_lengthOfAll_5 : decode cX6_lengthOfAll 5 = .ok (.bipush 8, 2) := by decide +kernel
theorem dX6_lengthOfAll_7 : decode cX6_lengthOfAll 7 = .ok (.if_icmp .ge 18, 3) := by decide +kernel
theorem dX6_lengthOfAll_10 : decode cX6_lengthOfAll 10 = .ok (.iload_n 1, 1) := by decide +kernel
theorem dX6_lengthOfAll_11 : decode cX6_lengthOfAll 11 = .ok (.aload_n 0, 1) := by decide +kernel
theorem dX6_lengthOfAll_12 : decode cX6_lengthOfAll 12 = .ok (.getfield 18, 3) := by decide +kernel
theorem dX6_lengthOfAll_15 : decode cX6_lengthOfAll 15 = .ok (.iload_n 2, 1) := by decide +kernel
theorem dX6_lengthOfAll_16 : decode cX6_lengthOfAll 16 = .ok (.iaload, 1) := by decide +kernel
theorem dX6_lengthOfAll_17 : decode cX6_lengthOfAll 17 = .ok (.iadd, 1) := by decide +kernel
theorem dX6_lengthOfAll_18 : decode cX6_lengthOfAll 18 = .ok (.istore_n 1, 1) := by decide +kernel
theorem dX6_lengthOfAll_19 : decode cX6_lengthOfAll 19 = .ok (.iinc 2 1, 3) := by decide +kernel
theorem dX6_lengthOfAll_22 : decode cX6_lengthOfAll 22 = .ok (.goto (-18), 3) := by decide +kernel
theorem dX6_lengthOfAll_25 : decode cX6_lengthOfAll 25 = .ok (.iload_n 1, 1) := by decide +kernel
theorem dX6_lengthOfAll_26 : decode cX6_lengthOfAll 26 = .ok (.ireturn, 1) := by decide +kernel
theorem dX7_init_0 : decode cX7_init 0 = .ok (.aload_n 0, 1) := by decide +kernel
theorem dX7_init_1 : decode cX7_init 1 = .ok (.invokespecial 1, 3) := by decide +kernel
theorem dX7_init_4 : decode cX7_init 4 = .ok (.aload_n 0, 1) := by decide +kernel
theorem dX7_init_5 : decode cX7_init 5 = .ok (.new 7, 3) := by decide +kernel
theorem dX7_init_8 : decode cX7_init 8 = .ok (.dup, 1) := by decide +kernel
theorem dX7_init_9 : decode cX7_init 9 = .ok (.invokespecial 9, 3) := by decide +kernel
theorem dX7_init_12 : decode cX7_init 12 = .ok (.putfield 10, 3) := by decide +kernel
theorem dX7_init_15 : decode cX7_init 15 = .ok (.aload_n 0, 1) := by decide +kernel
theorem dX7_init_16 : decode cX7_init 16 = .ok (.new 16, 3) := by decide +kernel
theorem dX7_init_19 : decode cX7_init 19 = .ok (.dup, 1) := by decide +kernel
theorem dX7_init_20 : decode cX7_init 20 = .ok (.invokespecial 18, 3) := by decide +kernel
theorem dX7_init_23 : decode cX7_init 23 = .ok (.putfield 19, 3) := by decide +kernel
theorem dX7_init_26 : decode cX7_init 26 = .ok (.aload_n 0, 1) := by decide +kernel
theorem dX7_init_27 : decode cX7_init 27 = .ok (.new 23, 3) := by decide +kernel
theorem dX7_init_30 : decode cX7_init 30 = .ok (.dup, 1) := by decide +kernel
theorem dX7_init_31 : decode cX7_init 31 = .ok (.aload_n 0, 1) := by decide +kernel
theorem dX7_init_32 : decode cX7_init 32 = .ok (.getfield 19, 3) := by decide +kernel
theorem dX7_init_35 : decode cX7_init 35 = .ok (.invokespecial 25, 3) := by decide +kernel
theorem dX7_init_38 : decode cX7_init 38 = .ok (.putfield 28, 3) := by decide +kernel
theorem dX7_init_41 : decode cX7_init 41 = .ok (.aload_n 0, 1) := by decide +kernel
theorem dX7_init_42 : decode cX7_init 42 = .ok (.new 32, 3) := by decide +kernel
theorem dX7_init_45 : decode cX7_init 45 = .ok (.dup, 1) := by decide +kernel
theorem dX7_init_46 : decode cX7_init 46 = .ok (.aload_n 0, 1) := by decide +kernel
theorem dX7_init_47 : decode cX7_init 47 = .ok (.getfield 19, 3) := by decide +kernel
theorem dX7_init_50 : decode cX7_init 50 = .ok (.aload_n 0, 1) := by decide +kernel
theorem dX7_init_51 : decode cX7_init 51 = .ok (.getfield 28, 3) := by decide +kernel
theorem dX7_init_54 : decode cX7_init 54 = .ok (.invokespecial 34, 3) := by decide +kernel
theorem dX7_init_57 : decode cX7_init 57 = .ok (.putfield 37, 3) := by decide +kernel
theorem dX7_init_60 : decode cX7_init 60 = .ok (.aload_n 0, 1) := by decide +kernel
theorem dX7_init_61 : decode cX7_init 61 = .ok (.bipush 8, 2) := by decide +kernel
theorem dX7_init_63 : decode cX7_init 63 = .ok (.anewarray 41, 3) := by decide +kernel
theorem dX7_init_66 : decode cX7_init 66 = .ok (.putfield 43, 3) := by decide +kernel
theorem dX7_init_69 : decode cX7_init 69 = .ok (.aload_n 0, 1) := by decide +kernel
theorem dX7_init_70 : decode cX7_init 70 = .ok (.bipush 8, 2) := by decide +kernel
theorem dX7_init_72 : decode cX7_init 72 = .ok (.newarray .int, 2) := by decide +kernel
theorem dX7_init_74 : decode cX7_init 74 = .ok (.putfield 47, 3) := by decide +kernel
theorem dX7_init_77 : decode cX7_init 77 = .ok (.iconst 0, 1) := by decide +kernel
theorem dX7_init_78 : decode cX7_init 78 = .ok (.istore_n 1, 1) := by decide +kernel
theorem dX7_init_79 : decode cX7_init 79 = .ok (.iload_n 1, 1) := by decide +kernel
theorem dX7_init_80 : decode cX7_init 80 = .ok (.bipush 8, 2) := by decide +kernel
theorem dX7_init_82 : decode cX7_init 82 = .ok (.if_icmp .ge 35, 3) := by decide +kernel
theorem dX7_init_85 : decode cX7_init 85 = .ok (.aload_n 0, 1) := by decide +kernel
theorem dX7_init_86 : decode cX7_init 86 = .ok (.getfield 43, 3) := by decide +kernel
theorem dX7_init_89 : decode cX7_init 89 = .ok (.iload_n 1, 1) := by decide +kernel
theorem dX7_init_90 : decode cX7_init 90 = .ok (.new 41, 3) := by decide +kernel
theorem dX7_init_93 : decode cX7_init 93 = .ok (.dup, 1) := by decide +kernel
theorem dX7_init_94 : decode cX7_init 94 = .ok (.iload_n 1, 1) := by decide +kernel
theorem dX7_init_95 : decode cX7_init 95 = .ok (.aload_n 0, 1) := by decide +kernel
theorem dX7_init_96 : decode cX7_init 96 = .ok (.getfield 19, 3) := by decide +kernel
theorem dX7_init_99 : decode cX7_init 99 = .ok (.aload_n 0, 1) := by decide +kernel
theorem dX7_init_100 : decode cX7_init 100 = .ok (.getfield 28, 3) := by decide +kernel
theorem dX7_init_103 : decode cX7_init 103 = .ok (.aload_n 0, 1) := by decide +kernel
theorem dX7_init_104 : decode cX7_init 104 = .ok (.getfield 37, 3) := by decide +kernel
theorem dX7_init_107 : decode cX7_init 107 = .ok (.invokespecial 51, 3) := by decide +kernel
theorem dX7_init_110 : decode cX7_init 110 = .ok (.aastore, 1) := by decide +kernel
theorem dX7_init_111 : decode cX7_init 111 = .ok (.iinc 1 1, 3) := by decide +kernel
theorem dX7_init_114 : decode cX7_init 114 = .ok (.goto (-35), 3) := by decide +kernel
theorem dX7_init_117 : decode cX7_init 117 = .ok (.aload_n 0, 1) := by decide +kernel
theorem dX7_init_118 : decode cX7_init 118 = .ok (.iconst 4, 1) := by decide +kernel
theorem dX7_init_119 : decode cX7_init 119 = .ok (.invokevirtual 54, 3) := by decide +kernel
theorem dX7_init_122 : decode cX7_init 122 = .ok (.return_, 1) := by decide +kernel
theorem dX7_begin_0 : decode cX7_begin 0 = .ok (.iload_n 1, 1) := by decide +kernel
theorem dX7_begin_1 : decode cX7_begin 1 = .ok (.iconst 2, 1) := by decide +kernel
theorem dX7_begin_2 : decode cX7_begin 2 = .ok (.if_icmp .lt 9, 3) := by decide +kernel
theorem dX7_begin_5 : decode cX7_begin 5 = .ok (.iload_n 1, 1) := by decide +kernel
theorem dX7_begin_6 : decode cX7_begin 6 = .ok (.bipush 8, 2) := by decide +kernel
theorem dX7_begin_8 : decode cX7_begin 8 = .ok (.if_icmp .le 11, 3) := by decide +kernel
theorem dX7_begin_11 : decode cX7_begin 11 = .ok (.new 58, 3) := by decide +kernel
theorem dX7_begin_14 : decode cX7_begin 14 = .ok (.dup, 1) := by decide +kernel
theorem dX7_begin_15 : decode cX7_begin 15 = .ok (.invokespecial 60, 3) := by decide +kernel
theorem dX7_begin_18 : decode cX7_begin 18 = .ok (.athrow, 1) := by decide +kernel
theorem dX7_begin_19 : decode cX7_begin 19 = .ok (.aload_n 0, 1) := by decide +kernel
theorem dX7_begin_20 : decode cX7_begin 20 = .ok (.iload_n 1, 1) := by decide +kernel
theorem dX7_begin_21 : decode cX7_begin 21 = .ok (.invokevirtual 54, 3) := by decide +kernel
theorem dX7_begin_24 : decode cX7_begin 24 = .ok (.return_, 1) := by decide +kernel
theorem dX7_submit_0 : decode cX7_submit 0 = .ok (.aload_n 0, 1) := by decide +kernel
theorem dX7_submit_1 : decode cX7_submit 1 = .ok (.iload_n 1, 1) := by decide +kernel
theorem dX7_submit_2 : decode cX7_submit 2 = .ok (.invokevirtual 61, 3) := by decide +kernel
theorem dX7_submit_5 : decode cX7_submit 5 = .ok (.ifCond .eq 21, 3) := by decide +kernel
theorem dX7_submit_8 : decode cX7_submit 8 = .ok (.aload_n 0, 1) := by decide +kernel
theorem dX7_submit_9 : decode cX7_submit 9 = .ok (.iload_n 2, 1) := by decide +kernel
theorem dX7_submit_10 : decode cX7_submit 10 = .ok (.invokevirtual 61, 3) := by decide +kernel
theorem dX7_submit_13 : decode cX7_submit 13 = .ok (.ifCond .eq 13, 3) := by decide +kernel
theorem dX7_submit_16 : decode cX7_submit 16 = .ok (.iload_n 3, 1) := by decide +kernel
theorem dX7_submit_17 : decode cX7_submit 17 = .ok (.ifCond .lt 9, 3) := by decide +kernel
theorem dX7_submit_20 : decode cX7_submit 20 = .ok (.iload_n 3, 1) := by decide +kernel
theorem dX7_submit_21 : decode cX7_submit 21 = .ok (.ldc 65, 2) := by decide +kernel
theorem dX7_submit_23 : decode cX7_submit 23 = .ok (.if_icmp .le 11, 3) := by decide +kernel
theorem dX7_submit_26 : decode cX7_submit 26 = .ok (.new 58, 3) := by decide +kernel
theorem dX7_submit_29 : decode cX7_submit 29 = .ok (.dup, 1) := by decide +kernel
theorem dX7_submit_30 : decode cX7_submit 30 = .ok (.invokespecial 60, 3) := by decide +kernel
theorem dX7_submit_33 : decode cX7_submit 33 = .ok (.athrow, 1) := by decide +kernel
theorem dX7_submit_34 : decode cX7_submit 34 = .ok (.aload_n 0, 1) := by decide +kernel
theorem dX7_submit_35 : decode cX7_submit 35 = .ok (.getfield 10, 3) := by decide +kernel
theorem dX7_submit_38 : decode cX7_submit 38 = .ok (.iload_n 1, 1) := by decide +kernel
theorem dX7_submit_39 : decode cX7_submit 39 = .ok (.invokevirtual 66, 3) := by decide +kernel
theorem dX7_submit_42 : decode cX7_submit 42 = .ok (.ifCond .eq 11, 3) := by decide +kernel
theorem dX7_submit_45 : decode cX7_submit 45 = .ok (.new 69, 3) := by decide +kernel
theorem dX7_submit_48 : decode cX7_submit 48 = .ok (.dup, 1) := by decide +kernel
theorem dX7_submit_49 : decode cX7_submit 49 = .ok (.invokespecial 71, 3) := by decide +kernel
theorem dX7_submit_52 : decode cX7_submit 52 = .ok (.athrow, 1) := by decide +kernel
theorem dX7_submit_53 : decode cX7_submit 53 = .ok (.aload_n 0, 1) := by decide +kernel
theorem dX7_submit_54 : decode cX7_submit 54 = .ok (.getfield 10, 3) := by decide +kernel
theorem dX7_submit_57 : decode cX7_submit 57 = .ok (.iload_n 1, 1) := by decide +kernel
theorem dX7_submit_58 : decode cX7_submit 58 = .ok (.iload_n 2, 1) := by decide +kernel
theorem dX7_submit_59 : decode cX7_submit 59 = .ok (.iload_n 3, 1) := by decide +kernel
theorem dX7_submit_60 : decode cX7_submit 60 = .ok (.invokevirtual 72, 3) := by decide +kernel
theorem dX7_submit_63 : decode cX7_submit 63 = .ok (.aload_n 0, 1) := by decide +kernel
theorem dX7_submit_64 : decode cX7_submit 64 = .ok (.getfield 10, 3) := by decide +kernel
theorem dX7_submit_67 : decode cX7_submit 67 = .ok (.getfield 76, 3) := by decide +kernel
theorem dX7_submit_70 : decode cX7_submit 70 = .ok (.iload_n 1, 1) := by decide +kernel
theorem dX7_submit_71 : decode cX7_submit 71 = .ok (.iaload, 1) := by decide +kernel
theorem dX7_submit_72 : decode cX7_submit 72 = .ok (.ireturn, 1) := by decide +kernel
theorem dX7_sync_0 : decode cX7_sync 0 = .ok (.aload_n 0, 1) := by decide +kernel
theorem dX7_sync_1 : decode cX7_sync 1 = .ok (.iload_n 1, 1) := by decide +kernel
theorem dX7_sync_2 : decode cX7_sync 2 = .ok (.invokevirtual 61, 3) := by decide +kernel
theorem dX7_sync_5 : decode cX7_sync 5 = .ok (.ifCond .eq 16, 3) := by decide +kernel
theorem dX7_sync_8 : decode cX7_sync 8 = .ok (.aload_n 0, 1) := by decide +kernel
theorem dX7_sync_9 : decode cX7_sync 9 = .ok (.iload_n 2, 1) := by decide +kernel
theorem dX7_sync_10 : decode cX7_sync 10 = .ok (.invokevirtual 61, 3) := by decide +kernel
theorem dX7_sync_13 : decode cX7_sync 13 = .ok (.ifCond .eq 8, 3) := by decide +kernel
theorem dX7_sync_16 : decode cX7_sync 16 = .ok (.iload_n 1, 1) := by decide +kernel
theorem dX7_sync_17 : decode cX7_sync 17 = .ok (.iload_n 2, 1) := by decide +kernel
theorem dX7_sync_18 : decode cX7_sync 18 = .ok (.if_icmp .ne 11, 3) := by decide +kernel
theorem dX7_sync_21 : decode cX7_sync 21 = .ok (.new 58, 3) := by decide +kernel
theorem dX7_sync_24 : decode cX7_sync 24 = .ok (.dup, 1) := by decide +kernel
theorem dX7_sync_25 : decode cX7_sync 25 = .ok (.invokespecial 60, 3) := by decide +kernel
theorem dX7_sync_28 : decode cX7_sync 28 = .ok (.athrow, 1) := by decide +kernel
theorem dX7_sync_29 : decode cX7_sync 29 = .ok (.aload_n 0, 1) := by decide +kernel
theorem dX7_sync_30 : decode cX7_sync 30 = .ok (.getfield 19, 3) := by decide +kernel
theorem dX7_sync_33 : decode cX7_sync 33 = .ok (.invokevirtual 79, 3) := by decide +kernel
theorem dX7_sync_36 : decode cX7_sync 36 = .ok (.ifCond .eq 11, 3) := by decide +kernel
theorem dX7_sync_39 : decode cX7_sync 39 = .ok (.new 69, 3) := by decide +kernel
theorem dX7_sync_42 : decode cX7_sync 42 = .ok (.dup, 1) := by decide +kernel
theorem dX7_sync_43 : decode cX7_sync 43 = .ok (.invokespecial 71, 3) := by decide +kernel
theorem dX7_sync_46 : decode cX7_sync 46 = .ok (.athrow, 1) := by decide +kernel
theorem dX7_sync_47 : decode cX7_sync 47 = .ok (.aload_n 0, 1) := by decide +kernel
theorem dX7_sync_48 : decode cX7_sync 48 = .ok (.getfield 19, 3) := by decide +kernel
theorem dX7_sync_51 : decode cX7_sync 51 = .ok (.getfield 82, 3) := by decide +kernel
theorem dX7_sync_54 : decode cX7_sync 54 = .ok (.iload_n 2, 1) := by decide +kernel
theorem dX7_sync_55 : decode cX7_sync 55 = .ok (.aload_n 0, 1) := by decide +kernel
theorem dX7_sync_56 : decode cX7_sync 56 = .ok (.getfield 19, 3) := by decide +kernel
theorem dX7_sync_59 : decode cX7_sync 59 = .ok (.getfield 82, 3) := by decide +kernel
theorem dX7_sync_62 : decode cX7_sync 62 = .ok (.iload_n 1, 1) := by decide +kernel
theorem dX7_sync_63 : decode cX7_sync 63 = .ok (.invokevirtual 86, 3) := by decide +kernel
theorem dX7_sync_66 : decode cX7_sync 66 = .ok (.aload_n 0, 1) := by decide +kernel
theorem dX7_sync_67 : decode cX7_sync 67 = .ok (.iload_n 2, 1) := by decide +kernel
theorem dX7_sync_68 : decode cX7_sync 68 = .ok (.aload_n 0, 1) := by decide +kernel
theorem dX7_sync_69 : decode cX7_sync 69 = .ok (.getfield 47, 3) := by decide +kernel
theorem dX7_sync_72 : decode cX7_sync 72 = .ok (.iload_n 2, 1) := by decide +kernel
theorem dX7_sync_73 : decode cX7_sync 73 = .ok (.iaload, 1) := by decide +kernel
theorem dX7_sync_74 : decode cX7_sync 74 = .ok (.aload_n 0, 1) := by decide +kernel
theorem dX7_sync_75 : decode cX7_sync 75 = .ok (.getfield 47, 3) := by decide +kernel
theorem dX7_sync_78 : decode cX7_sync 78 = .ok (.iload_n 1, 1) := by decide +kernel
theorem dX7_sync_79 : decode cX7_sync 79 = .ok (.iaload, 1) := by decide +kernel
theorem dX7_sync_80 : decode cX7_sync 80 = .ok (.lload_n 3, 1) := by decide +kernel
theorem dX7_sync_81 : decode cX7_sync 81 = .ok (.aload_n 0, 1) := by decide +kernel
theorem dX7_sync_82 : decode cX7_sync 82 = .ok (.getfield 10, 3) := by decide +kernel
theorem dX7_sync_85 : decode cX7_sync 85 = .ok (.getfield 76, 3) := by decide +kernel
theorem dX7_sync_88 : decode cX7_sync 88 = .ok (.iload_n 2, 1) := by decide +kernel
theorem dX7_sync_89 : decode cX7_sync 89 = .ok (.iaload, 1) := by decide +kernel
theorem dX7_sync_90 : decode cX7_sync 90 = .ok (.iconst 3, 1) := by decide +kernel
theorem dX7_sync_91 : decode cX7_sync 91 = .ok (.invokestatic 91, 3) := by decide +kernel
theorem dX7_sync_94 : decode cX7_sync 94 = .ok (.invokevirtual 97, 3) := by decide +kernel
theorem dX7_sync_97 : decode cX7_sync 97 = .ok (.istore 5, 2) := by decide +kernel
theorem dX7_sync_99 : decode cX7_sync 99 = .ok (.aload_n 0, 1) := by decide +kernel
theorem dX7_sync_100 : decode cX7_sync 100 = .ok (.iload 5, 2) := by decide +kernel
theorem dX7_sync_102 : decode cX7_sync 102 = .ok (.iload_n 2, 1) := by decide +kernel
theorem dX7_sync_103 : decode cX7_sync 103 = .ok (.invokevirtual 101, 3) := by decide +kernel
theorem dX7_sync_106 : decode cX7_sync 106 = .ok (.aload_n 0, 1) := by decide +kernel
theorem dX7_sync_107 : decode cX7_sync 107 = .ok (.getfield 47, 3) := by decide +kernel
theorem dX7_sync_110 : decode cX7_sync 110 = .ok (.iload_n 2, 1) := by decide +kernel
theorem dX7_sync_111 : decode cX7_sync 111 = .ok (.iload 5, 2) := by decide +kernel
theorem dX7_sync_113 : decode cX7_sync 113 = .ok (.iastore, 1) := by decide +kernel
theorem dX7_sync_114 : decode cX7_sync 114 = .ok (.iload 5, 2) := by decide +kernel
theorem dX7_sync_116 : decode cX7_sync 116 = .ok (.ireturn, 1) := by decide +kernel
theorem dX7_inject_0 : decode cX7_inject 0 = .ok (.aload_n 0, 1) := by decide +kernel
theorem dX7_inject_1 : decode cX7_inject 1 = .ok (.iload_n 1, 1) := by decide +kernel
theorem dX7_inject_2 : decode cX7_inject 2 = .ok (.invokevirtual 61, 3) := by decide +kernel
theorem dX7_inject_5 : decode cX7_inject 5 = .ok (.ifCond .eq 16, 3) := by decide +kernel
theorem dX7_inject_8 : decode cX7_inject 8 = .ok (.aload_n 0, 1) := by decide +kernel
theorem dX7_inject_9 : decode cX7_inject 9 = .ok (.iload_n 2, 1) := by decide +kernel
theorem dX7_inject_10 : decode cX7_inject 10 = .ok (.invokevirtual 61, 3) := by decide +kernel
theorem dX7_inject_13 : decode cX7_inject 13 = .ok (.ifCond .eq 8, 3) := by decide +kernel
theorem dX7_inject_16 : decode cX7_inject 16 = .ok (.iload_n 1, 1) := by decide +kernel
theorem dX7_inject_17 : decode cX7_inject 17 = .ok (.iload_n 2, 1) := by decide +kernel
theorem dX7_inject_18 : decode cX7_inject 18 = .ok (.if_icmp .ne 11, 3) := by decide +kernel
theorem dX7_inject_21 : decode cX7_inject 21 = .ok (.new 58, 3) := by decide +kernel
theorem dX7_inject_24 : decode cX7_inject 24 = .ok (.dup, 1) := by decide +kernel
theorem dX7_inject_25 : decode cX7_inject 25 = .ok (.invokespecial 60, 3) := by decide +kernel
theorem dX7_inject_28 : decode cX7_inject 28 = .ok (.athrow, 1) := by decide +kernel
theorem dX7_inject_29 : decode cX7_inject 29 = .ok (.aload_n 0, 1) := by decide +kernel
theorem dX7_inject_30 : decode cX7_inject 30 = .ok (.iload_n 1, 1) := by decide +kernel
theorem dX7_inject_31 : decode cX7_inject 31 = .ok (.iload_n 3, 1) := by decide +kernel
theorem dX7_inject_32 : decode cX7_inject 32 = .ok (.invokevirtual 105, 3) := by decide +kernel
theorem dX7_inject_35 : decode cX7_inject 35 = .ok (.ifCond .eq 16, 3) := by decide +kernel
theorem dX7_inject_38 : decode cX7_inject 38 = .ok (.aload_n 0, 1) := by decide +kernel
theorem dX7_inject_39 : decode cX7_inject 39 = .ok (.getfield 19, 3) := by decide +kernel
theorem dX7_inject_42 : decode cX7_inject 42 = .ok (.getfield 109, 3) := by decide +kernel
theorem dX7_inject_45 : decode cX7_inject 45 = .ok (.iload_n 3, 1) := by decide +kernel
theorem dX7_inject_46 : decode cX7_inject 46 = .ok (.iaload, 1) := by decide +kernel
theorem dX7_inject_47 : decode cX7_inject 47 = .ok (.iload_n 2, 1) := by decide +kernel
theorem dX7_inject_48 : decode cX7_inject 48 = .ok (.if_icmp .eq 11, 3) := by decide +kernel
theorem dX7_inject_51 : decode cX7_inject 51 = .ok (.new 58, 3) := by decide +kernel
theorem dX7_inject_54 : decode cX7_inject 54 = .ok (.dup, 1) := by decide +kernel
theorem dX7_inject_55 : decode cX7_inject 55 = .ok (.invokespecial 60, 3) := by decide +kernel
theorem dX7_inject_58 : decode cX7_inject 58 = .ok (.athrow, 1) := by decide +kernel
theorem dX7_inject_59 : decode cX7_inject 59 = .ok (.iload 4, 2) := by decide +kernel
theorem dX7_inject_61 : decode cX7_inject 61 = .ok (.iconst (-1), 1) := by decide +kernel
theorem dX7_inject_62 : decode cX7_inject 62 = .ok (.if_icmp .eq 35, 3) := by decide +kernel
theorem dX7_inject_65 : decode cX7_inject 65 = .ok (.aload_n 0, 1) := by decide +kernel
theorem dX7_inject_66 : decode cX7_inject 66 = .ok (.iload_n 1, 1) := by decide +kernel
theorem dX7_inject_67 : decode cX7_inject 67 = .ok (.iload 4, 2) := by decide +kernel
theorem dX7_inject_69 : decode cX7_inject 69 = .ok (.invokevirtual 105, 3) := by decide +kernel
theorem dX7_inject_72 : decode cX7_inject 72 = .ok (.ifCond .eq 17, 3) := by decide +kernel
theorem dX7_inject_75 : decode cX7_inject 75 = .ok (.aload_n 0, 1) := by decide +kernel
theorem dX7_inject_76 : decode cX7_inject 76 = .ok (.getfield 19, 3) := by decide +kernel
theorem dX7_inject_79 : decode cX7_inject 79 = .ok (.getfield 109, 3) := by decide +kernel
theorem dX7_inject_82 : decode cX7_inject 82 = .ok (.iload 4, 2) := by decide +kernel
theorem dX7_inject_84 : decode cX7_inject 84 = .ok (.iaload, 1) := by decide +kernel
theorem dX7_inject_85 : decode cX7_inject 85 = .ok (.iload_n 2, 1) := by decide +kernel
theorem dX7_inject_86 : decode cX7_inject 86 = .ok (.if_icmp .ne 11, 3) := by decide +kernel
theorem dX7_inject_89 : decode cX7_inject 89 = .ok (.new 58, 3) := by decide +kernel
theorem dX7_inject_92 : decode cX7_inject 92 = .ok (.dup, 1) := by decide +kernel
theorem dX7_inject_93 : decode cX7_inject 93 = .ok (.invokespecial 60, 3) := by decide +kernel
theorem dX7_inject_96 : decode cX7_inject 96 = .ok (.athrow, 1) := by decide +kernel
theorem dX7_inject_97 : decode cX7_inject 97 = .ok (.aload_n 0, 1) := by decide +kernel
theorem dX7_inject_98 : decode cX7_inject 98 = .ok (.getfield 19, 3) := by decide +kernel
theorem dX7_inject_101 : decode cX7_inject 101 = .ok (.iload_n 2, 1) := by decide +kernel
theorem dX7_inject_102 : decode cX7_inject 102 = .ok (.iload_n 3, 1) := by decide +kernel
theorem dX7_inject_103 : decode cX7_inject 103 = .ok (.iload 4, 2) := by decide +kernel
theorem dX7_inject_105 : decode cX7_inject 105 = .ok (.lload 5, 2) := by decide +kernel
theorem dX7_inject_107 : decode cX7_inject 107 = .ok (.invokevirtual 112, 3) := by decide +kernel
theorem dX7_inject_110 : decode cX7_inject 110 = .ok (.ifCond .eq 11, 3) := by decide +kernel
theorem dX7_inject_113 : decode cX7_inject 113 = .ok (.new 116, 3) := by decide +kernel
theorem dX7_inject_116 : decode cX7_inject 116 = .ok (.dup, 1) := by decide +kernel
theorem dX7_inject_117 : decode cX7_inject 117 = .ok (.invokespecial 118, 3) := by decide +kernel
theorem dX7_inject_120 : decode cX7_inject 120 = .ok (.athrow, 1) := by decide +kernel
theorem dX7_inject_121 : decode cX7_inject 121 = .ok (.aload_n 0, 1) := by decide +kernel
theorem dX7_inject_122 : decode cX7_inject 122 = .ok (.getfield 19, 3) := by decide +kernel
theorem dX7_inject_125 : decode cX7_inject 125 = .ok (.invokevirtual 79, 3) := by decide +kernel
theorem dX7_inject_128 : decode cX7_inject 128 = .ok (.ifCond .eq 11, 3) := by decide +kernel
theorem dX7_inject_131 : decode cX7_inject 131 = .ok (.new 69, 3) := by decide +kernel
theorem dX7_inject_134 : decode cX7_inject 134 = .ok (.dup, 1) := by decide +kernel
theorem dX7_inject_135 : decode cX7_inject 135 = .ok (.invokespecial 71, 3) := by decide +kernel
theorem dX7_inject_138 : decode cX7_inject 138 = .ok (.athrow, 1) := by decide +kernel
theorem dX7_inject_139 : decode cX7_inject 139 = .ok (.aload_n 0, 1) := by decide +kernel
theorem dX7_inject_140 : decode cX7_inject 140 = .ok (.iload_n 2, 1) := by decide +kernel
theorem dX7_inject_141 : decode cX7_inject 141 = .ok (.iload_n 3, 1) := by decide +kernel
theorem dX7_inject_142 : decode cX7_inject 142 = .ok (.iload 4, 2) := by decide +kernel
theorem dX7_inject_144 : decode cX7_inject 144 = .ok (.lload 5, 2) := by decide +kernel
theorem dX7_inject_146 : decode cX7_inject 146 = .ok (.iconst 0, 1) := by decide +kernel
theorem dX7_inject_147 : decode cX7_inject 147 = .ok (.invokevirtual 97, 3) := by decide +kernel
theorem dX7_inject_150 : decode cX7_inject 150 = .ok (.istore 7, 2) := by decide +kernel
theorem dX7_inject_152 : decode cX7_inject 152 = .ok (.aload_n 0, 1) := by decide +kernel
theorem dX7_inject_153 : decode cX7_inject 153 = .ok (.iload 7, 2) := by decide +kernel
theorem dX7_inject_155 : decode cX7_inject 155 = .ok (.iload_n 1, 1) := by decide +kernel
theorem dX7_inject_156 : decode cX7_inject 156 = .ok (.invokevirtual 101, 3) := by decide +kernel
theorem dX7_inject_159 : decode cX7_inject 159 = .ok (.iload 7, 2) := by decide +kernel
theorem dX7_inject_161 : decode cX7_inject 161 = .ok (.ireturn, 1) := by decide +kernel
theorem dX7_event_0 : decode cX7_event 0 = .ok (.iload_n 2, 1) := by decide +kernel
theorem dX7_event_1 : decode cX7_event 1 = .ok (.ifCond .lt 9, 3) := by decide +kernel
theorem dX7_event_4 : decode cX7_event 4 = .ok (.iload_n 2, 1) := by decide +kernel
theorem dX7_event_5 : decode cX7_event 5 = .ok (.bipush 7, 2) := by decide +kernel
theorem dX7_event_7 : decode cX7_event 7 = .ok (.if_icmp .le 11, 3) := by decide +kernel
theorem dX7_event_10 : decode cX7_event 10 = .ok (.new 58, 3) := by decide +kernel
theorem dX7_event_13 : decode cX7_event 13 = .ok (.dup, 1) := by decide +kernel
theorem dX7_event_14 : decode cX7_event 14 = .ok (.invokespecial 60, 3) := by decide +kernel
theorem dX7_event_17 : decode cX7_event 17 = .ok (.athrow, 1) := by decide +kernel
theorem dX7_event_18 : decode cX7_event 18 = .ok (.aload_n 0, 1) := by decide +kernel
theorem dX7_event_19 : decode cX7_event 19 = .ok (.iload_n 1, 1) := by decide +kernel
theorem dX7_event_20 : decode cX7_event 20 = .ok (.invokevirtual 119, 3) := by decide +kernel
theorem dX7_event_23 : decode cX7_event 23 = .ok (.ifCond .ne 11, 3) := by decide +kernel
theorem dX7_event_26 : decode cX7_event 26 = .ok (.new 69, 3) := by decide +kernel
theorem dX7_event_29 : decode cX7_event 29 = .ok (.dup, 1) := by decide +kernel
theorem dX7_event_30 : decode cX7_event 30 = .ok (.invokespecial 71, 3) := by decide +kernel
theorem dX7_event_33 : decode cX7_event 33 = .ok (.athrow, 1) := by decide +kernel
theorem dX7_event_34 : decode cX7_event 34 = .ok (.iload_n 2, 1) := by decide +kernel
theorem dX7_event_35 : decode cX7_event 35 = .ok (.tableswitch 121 0 6 #[41, 51, 61, 71, 81, 99, 109], 41) := by decide +kernel
theorem dX7_event_76 : decode cX7_event 76 = .ok (.aload_n 0, 1) := by decide +kernel
theorem dX7_event_77 : decode cX7_event 77 = .ok (.getfield 19, 3) := by decide +kernel
theorem dX7_event_80 : decode cX7_event 80 = .ok (.getfield 109, 3) := by decide +kernel
theorem dX7_event_83 : decode cX7_event 83 = .ok (.iload_n 1, 1) := by decide +kernel
theorem dX7_event_84 : decode cX7_event 84 = .ok (.iaload, 1) := by decide +kernel
theorem dX7_event_85 : decode cX7_event 85 = .ok (.ireturn, 1) := by decide +kernel
theorem dX7_event_86 : decode cX7_event 86 = .ok (.aload_n 0, 1) := by decide +kernel
theorem dX7_event_87 : decode cX7_event 87 = .ok (.getfield 19, 3) := by decide +kernel
theorem dX7_event_90 : decode cX7_event 90 = .ok (.getfield 122, 3) := by decide +kernel
theorem dX7_event_93 : decode cX7_event 93 = .ok (.iload_n 1, 1) := by decide +kernel
theorem dX7_event_94 : decode cX7_event 94 = .ok (.iaload, 1) := by decide +kernel
theorem dX7_event_95 : decode cX7_event 95 = .ok (.ireturn, 1) := by decide +kernel
theorem dX7_event_96 : decode cX7_event 96 = .ok (.aload_n 0, 1) := by decide +kernel
theorem dX7_event_97 : decode cX7_event 97 = .ok (.getfield 19, 3) := by decide +kernel
theorem dX7_event_100 : decode cX7_event 100 = .ok (.getfield 125, 3) := by decide +kernel
theorem dX7_event_103 : decode cX7_event 103 = .ok (.iload_n 1, 1) := by decide +kernel
theorem dX7_event_104 : decode cX7_event 104 = .ok (.iaload, 1) := by decide +kernel
theorem dX7_event_105 : decode cX7_event 105 = .ok (.ireturn, 1) := by decide +kernel
theorem dX7_event_106 : decode cX7_event 106 = .ok (.aload_n 0, 1) := by decide +kernel
theorem dX7_event_107 : decode cX7_event 107 = .ok (.getfield 28, 3) := by decide +kernel
theorem dX7_event_110 : decode cX7_event 110 = .ok (.getfield 128, 3) := by decide +kernel
theorem dX7_event_113 : decode cX7_event 113 = .ok (.iload_n 1, 1) := by decide +kernel
theorem dX7_event_114 : decode cX7_event 114 = .ok (.iaload, 1) := by decide +kernel
theorem dX7_event_115 : decode cX7_event 115 = .ok (.ireturn, 1) := by decide +kernel
theorem dX7_event_116 : decode cX7_event 116 = .ok (.aload_n 0, 1) := by decide +kernel
theorem dX7_event_117 : decode cX7_event 117 = .ok (.getfield 28, 3) := by decide +kernel
theorem dX7_event_120 : decode cX7_event 120 = .ok (.getfield 131, 3) := by decide +kernel
theorem dX7_event_123 : decode cX7_event 123 = .ok (.iload_n 1, 1) := by decide +kernel
theorem dX7_event_124 : decode cX7_event 124 = .ok (.baload, 1) := by decide +kernel
theorem dX7_event_125 : decode cX7_event 125 = .ok (.ifCond .eq 7, 3) := by decide +kernel
theorem dX7_event_128 : decode cX7_event 128 = .ok (.iconst 1, 1) := by decide +kernel
theorem dX7_event_129 : decode cX7_event 129 = .ok (.goto 4, 3) := by decide +kernel
theorem dX7_event_132 : decode cX7_event 132 = .ok (.iconst 0, 1) := by decide +kernel
theorem dX7_event_133 : decode cX7_event 133 = .ok (.ireturn, 1) := by decide +kernel
theorem dX7_event_134 : decode cX7_event 134 = .ok (.aload_n 0, 1) := by decide +kernel
theorem dX7_event_135 : decode cX7_event 135 = .ok (.getfield 19, 3) := by decide +kernel
theorem dX7_event_138 : decode cX7_event 138 = .ok (.getfield 135, 3) := by decide +kernel
theorem dX7_event_141 : decode cX7_event 141 = .ok (.iload_n 1, 1) := by decide +kernel
theorem dX7_event_142 : decode cX7_event 142 = .ok (.iaload, 1) := by decide +kernel
theorem dX7_event_143 : decode cX7_event 143 = .ok (.ireturn, 1) := by decide +kernel
theorem dX7_event_144 : decode cX7_event 144 = .ok (.aload_n 0, 1) := by decide +kernel
theorem dX7_event_145 : decode cX7_event 145 = .ok (.getfield 19, 3) := by decide +kernel
theorem dX7_event_148 : decode cX7_event 148 = .ok (.getfield 82, 3) := by decide +kernel
theorem dX7_event_151 : decode cX7_event 151 = .ok (.iload_n 1, 1) := by decide +kernel
theorem dX7_event_152 : decode cX7_event 152 = .ok (.invokevirtual 138, 3) := by decide +kernel
theorem dX7_event_155 : decode cX7_event 155 = .ok (.ireturn, 1) := by decide +kernel
theorem dX7_event_156 : decode cX7_event 156 = .ok (.aload_n 0, 1) := by decide +kernel
theorem dX7_event_157 : decode cX7_event 157 = .ok (.getfield 28, 3) := by decide +kernel
theorem dX7_event_160 : decode cX7_event 160 = .ok (.getfield 142, 3) := by decide +kernel
theorem dX7_event_163 : decode cX7_event 163 = .ok (.iload_n 1, 1) := by decide +kernel
theorem dX7_event_164 : decode cX7_event 164 = .ok (.invokevirtual 145, 3) := by decide +kernel
theorem dX7_event_167 : decode cX7_event 167 = .ok (.ireturn, 1) := by decide +kernel
theorem dX7_hash_0 : decode cX7_hash 0 = .ok (.aload_n 0, 1) := by decide +kernel
theorem dX7_hash_1 : decode cX7_hash 1 = .ok (.iload_n 1, 1) := by decide +kernel
theorem dX7_hash_2 : decode cX7_hash 2 = .ok (.invokevirtual 119, 3) := by decide +kernel
theorem dX7_hash_5 : decode cX7_hash 5 = .ok (.ifCond .eq 13, 3) := by decide +kernel
theorem dX7_hash_8 : decode cX7_hash 8 = .ok (.iload_n 2, 1) := by decide +kernel
theorem dX7_hash_9 : decode cX7_hash 9 = .ok (.ifCond .lt 9, 3) := by decide +kernel
theorem dX7_hash_12 : decode cX7_hash 12 = .ok (.iload_n 2, 1) := by decide +kernel
theorem dX7_hash_13 : decode cX7_hash 13 = .ok (.bipush 8, 2) := by decide +kernel
theorem dX7_hash_15 : decode cX7_hash 15 = .ok (.if_icmp .lt 11, 3) := by decide +kernel
theorem dX7_hash_18 : decode cX7_hash 18 = .ok (.new 69, 3) := by decide +kernel
theorem dX7_hash_21 : decode cX7_hash 21 = .ok (.dup, 1) := by decide +kernel
theorem dX7_hash_22 : decode cX7_hash 22 = .ok (.invokespecial 71, 3) := by decide +kernel
theorem dX7_hash_25 : decode cX7_hash 25 = .ok (.athrow, 1) := by decide +kernel
theorem dX7_hash_26 : decode cX7_hash 26 = .ok (.aload_n 0, 1) := by decide +kernel
theorem dX7_hash_27 : decode cX7_hash 27 = .ok (.getfield 19, 3) := by decide +kernel
theorem dX7_hash_30 : decode cX7_hash 30 = .ok (.iload_n 1, 1) := by decide +kernel
theorem dX7_hash_31 : decode cX7_hash 31 = .ok (.iload_n 2, 1) := by decide +kernel
theorem dX7_hash_32 : decode cX7_hash 32 = .ok (.invokevirtual 148, 3) := by decide +kernel
theorem dX7_hash_35 : decode cX7_hash 35 = .ok (.ireturn, 1) := by decide +kernel
theorem dX7_sees_0 : decode cX7_sees 0 = .ok (.aload_n 0, 1) := by decide +kernel
theorem dX7_sees_1 : decode cX7_sees 1 = .ok (.iload_n 1, 1) := by decide +kernel
theorem dX7_sees_2 : decode cX7_sees 2 = .ok (.invokevirtual 119, 3) := by decide +kernel
theorem dX7_sees_5 : decode cX7_sees 5 = .ok (.ifCond .eq 11, 3) := by decide +kernel
theorem dX7_sees_8 : decode cX7_sees 8 = .ok (.aload_n 0, 1) := by decide +kernel
theorem dX7_sees_9 : decode cX7_sees 9 = .ok (.iload_n 2, 1) := by decide +kernel
theorem dX7_sees_10 : decode cX7_sees 10 = .ok (.invokevirtual 119, 3) := by decide +kernel
theorem dX7_sees_13 : decode cX7_sees 13 = .ok (.ifCond .ne 11, 3) := by decide +kernel
theorem dX7_sees_16 : decode cX7_sees 16 = .ok (.new 69, 3) := by decide +kernel
theorem dX7_sees_19 : decode cX7_sees 19 = .ok (.dup, 1) := by decide +kernel
theorem dX7_sees_20 : decode cX7_sees 20 = .ok (.invokespecial 71, 3) := by decide +kernel
theorem dX7_sees_23 : decode cX7_sees 23 = .ok (.athrow, 1) := by decide +kernel
theorem dX7_sees_24 : decode cX7_sees 24 = .ok (.iload_n 3, 1) := by decide +kernel
theorem dX7_sees_25 : decode cX7_sees 25 = .ok (.ifCond .eq 18, 3) := by decide +kernel
theorem dX7_sees_28 : decode cX7_sees 28 = .ok (.aload_n 0, 1) := by decide +kernel
theorem dX7_sees_29 : decode cX7_sees 29 = .ok (.getfield 28, 3) := by decide +kernel
theorem dX7_sees_32 : decode cX7_sees 32 = .ok (.getfield 151, 3) := by decide +kernel
theorem dX7_sees_35 : decode cX7_sees 35 = .ok (.iload_n 1, 1) := by decide +kernel
theorem dX7_sees_36 : decode cX7_sees 36 = .ok (.iload_n 2, 1) := by decide +kernel
theorem dX7_sees_37 : decode cX7_sees 37 = .ok (.invokevirtual 154, 3) := by decide +kernel
theorem dX7_sees_40 : decode cX7_sees 40 = .ok (.goto 15, 3) := by decide +kernel
theorem dX7_sees_43 : decode cX7_sees 43 = .ok (.aload_n 0, 1) := by decide +kernel
theorem dX7_sees_44 : decode cX7_sees 44 = .ok (.getfield 28, 3) := by decide +kernel
theorem dX7_sees_47 : decode cX7_sees 47 = .ok (.getfield 157, 3) := by decide +kernel
theorem dX7_sees_50 : decode cX7_sees 50 = .ok (.iload_n 1, 1) := by decide +kernel
theorem dX7_sees_51 : decode cX7_sees 51 = .ok (.iload_n 2, 1) := by decide +kernel
theorem dX7_sees_52 : decode cX7_sees 52 = .ok (.invokevirtual 154, 3) := by decide +kernel
theorem dX7_sees_55 : decode cX7_sees 55 = .ok (.ireturn, 1) := by decide +kernel
theorem dX7_vote_0 : decode cX7_vote 0 = .ok (.aload_n 0, 1) := by decide +kernel
theorem dX7_vote_1 : decode cX7_vote 1 = .ok (.iload_n 1, 1) := by decide +kernel
theorem dX7_vote_2 : decode cX7_vote 2 = .ok (.invokevirtual 119, 3) := by decide +kernel
theorem dX7_vote_5 : decode cX7_vote 5 = .ok (.ifCond .eq 11, 3) := by decide +kernel
theorem dX7_vote_8 : decode cX7_vote 8 = .ok (.aload_n 0, 1) := by decide +kernel
theorem dX7_vote_9 : decode cX7_vote 9 = .ok (.iload_n 2, 1) := by decide +kernel
theorem dX7_vote_10 : decode cX7_vote 10 = .ok (.invokevirtual 119, 3) := by decide +kernel
theorem dX7_vote_13 : decode cX7_vote 13 = .ok (.ifCond .ne 11, 3) := by decide +kernel
theorem dX7_vote_16 : decode cX7_vote 16 = .ok (.new 69, 3) := by decide +kernel
theorem dX7_vote_19 : decode cX7_vote 19 = .ok (.dup, 1) := by decide +kernel
theorem dX7_vote_20 : decode cX7_vote 20 = .ok (.invokespecial 71, 3) := by decide +kernel
theorem dX7_vote_23 : decode cX7_vote 23 = .ok (.athrow, 1) := by decide +kernel
theorem dX7_vote_24 : decode cX7_vote 24 = .ok (.aload_n 0, 1) := by decide +kernel
theorem dX7_vote_25 : decode cX7_vote 25 = .ok (.getfield 28, 3) := by decide +kernel
theorem dX7_vote_28 : decode cX7_vote 28 = .ok (.getfield 131, 3) := by decide +kernel
theorem dX7_vote_31 : decode cX7_vote 31 = .ok (.iload_n 1, 1) := by decide +kernel
theorem dX7_vote_32 : decode cX7_vote 32 = .ok (.baload, 1) := by decide +kernel
theorem dX7_vote_33 : decode cX7_vote 33 = .ok (.ifCond .eq 36, 3) := by decide +kernel
theorem dX7_vote_36 : decode cX7_vote 36 = .ok (.aload_n 0, 1) := by decide +kernel
theorem dX7_vote_37 : decode cX7_vote 37 = .ok (.getfield 28, 3) := by decide +kernel
theorem dX7_vote_40 : decode cX7_vote 40 = .ok (.getfield 131, 3) := by decide +kernel
theorem dX7_vote_43 : decode cX7_vote 43 = .ok (.iload_n 2, 1) := by decide +kernel
theorem dX7_vote_44 : decode cX7_vote 44 = .ok (.baload, 1) := by decide +kernel
theorem dX7_vote_45 : decode cX7_vote 45 = .ok (.ifCond .eq 24, 3) := by decide +kernel
theorem dX7_vote_48 : decode cX7_vote 48 = .ok (.aload_n 0, 1) := by decide +kernel
theorem dX7_vote_49 : decode cX7_vote 49 = .ok (.getfield 28, 3) := by decide +kernel
theorem dX7_vote_52 : decode cX7_vote 52 = .ok (.getfield 128, 3) := by decide +kernel
theorem dX7_vote_55 : decode cX7_vote 55 = .ok (.iload_n 1, 1) := by decide +kernel
theorem dX7_vote_56 : decode cX7_vote 56 = .ok (.iaload, 1) := by decide +kernel
theorem dX7_vote_57 : decode cX7_vote 57 = .ok (.aload_n 0, 1) := by decide +kernel
theorem dX7_vote_58 : decode cX7_vote 58 = .ok (.getfield 28, 3) := by decide +kernel
theorem dX7_vote_61 : decode cX7_vote 61 = .ok (.getfield 128, 3) := by decide +kernel
theorem dX7_vote_64 : decode cX7_vote 64 = .ok (.iload_n 2, 1) := by decide +kernel
theorem dX7_vote_65 : decode cX7_vote 65 = .ok (.iaload, 1) := by decide +kernel
theorem dX7_vote_66 : decode cX7_vote 66 = .ok (.if_icmp .gt 11, 3) := by decide +kernel
theorem dX7_vote_69 : decode cX7_vote 69 = .ok (.new 58, 3) := by decide +kernel
theorem dX7_vote_72 : decode cX7_vote 72 = .ok (.dup, 1) := by decide +kernel
theorem dX7_vote_73 : decode cX7_vote 73 = .ok (.invokespecial 60, 3) := by decide +kernel
theorem dX7_vote_76 : decode cX7_vote 76 = .ok (.athrow, 1) := by decide +kernel
theorem dX7_vote_77 : decode cX7_vote 77 = .ok (.aload_n 0, 1) := by decide +kernel
theorem dX7_vote_78 : decode cX7_vote 78 = .ok (.getfield 37, 3) := by decide +kernel
theorem dX7_vote_81 : decode cX7_vote 81 = .ok (.iload_n 1, 1) := by decide +kernel
theorem dX7_vote_82 : decode cX7_vote 82 = .ok (.iload_n 2, 1) := by decide +kernel
theorem dX7_vote_83 : decode cX7_vote 83 = .ok (.invokevirtual 160, 3) := by decide +kernel
theorem dX7_vote_86 : decode cX7_vote 86 = .ok (.ifCond .eq 7, 3) := by decide +kernel
theorem dX7_vote_89 : decode cX7_vote 89 = .ok (.iconst 1, 1) := by decide +kernel
theorem dX7_vote_90 : decode cX7_vote 90 = .ok (.goto 4, 3) := by decide +kernel
theorem dX7_vote_93 : decode cX7_vote 93 = .ok (.iconst 0, 1) := by decide +kernel
theorem dX7_vote_94 : decode cX7_vote 94 = .ok (.aload_n 0, 1) := by decide +kernel
theorem dX7_vote_95 : decode cX7_vote 95 = .ok (.getfield 37, 3) := by decide +kernel
theorem dX7_vote_98 : decode cX7_vote 98 = .ok (.iload_n 1, 1) := by decide +kernel
theorem dX7_vote_99 : decode cX7_vote 99 = .ok (.iload_n 2, 1) := by decide +kernel
theorem dX7_vote_100 : decode cX7_vote 100 = .ok (.invokevirtual 163, 3) := by decide +kernel
theorem dX7_vote_103 : decode cX7_vote 103 = .ok (.ifCond .eq 7, 3) := by decide +kernel
theorem dX7_vote_106 : decode cX7_vote 106 = .ok (.iconst 2, 1) := by decide +kernel
theorem dX7_vote_107 : decode cX7_vote 107 = .ok (.goto 4, 3) := by decide +kernel
theorem dX7_vote_110 : decode cX7_vote 110 = .ok (.iconst 0, 1) := by decide +kernel
theorem dX7_vote_111 : decode cX7_vote 111 = .ok (.iadd, 1) := by decide +kernel
theorem dX7_vote_112 : decode cX7_vote 112 = .ok (.ireturn, 1) := by decide +kernel
theorem dX7_found_0 : decode cX7_found 0 = .ok (.aload_n 0, 1) := by decide +kernel
theorem dX7_found_1 : decode cX7_found 1 = .ok (.iload_n 1, 1) := by decide +kernel
theorem dX7_found_2 : decode cX7_found 2 = .ok (.invokevirtual 61, 3) := by decide +kernel
theorem dX7_found_5 : decode cX7_found 5 = .ok (.ifCond .eq 12, 3) := by decide +kernel
theorem dX7_found_8 : decode cX7_found 8 = .ok (.iload_n 3, 1) := by decide +kernel
theorem dX7_found_9 : decode cX7_found 9 = .ok (.ifCond .lt 8, 3) := by decide +kernel
theorem dX7_found_12 : decode cX7_found 12 = .ok (.iload_n 3, 1) := by decide +kernel
theorem dX7_found_13 : decode cX7_found 13 = .ok (.iconst 3, 1) := by decide +kernel
theorem dX7_found_14 : decode cX7_found 14 = .ok (.if_icmp .le 11, 3) := by decide +kernel
theorem dX7_found_17 : decode cX7_found 17 = .ok (.new 58, 3) := by decide +kernel
theorem dX7_found_20 : decode cX7_found 20 = .ok (.dup, 1) := by decide +kernel
theorem dX7_found_21 : decode cX7_found 21 = .ok (.invokespecial 60, 3) := by decide +kernel
theorem dX7_found_24 : decode cX7_found 24 = .ok (.athrow, 1) := by decide +kernel
theorem dX7_found_25 : decode cX7_found 25 = .ok (.aload_n 0, 1) := by decide +kernel
theorem dX7_found_26 : decode cX7_found 26 = .ok (.iload_n 2, 1) := by decide +kernel
theorem dX7_found_27 : decode cX7_found 27 = .ok (.invokevirtual 119, 3) := by decide +kernel
theorem dX7_found_30 : decode cX7_found 30 = .ok (.ifCond .ne 11, 3) := by decide +kernel
theorem dX7_found_33 : decode cX7_found 33 = .ok (.new 69, 3) := by decide +kernel
theorem dX7_found_36 : decode cX7_found 36 = .ok (.dup, 1) := by decide +kernel
theorem dX7_found_37 : decode cX7_found 37 = .ok (.invokespecial 71, 3) := by decide +kernel
theorem dX7_found_40 : decode cX7_found 40 = .ok (.athrow, 1) := by decide +kernel
theorem dX7_found_41 : decode cX7_found 41 = .ok (.iload_n 3, 1) := by decide +kernel
theorem dX7_found_42 : decode cX7_found 42 = .ok (.tableswitch 69 0 2 #[26, 47, 58], 26) := by decide +kernel
theorem dX7_found_68 : decode cX7_found 68 = .ok (.aload_n 0, 1) := by decide +kernel
theorem dX7_found_69 : decode cX7_found 69 = .ok (.getfield 19, 3) := by decide +kernel
theorem dX7_found_72 : decode cX7_found 72 = .ok (.getfield 82, 3) := by decide +kernel
theorem dX7_found_75 : decode cX7_found 75 = .ok (.iload_n 1, 1) := by decide +kernel
theorem dX7_found_76 : decode cX7_found 76 = .ok (.iload_n 2, 1) := by decide +kernel
theorem dX7_found_77 : decode cX7_found 77 = .ok (.invokevirtual 154, 3) := by decide +kernel
theorem dX7_found_80 : decode cX7_found 80 = .ok (.ifCond .eq 7, 3) := by decide +kernel
theorem dX7_found_83 : decode cX7_found 83 = .ok (.iconst 1, 1) := by decide +kernel
theorem dX7_found_84 : decode cX7_found 84 = .ok (.goto 4, 3) := by decide +kernel
theorem dX7_found_87 : decode cX7_found 87 = .ok (.iconst 0, 1) := by decide +kernel
theorem dX7_found_88 : decode cX7_found 88 = .ok (.ireturn, 1) := by decide +kernel
theorem dX7_found_89 : decode cX7_found 89 = .ok (.aload_n 0, 1) := by decide +kernel
theorem dX7_found_90 : decode cX7_found 90 = .ok (.iload_n 1, 1) := by decide +kernel
theorem dX7_found_91 : decode cX7_found 91 = .ok (.invokevirtual 166, 3) := by decide +kernel
theorem dX7_found_94 : decode cX7_found 94 = .ok (.getfield 170, 3) := by decide +kernel
theorem dX7_found_97 : decode cX7_found 97 = .ok (.iload_n 2, 1) := by decide +kernel
theorem dX7_found_98 : decode cX7_found 98 = .ok (.iaload, 1) := by decide +kernel
theorem dX7_found_99 : decode cX7_found 99 = .ok (.ireturn, 1) := by decide +kernel
theorem dX7_found_100 : decode cX7_found 100 = .ok (.aload_n 0, 1) := by decide +kernel
theorem dX7_found_101 : decode cX7_found 101 = .ok (.iload_n 1, 1) := by decide +kernel
theorem dX7_found_102 : decode cX7_found 102 = .ok (.invokevirtual 166, 3) := by decide +kernel
theorem dX7_found_105 : decode cX7_found 105 = .ok (.getfield 173, 3) := by decide +kernel
theorem dX7_found_108 : decode cX7_found 108 = .ok (.iload_n 2, 1) := by decide +kernel
theorem dX7_found_109 : decode cX7_found 109 = .ok (.iaload, 1) := by decide +kernel
theorem dX7_found_110 : decode cX7_found 110 = .ok (.ireturn, 1) := by decide +kernel
theorem dX7_found_111 : decode cX7_found 111 = .ok (.aload_n 0, 1) := by decide +kernel
theorem dX7_found_112 : decode cX7_found 112 = .ok (.iload_n 1, 1) := by decide +kernel
theorem dX7_found_113 : decode cX7_found 113 = .ok (.invokevirtual 166, 3) := by decide +kernel
theorem dX7_found_116 : decode cX7_found 116 = .ok (.getfield 176, 3) := by decide +kernel
theorem dX7_found_119 : decode cX7_found 119 = .ok (.iload_n 2, 1) := by decide +kernel
theorem dX7_found_120 : decode cX7_found 120 = .ok (.iaload, 1) := by decide +kernel
theorem dX7_found_121 : decode cX7_found 121 = .ok (.ireturn, 1) := by decide +kernel
theorem dX7_stamp_0 : decode cX7_stamp 0 = .ok (.aload_n 0, 1) := by decide +kernel
theorem dX7_stamp_1 : decode cX7_stamp 1 = .ok (.iload_n 1, 1) := by decide +kernel
theorem dX7_stamp_2 : decode cX7_stamp 2 = .ok (.invokevirtual 61, 3) := by decide +kernel
theorem dX7_stamp_5 : decode cX7_stamp 5 = .ok (.ifCond .ne 11, 3) := by decide +kernel
theorem dX7_stamp_8 : decode cX7_stamp 8 = .ok (.new 58, 3) := by decide +kernel
theorem dX7_stamp_11 : decode cX7_stamp 11 = .ok (.dup, 1) := by decide +kernel
theorem dX7_stamp_12 : decode cX7_stamp 12 = .ok (.invokespecial 60, 3) := by decide +kernel
theorem dX7_stamp_15 : decode cX7_stamp 15 = .ok (.athrow, 1) := by decide +kernel
theorem dX7_stamp_16 : decode cX7_stamp 16 = .ok (.aload_n 0, 1) := by decide +kernel
theorem dX7_stamp_17 : decode cX7_stamp 17 = .ok (.iload_n 2, 1) := by decide +kernel
theorem dX7_stamp_18 : decode cX7_stamp 18 = .ok (.invokevirtual 119, 3) := by decide +kernel
theorem dX7_stamp_21 : decode cX7_stamp 21 = .ok (.ifCond .ne 11, 3) := by decide +kernel
theorem dX7_stamp_24 : decode cX7_stamp 24 = .ok (.new 69, 3) := by decide +kernel
theorem dX7_stamp_27 : decode cX7_stamp 27 = .ok (.dup, 1) := by decide +kernel
theorem dX7_stamp_28 : decode cX7_stamp 28 = .ok (.invokespecial 71, 3) := by decide +kernel
theorem dX7_stamp_31 : decode cX7_stamp 31 = .ok (.athrow, 1) := by decide +kernel
theorem dX7_stamp_32 : decode cX7_stamp 32 = .ok (.aload_n 0, 1) := by decide +kernel
theorem dX7_stamp_33 : decode cX7_stamp 33 = .ok (.iload_n 1, 1) := by decide +kernel
theorem dX7_stamp_34 : decode cX7_stamp 34 = .ok (.invokevirtual 166, 3) := by decide +kernel
theorem dX7_stamp_37 : decode cX7_stamp 37 = .ok (.astore_n 3, 1) := by decide +kernel
theorem dX7_stamp_38 : decode cX7_stamp 38 = .ok (.aload_n 3, 1) := by decide +kernel
theorem dX7_stamp_39 : decode cX7_stamp 39 = .ok (.getfield 173, 3) := by decide +kernel
theorem dX7_stamp_42 : decode cX7_stamp 42 = .ok (.iload_n 2, 1) := by decide +kernel
theorem dX7_stamp_43 : decode cX7_stamp 43 = .ok (.iaload, 1) := by decide +kernel
theorem dX7_stamp_44 : decode cX7_stamp 44 = .ok (.ifCond .ne 11, 3) := by decide +kernel
theorem dX7_stamp_47 : decode cX7_stamp 47 = .ok (.new 179, 3) := by decide +kernel
theorem dX7_stamp_50 : decode cX7_stamp 50 = .ok (.dup, 1) := by decide +kernel
theorem dX7_stamp_51 : decode cX7_stamp 51 = .ok (.invokespecial 181, 3) := by decide +kernel
theorem dX7_stamp_54 : decode cX7_stamp 54 = .ok (.athrow, 1) := by decide +kernel
theorem dX7_stamp_55 : decode cX7_stamp 55 = .ok (.aload_n 3, 1) := by decide +kernel
theorem dX7_stamp_56 : decode cX7_stamp 56 = .ok (.getfield 182, 3) := by decide +kernel
theorem dX7_stamp_59 : decode cX7_stamp 59 = .ok (.iload_n 2, 1) := by decide +kernel
theorem dX7_stamp_60 : decode cX7_stamp 60 = .ok (.laload, 1) := by decide +kernel
theorem dX7_stamp_61 : decode cX7_stamp 61 = .ok (.lreturn, 1) := by decide +kernel
theorem dX7_order_0 : decode cX7_order 0 = .ok (.aload_n 0, 1) := by decide +kernel
theorem dX7_order_1 : decode cX7_order 1 = .ok (.iload_n 1, 1) := by decide +kernel
theorem dX7_order_2 : decode cX7_order 2 = .ok (.invokevirtual 61, 3) := by decide +kernel
theorem dX7_order_5 : decode cX7_order 5 = .ok (.ifCond .ne 11, 3) := by decide +kernel
theorem dX7_order_8 : decode cX7_order 8 = .ok (.new 58, 3) := by decide +kernel
theorem dX7_order_11 : decode cX7_order 11 = .ok (.dup, 1) := by decide +kernel
theorem dX7_order_12 : decode cX7_order 12 = .ok (.invokespecial 60, 3) := by decide +kernel
theorem dX7_order_15 : decode cX7_order 15 = .ok (.athrow, 1) := by decide +kernel
theorem dX7_order_16 : decode cX7_order 16 = .ok (.aload_n 0, 1) := by decide +kernel
theorem dX7_order_17 : decode cX7_order 17 = .ok (.iload_n 1, 1) := by decide +kernel
theorem dX7_order_18 : decode cX7_order 18 = .ok (.invokevirtual 166, 3) := by decide +kernel
theorem dX7_order_21 : decode cX7_order 21 = .ok (.getfield 186, 3) := by decide +kernel
theorem dX7_order_24 : decode cX7_order 24 = .ok (.ireturn, 1) := by decide +kernel
theorem dX7_at_0 : decode cX7_at 0 = .ok (.aload_n 0, 1) := by decide +kernel
theorem dX7_at_1 : decode cX7_at 1 = .ok (.iload_n 1, 1) := by decide +kernel
theorem dX7_at_2 : decode cX7_at 2 = .ok (.invokevirtual 61, 3) := by decide +kernel
theorem dX7_at_5 : decode cX7_at 5 = .ok (.ifCond .ne 11, 3) := by decide +kernel
theorem dX7_at_8 : decode cX7_at 8 = .ok (.new 58, 3) := by decide +kernel
theorem dX7_at_11 : decode cX7_at 11 = .ok (.dup, 1) := by decide +kernel
theorem dX7_at_12 : decode cX7_at 12 = .ok (.invokespecial 60, 3) := by decide +kernel
theorem dX7_at_15 : decode cX7_at 15 = .ok (.athrow, 1) := by decide +kernel
theorem dX7_at_16 : decode cX7_at 16 = .ok (.aload_n 0, 1) := by decide +kernel
theorem dX7_at_17 : decode cX7_at 17 = .ok (.iload_n 1, 1) := by decide +kernel
theorem dX7_at_18 : decode cX7_at 18 = .ok (.invokevirtual 166, 3) := by decide +kernel
theorem dX7_at_21 : decode cX7_at 21 = .ok (.astore_n 3, 1) := by decide +kernel
theorem dX7_at_22 : decode cX7_at 22 = .ok (.iload_n 2, 1) := by decide +kernel
theorem dX7_at_23 : decode cX7_at 23 = .ok (.ifCond .lt 11, 3) := by decide +kernel
theorem dX7_at_26 : decode cX7_at 26 = .ok (.iload_n 2, 1) := by decide +kernel
theorem dX7_at_27 : decode cX7_at 27 = .ok (.aload_n 3, 1) := by decide +kernel
theorem dX7_at_28 : decode cX7_at 28 = .ok (.getfield 186, 3) := by decide +kernel
theorem dX7_at_31 : decode cX7_at 31 = .ok (.if_icmp .lt 11, 3) := by decide +kernel
theorem dX7_at_34 : decode cX7_at 34 = .ok (.new 69, 3) := by decide +kernel
theorem dX7_at_37 : decode cX7_at 37 = .ok (.dup, 1) := by decide +kernel
theorem dX7_at_38 : decode cX7_at 38 = .ok (.invokespecial 71, 3) := by decide +kernel
theorem dX7_at_41 : decode cX7_at 41 = .ok (.athrow, 1) := by decide +kernel
theorem dX7_at_42 : decode cX7_at 42 = .ok (.aload_n 3, 1) := by decide +kernel
theorem dX7_at_43 : decode cX7_at 43 = .ok (.getfield 189, 3) := by decide +kernel
theorem dX7_at_46 : decode cX7_at 46 = .ok (.iload_n 2, 1) := by decide +kernel
theorem dX7_at_47 : decode cX7_at 47 = .ok (.iaload, 1) := by decide +kernel
theorem dX7_at_48 : decode cX7_at 48 = .ok (.ireturn, 1) := by decide +kernel
theorem dX7_balance_0 : decode cX7_balance 0 = .ok (.aload_n 0, 1) := by decide +kernel
theorem dX7_balance_1 : decode cX7_balance 1 = .ok (.iload_n 1, 1) := by decide +kernel
theorem dX7_balance_2 : decode cX7_balance 2 = .ok (.invokevirtual 61, 3) := by decide +kernel
theorem dX7_balance_5 : decode cX7_balance 5 = .ok (.ifCond .eq 11, 3) := by decide +kernel
theorem dX7_balance_8 : decode cX7_balance 8 = .ok (.aload_n 0, 1) := by decide +kernel
theorem dX7_balance_9 : decode cX7_balance 9 = .ok (.iload_n 2, 1) := by decide +kernel
theorem dX7_balance_10 : decode cX7_balance 10 = .ok (.invokevirtual 61, 3) := by decide +kernel
theorem dX7_balance_13 : decode cX7_balance 13 = .ok (.ifCond .ne 11, 3) := by decide +kernel
theorem dX7_balance_16 : decode cX7_balance 16 = .ok (.new 58, 3) := by decide +kernel
theorem dX7_balance_19 : decode cX7_balance 19 = .ok (.dup, 1) := by decide +kernel
theorem dX7_balance_20 : decode cX7_balance 20 = .ok (.invokespecial 60, 3) := by decide +kernel
theorem dX7_balance_23 : decode cX7_balance 23 = .ok (.athrow, 1) := by decide +kernel
theorem dX7_balance_24 : decode cX7_balance 24 = .ok (.aload_n 0, 1) := by decide +kernel
theorem dX7_balance_25 : decode cX7_balance 25 = .ok (.iload_n 1, 1) := by decide +kernel
theorem dX7_balance_26 : decode cX7_balance 26 = .ok (.invokevirtual 166, 3) := by decide +kernel
theorem dX7_balance_29 : decode cX7_balance 29 = .ok (.getfield 192, 3) := by decide +kernel
theorem dX7_balance_32 : decode cX7_balance 32 = .ok (.iload_n 2, 1) := by decide +kernel
theorem dX7_balance_33 : decode cX7_balance 33 = .ok (.iaload, 1) := by decide +kernel
theorem dX7_balance_34 : decode cX7_balance 34 = .ok (.ireturn, 1) := by decide +kernel
theorem dX7_count_0 : decode cX7_count 0 = .ok (.iload_n 1, 1) := by decide +kernel
theorem dX7_count_1 : decode cX7_count 1 = .ok (.tableswitch 85 0 5 #[39, 44, 52, 60, 68, 77], 39) := by decide +kernel
theorem dX7_count_40 : decode cX7_count 40 = .ok (.aload_n 0, 1) := by decide +kernel
theorem dX7_count_41 : decode cX7_count 41 = .ok (.getfield 195, 3) := by decide +kernel
theorem dX7_count_44 : decode cX7_count 44 = .ok (.ireturn, 1) := by decide +kernel
theorem dX7_count_45 : decode cX7_count 45 = .ok (.aload_n 0, 1) := by decide +kernel
theorem dX7_count_46 : decode cX7_count 46 = .ok (.getfield 19, 3) := by decide +kernel
theorem dX7_count_49 : decode cX7_count 49 = .ok (.getfield 198, 3) := by decide +kernel
theorem dX7_count_52 : decode cX7_count 52 = .ok (.ireturn, 1) := by decide +kernel
theorem dX7_count_53 : decode cX7_count 53 = .ok (.aload_n 0, 1) := by decide +kernel
theorem dX7_count_54 : decode cX7_count 54 = .ok (.getfield 28, 3) := by decide +kernel
theorem dX7_count_57 : decode cX7_count 57 = .ok (.getfield 200, 3) := by decide +kernel
theorem dX7_count_60 : decode cX7_count 60 = .ok (.ireturn, 1) := by decide +kernel
theorem dX7_count_61 : decode cX7_count 61 = .ok (.aload_n 0, 1) := by decide +kernel
theorem dX7_count_62 : decode cX7_count 62 = .ok (.getfield 28, 3) := by decide +kernel
theorem dX7_count_65 : decode cX7_count 65 = .ok (.getfield 203, 3) := by decide +kernel
theorem dX7_count_68 : decode cX7_count 68 = .ok (.ireturn, 1) := by decide +kernel
theorem dX7_count_69 : decode cX7_count 69 = .ok (.aload_n 0, 1) := by decide +kernel
theorem dX7_count_70 : decode cX7_count 70 = .ok (.iconst 0, 1) := by decide +kernel
theorem dX7_count_71 : decode cX7_count 71 = .ok (.invokevirtual 166, 3) := by decide +kernel
theorem dX7_count_74 : decode cX7_count 74 = .ok (.getfield 206, 3) := by decide +kernel
theorem dX7_count_77 : decode cX7_count 77 = .ok (.ireturn, 1) := by decide +kernel
theorem dX7_count_78 : decode cX7_count 78 = .ok (.aload_n 0, 1) := by decide +kernel
theorem dX7_count_79 : decode cX7_count 79 = .ok (.getfield 10, 3) := by decide +kernel
theorem dX7_count_82 : decode cX7_count 82 = .ok (.invokevirtual 209, 3) := by decide +kernel
theorem dX7_count_85 : decode cX7_count 85 = .ok (.ireturn, 1) := by decide +kernel
theorem dX7_count_86 : decode cX7_count 86 = .ok (.new 58, 3) := by decide +kernel
theorem dX7_count_89 : decode cX7_count 89 = .ok (.dup, 1) := by decide +kernel
theorem dX7_count_90 : decode cX7_count 90 = .ok (.invokespecial 60, 3) := by decide +kernel
theorem dX7_count_93 : decode cX7_count 93 = .ok (.athrow, 1) := by decide +kernel
theorem dX7_startAnew_0 : decode cX7_startAnew 0 = .ok (.aload_n 0, 1) := by decide +kernel
theorem dX7_startAnew_1 : decode cX7_startAnew 1 = .ok (.iload_n 1, 1) := by decide +kernel
theorem dX7_startAnew_2 : decode cX7_startAnew 2 = .ok (.putfield 195, 3) := by decide +kernel
theorem dX7_startAnew_5 : decode cX7_startAnew 5 = .ok (.aload_n 0, 1) := by decide +kernel
theorem dX7_startAnew_6 : decode cX7_startAnew 6 = .ok (.getfield 10, 3) := by decide +kernel
theorem dX7_startAnew_9 : decode cX7_startAnew 9 = .ok (.invokevirtual 213, 3) := by decide +kernel
theorem dX7_startAnew_12 : decode cX7_startAnew 12 = .ok (.aload_n 0, 1) := by decide +kernel
theorem dX7_startAnew_13 : decode cX7_startAnew 13 = .ok (.getfield 19, 3) := by decide +kernel
theorem dX7_startAnew_16 : decode cX7_startAnew 16 = .ok (.invokevirtual 216, 3) := by decide +kernel
theorem dX7_startAnew_19 : decode cX7_startAnew 19 = .ok (.aload_n 0, 1) := by decide +kernel
theorem dX7_startAnew_20 : decode cX7_startAnew 20 = .ok (.getfield 28, 3) := by decide +kernel
theorem dX7_startAnew_23 : decode cX7_startAnew 23 = .ok (.iload_n 1, 1) := by decide +kernel
theorem dX7_startAnew_24 : decode cX7_startAnew 24 = .ok (.invokevirtual 217, 3) := by decide +kernel
theorem dX7_startAnew_27 : decode cX7_startAnew 27 = .ok (.aload_n 0, 1) := by decide +kernel
theorem dX7_startAnew_28 : decode cX7_startAnew 28 = .ok (.getfield 37, 3) := by decide +kernel
theorem dX7_startAnew_31 : decode cX7_startAnew 31 = .ok (.iload_n 1, 1) := by decide +kernel
theorem dX7_startAnew_32 : decode cX7_startAnew 32 = .ok (.invokevirtual 219, 3) := by decide +kernel
theorem dX7_startAnew_35 : decode cX7_startAnew 35 = .ok (.iconst 0, 1) := by decide +kernel
theorem dX7_startAnew_36 : decode cX7_startAnew 36 = .ok (.istore_n 2, 1) := by decide +kernel
theorem dX7_startAnew_37 : decode cX7_startAnew 37 = .ok (.iload_n 2, 1) := by decide +kernel
theorem dX7_startAnew_38 : decode cX7_startAnew 38 = .ok (.iload_n 1, 1) := by decide +kernel
theorem dX7_startAnew_39 : decode cX7_startAnew 39 = .ok (.if_icmp .ge 35, 3) := by decide +kernel
theorem dX7_startAnew_42 : decode cX7_startAnew 42 = .ok (.aload_n 0, 1) := by decide +kernel
theorem dX7_startAnew_43 : decode cX7_startAnew 43 = .ok (.getfield 47, 3) := by decide +kernel
theorem dX7_startAnew_46 : decode cX7_startAnew 46 = .ok (.iload_n 2, 1) := by decide +kernel
theorem dX7_startAnew_47 : decode cX7_startAnew 47 = .ok (.aload_n 0, 1) := by decide +kernel
theorem dX7_startAnew_48 : decode cX7_startAnew 48 = .ok (.iload_n 2, 1) := by decide +kernel
theorem dX7_startAnew_49 : decode cX7_startAnew 49 = .ok (.iconst (-1), 1) := by decide +kernel
theorem dX7_startAnew_50 : decode cX7_startAnew 50 = .ok (.iconst (-1), 1) := by decide +kernel
theorem dX7_startAnew_51 : decode cX7_startAnew 51 = .ok (.lconst 0, 1) := by decide +kernel
theorem dX7_startAnew_52 : decode cX7_startAnew 52 = .ok (.iconst 0, 1) := by decide +kernel
theorem dX7_startAnew_53 : decode cX7_startAnew 53 = .ok (.invokevirtual 97, 3) := by decide +kernel
theorem dX7_startAnew_56 : decode cX7_startAnew 56 = .ok (.iastore, 1) := by decide +kernel
theorem dX7_startAnew_57 : decode cX7_startAnew 57 = .ok (.aload_n 0, 1) := by decide +kernel
theorem dX7_startAnew_58 : decode cX7_startAnew 58 = .ok (.aload_n 0, 1) := by decide +kernel
theorem dX7_startAnew_59 : decode cX7_startAnew 59 = .ok (.getfield 47, 3) := by decide +kernel
theorem dX7_startAnew_62 : decode cX7_startAnew 62 = .ok (.iload_n 2, 1) := by decide +kernel
theorem dX7_startAnew_63 : decode cX7_startAnew 63 = .ok (.iaload, 1) := by decide +kernel
theorem dX7_startAnew_64 : decode cX7_startAnew 64 = .ok (.iload_n 2, 1) := by decide +kernel
theorem dX7_startAnew_65 : decode cX7_startAnew 65 = .ok (.invokevirtual 101, 3) := by decide +kernel
theorem dX7_startAnew_68 : decode cX7_startAnew 68 = .ok (.iinc 2 1, 3) := by decide +kernel
theorem dX7_startAnew_71 : decode cX7_startAnew 71 = .ok (.goto (-34), 3) := by decide +kernel
theorem dX7_startAnew_74 : decode cX7_startAnew 74 = .ok (.return_, 1) := by decide +kernel
theorem dX7_makeEvent_0 : decode cX7_makeEvent 0 = .ok (.aload_n 0, 1) := by decide +kernel
theorem dX7_makeEvent_1 : decode cX7_makeEvent 1 = .ok (.getfield 19, 3) := by decide +kernel
theorem dX7_makeEvent_4 : decode cX7_makeEvent 4 = .ok (.iload_n 1, 1) := by decide +kernel
theorem dX7_makeEvent_5 : decode cX7_makeEvent 5 = .ok (.iload_n 2, 1) := by decide +kernel
theorem dX7_makeEvent_6 : decode cX7_makeEvent 6 = .ok (.iload_n 3, 1) := by decide +kernel
theorem dX7_makeEvent_7 : decode cX7_makeEvent 7 = .ok (.lload 4, 2) := by decide +kernel
theorem dX7_makeEvent_9 : decode cX7_makeEvent 9 = .ok (.invokevirtual 220, 3) := by decide +kernel
theorem dX7_makeEvent_12 : decode cX7_makeEvent 12 = .ok (.istore 7, 2) := by decide +kernel
theorem dX7_makeEvent_14 : decode cX7_makeEvent 14 = .ok (.iconst 0, 1) := by decide +kernel
theorem dX7_makeEvent_15 : decode cX7_makeEvent 15 = .ok (.istore 8, 2) := by decide +kernel
theorem dX7_makeEvent_17 : decode cX7_makeEvent 17 = .ok (.iload 8, 2) := by decide +kernel
theorem dX7_makeEvent_19 : decode cX7_makeEvent 19 = .ok (.iload 6, 2) := by decide +kernel
theorem dX7_makeEvent_21 : decode cX7_makeEvent 21 = .ok (.if_icmp .ge 42, 3) := by decide +kernel
theorem dX7_makeEvent_24 : decode cX7_makeEvent 24 = .ok (.aload_n 0, 1) := by decide +kernel
theorem dX7_makeEvent_25 : decode cX7_makeEvent 25 = .ok (.getfield 19, 3) := by decide +kernel
theorem dX7_makeEvent_28 : decode cX7_makeEvent 28 = .ok (.iload 7, 2) := by decide +kernel
theorem dX7_makeEvent_30 : decode cX7_makeEvent 30 = .ok (.aload_n 0, 1) := by decide +kernel
theorem dX7_makeEvent_31 : decode cX7_makeEvent 31 = .ok (.getfield 10, 3) := by decide +kernel
theorem dX7_makeEvent_34 : decode cX7_makeEvent 34 = .ok (.iload_n 1, 1) := by decide +kernel
theorem dX7_makeEvent_35 : decode cX7_makeEvent 35 = .ok (.invokevirtual 224, 3) := by decide +kernel
theorem dX7_makeEvent_38 : decode cX7_makeEvent 38 = .ok (.aload_n 0, 1) := by decide +kernel
theorem dX7_makeEvent_39 : decode cX7_makeEvent 39 = .ok (.getfield 10, 3) := by decide +kernel
theorem dX7_makeEvent_42 : decode cX7_makeEvent 42 = .ok (.iload_n 1, 1) := by decide +kernel
theorem dX7_makeEvent_43 : decode cX7_makeEvent 43 = .ok (.invokevirtual 227, 3) := by decide +kernel
theorem dX7_makeEvent_46 : decode cX7_makeEvent 46 = .ok (.invokevirtual 230, 3) := by decide +kernel
theorem dX7_makeEvent_49 : decode cX7_makeEvent 49 = .ok (.aload_n 0, 1) := by decide +kernel
theorem dX7_makeEvent_50 : decode cX7_makeEvent 50 = .ok (.getfield 10, 3) := by decide +kernel
theorem dX7_makeEvent_53 : decode cX7_makeEvent 53 = .ok (.iload_n 1, 1) := by decide +kernel
theorem dX7_makeEvent_54 : decode cX7_makeEvent 54 = .ok (.invokevirtual 233, 3) := by decide +kernel
theorem dX7_makeEvent_57 : decode cX7_makeEvent 57 = .ok (.iinc 8 1, 3) := by decide +kernel
theorem dX7_makeEvent_60 : decode cX7_makeEvent 60 = .ok (.goto (-43), 3) := by decide +kernel
theorem dX7_makeEvent_63 : decode cX7_makeEvent 63 = .ok (.aload_n 0, 1) := by decide +kernel
theorem dX7_makeEvent_64 : decode cX7_makeEvent 64 = .ok (.getfield 19, 3) := by decide +kernel
theorem dX7_makeEvent_67 : decode cX7_makeEvent 67 = .ok (.iload 7, 2) := by decide +kernel
theorem dX7_makeEvent_69 : decode cX7_makeEvent 69 = .ok (.invokevirtual 236, 3) := by decide +kernel
theorem dX7_makeEvent_72 : decode cX7_makeEvent 72 = .ok (.aload_n 0, 1) := by decide +kernel
theorem dX7_makeEvent_73 : decode cX7_makeEvent 73 = .ok (.getfield 28, 3) := by decide +kernel
theorem dX7_makeEvent_76 : decode cX7_makeEvent 76 = .ok (.iload 7, 2) := by decide +kernel
theorem dX7_makeEvent_78 : decode cX7_makeEvent 78 = .ok (.invokevirtual 239, 3) := by decide +kernel
theorem dX7_makeEvent_81 : decode cX7_makeEvent 81 = .ok (.aload_n 0, 1) := by decide +kernel
theorem dX7_makeEvent_82 : decode cX7_makeEvent 82 = .ok (.getfield 37, 3) := by decide +kernel
theorem dX7_makeEvent_85 : decode cX7_makeEvent 85 = .ok (.iload 7, 2) := by decide +kernel
theorem dX7_makeEvent_87 : decode cX7_makeEvent 87 = .ok (.invokevirtual 242, 3) := by decide +kernel
theorem dX7_makeEvent_90 : decode cX7_makeEvent 90 = .ok (.iload 7, 2) := by decide +kernel
theorem dX7_makeEvent_92 : decode cX7_makeEvent 92 = .ok (.ireturn, 1) := by decide +kernel
theorem dX7_give_0 : decode cX7_give 0 = .ok (.aload_n 0, 1) := by decide +kernel
theorem dX7_give_1 : decode cX7_give 1 = .ok (.getfield 19, 3) := by decide +kernel
theorem dX7_give_4 : decode cX7_give 4 = .ok (.getfield 82, 3) := by decide +kernel
theorem dX7_give_7 : decode cX7_give 7 = .ok (.iload_n 2, 1) := by decide +kernel
theorem dX7_give_8 : decode cX7_give 8 = .ok (.iload_n 1, 1) := by decide +kernel
theorem dX7_give_9 : decode cX7_give 9 = .ok (.invokevirtual 243, 3) := by decide +kernel
theorem dX7_give_12 : decode cX7_give 12 = .ok (.aload_n 0, 1) := by decide +kernel
theorem dX7_give_13 : decode cX7_give 13 = .ok (.getfield 43, 3) := by decide +kernel
theorem dX7_give_16 : decode cX7_give 16 = .ok (.iload_n 2, 1) := by decide +kernel
theorem dX7_give_17 : decode cX7_give 17 = .ok (.aaload, 1) := by decide +kernel
theorem dX7_give_18 : decode cX7_give 18 = .ok (.iconst 1, 1) := by decide +kernel
theorem dX7_give_19 : decode cX7_give 19 = .ok (.putfield 246, 3) := by decide +kernel
theorem dX7_give_22 : decode cX7_give 22 = .ok (.return_, 1) := by decide +kernel
theorem dX7_freshView_0 : decode cX7_freshView 0 = .ok (.aload_n 0, 1) := by decide +kernel
theorem dX7_freshView_1 : decode cX7_freshView 1 = .ok (.getfield 43, 3) := by decide +kernel
theorem dX7_freshView_4 : decode cX7_freshView 4 = .ok (.iload_n 1, 1) := by decide +kernel
theorem dX7_freshView_5 : decode cX7_freshView 5 = .ok (.aaload, 1) := by decide +kernel
theorem dX7_freshView_6 : decode cX7_freshView 6 = .ok (.astore_n 2, 1) := by decide +kernel
theorem dX7_freshView_7 : decode cX7_freshView 7 = .ok (.aload_n 2, 1) := by decide +kernel
theorem dX7_freshView_8 : decode cX7_freshView 8 = .ok (.getfield 246, 3) := by decide +kernel
theorem dX7_freshView_11 : decode cX7_freshView 11 = .ok (.ifCond .eq 11, 3) := by decide +kernel
theorem dX7_freshView_14 : decode cX7_freshView 14 = .ok (.aload_n 2, 1) := by decide +kernel
theorem dX7_freshView_15 : decode cX7_freshView 15 = .ok (.aload_n 0, 1) := by decide +kernel
theorem dX7_freshView_16 : decode cX7_freshView 16 = .ok (.getfield 195, 3) := by decide +kernel
theorem dX7_freshView_19 : decode cX7_freshView 19 = .ok (.invokevirtual 250, 3) := by decide +kernel
theorem dX7_freshView_22 : decode cX7_freshView 22 = .ok (.aload_n 2, 1) := by decide +kernel
theorem dX7_freshView_23 : decode cX7_freshView 23 = .ok (.areturn, 1) := by decide +kernel
theorem dX7_isNode_0 : decode cX7_isNode 0 = .ok (.iload_n 1, 1) := by decide +kernel
theorem dX7_isNode_1 : decode cX7_isNode 1 = .ok (.ifCond .lt 15, 3) := by decide +kernel
theorem dX7_isNode_4 : decode cX7_isNode 4 = .ok (.iload_n 1, 1) := by decide +kernel
theorem dX7_isNode_5 : decode cX7_isNode 5 = .ok (.aload_n 0, 1) := by decide +kernel
theorem dX7_isNode_6 : decode cX7_isNode 6 = .ok (.getfield 195, 3) := by decide +kernel
theorem dX7_isNode_9 : decode cX7_isNode 9 = .ok (.if_icmp .ge 7, 3) := by decide +kernel
theorem dX7_isNode_12 : decode cX7_isNode 12 = .ok (.iconst 1, 1) := by decide +kernel
theorem dX7_isNode_13 : decode cX7_isNode 13 = .ok (.goto 4, 3) := by decide +kernel
theorem dX7_isNode_16 : decode cX7_isNode 16 = .ok (.iconst 0, 1) := by decide +kernel
theorem dX7_isNode_17 : decode cX7_isNode 17 = .ok (.ireturn, 1) := by decide +kernel
theorem dX7_isEvent_0 : decode cX7_isEvent 0 = .ok (.iload_n 1, 1) := by decide +kernel
theorem dX7_isEvent_1 : decode cX7_isEvent 1 = .ok (.ifCond .lt 18, 3) := by decide +kernel
theorem dX7_isEvent_4 : decode cX7_isEvent 4 = .ok (.iload_n 1, 1) := by decide +kernel
theorem dX7_isEvent_5 : decode cX7_isEvent 5 = .ok (.aload_n 0, 1) := by decide +kernel
theorem dX7_isEvent_6 : decode cX7_isEvent 6 = .ok (.getfield 19, 3) := by decide +kernel
theorem dX7_isEvent_9 : decode cX7_isEvent 9 = .ok (.getfield 198, 3) := by decide +kernel
theorem dX7_isEvent_12 : decode cX7_isEvent 12 = .ok (.if_icmp .ge 7, 3) := by decide +kernel
theorem dX7_isEvent_15 : decode cX7_isEvent 15 = .ok (.iconst 1, 1) := by decide +kernel
theorem dX7_isEvent_16 : decode cX7_isEvent 16 = .ok (.goto 4, 3) := by decide +kernel
theorem dX7_isEvent_19 : decode cX7_isEvent 19 = .ok (.iconst 0, 1) := by decide +kernel
theorem dX7_isEvent_20 : decode cX7_isEvent 20 = .ok (.ireturn, 1) := by decide +kernel
theorem dX7_isHeld_0 : decode cX7_isHeld 0 = .ok (.aload_n 0, 1) := by decide +kernel
theorem dX7_isHeld_1 : decode cX7_isHeld 1 = .ok (.iload_n 2, 1) := by decide +kernel
theorem dX7_isHeld_2 : decode cX7_isHeld 2 = .ok (.invokevirtual 119, 3) := by decide +kernel
theorem dX7_isHeld_5 : decode cX7_isHeld 5 = .ok (.ifCond .eq 22, 3) := by decide +kernel
theorem dX7_isHeld_8 : decode cX7_isHeld 8 = .ok (.aload_n 0, 1) := by decide +kernel
theorem dX7_isHeld_9 : decode cX7_isHeld 9 = .ok (.getfield 19, 3) := by decide +kernel
theorem dX7_isHeld_12 : decode cX7_isHeld 12 = .ok (.getfield 82, 3) := by decide +kernel
theorem dX7_isHeld_15 : decode cX7_isHeld 15 = .ok (.iload_n 1, 1) := by decide +kernel
theorem dX7_isHeld_16 : decode cX7_isHeld 16 = .ok (.iload_n 2, 1) := by decide +kernel
theorem dX7_isHeld_17 : decode cX7_isHeld 17 = .ok (.invokevirtual 154, 3) := by decide +kernel
theorem dX7_isHeld_20 : decode cX7_isHeld 20 = .ok (.ifCond .eq 7, 3) := by decide +kernel
theorem dX7_isHeld_23 : decode cX7_isHeld 23 = .ok (.iconst 1, 1) := by decide +kernel
theorem dX7_isHeld_24 : decode cX7_isHeld 24 = .ok (.goto 4, 3) := by decide +kernel
theorem dX7_isHeld_27 : decode cX7_isHeld 27 = .ok (.iconst 0, 1) := by decide +kernel
theorem dX7_isHeld_28 : decode cX7_isHeld 28 = .ok (.ireturn, 1) := by decide +kernel
theorem dX7_isMost_0 : decode cX7_isMost 0 = .ok (.iconst 3, 1) := by decide +kernel
theorem dX7_isMost_1 : decode cX7_isMost 1 = .ok (.iload_n 0, 1) := by decide +kernel
theorem dX7_isMost_2 : decode cX7_isMost 2 = .ok (.imul, 1) := by decide +kernel
theorem dX7_isMost_3 : decode cX7_isMost 3 = .ok (.iconst 2, 1) := by decide +kernel
theorem dX7_isMost_4 : decode cX7_isMost 4 = .ok (.iload_n 1, 1) := by decide +kernel
theorem dX7_isMost_5 : decode cX7_isMost 5 = .ok (.imul, 1) := by decide +kernel
theorem dX7_isMost_6 : decode cX7_isMost 6 = .ok (.if_icmp .le 7, 3) := by decide +kernel
theorem dX7_isMost_9 : decode cX7_isMost 9 = .ok (.iconst 1, 1) := by decide +kernel
theorem dX7_isMost_10 : decode cX7_isMost 10 = .ok (.goto 4, 3) := by decide +kernel
theorem dX7_isMost_13 : decode cX7_isMost 13 = .ok (.iconst 0, 1) := by decide +kernel
theorem dX7_isMost_14 : decode cX7_isMost 14 = .ok (.ireturn, 1) := by decide +kernel
end
section
theorem dX8_init_0 : decode cX8_init 0 = .ok (.aload_n 0, 1) := by decide +kernel
theorem dX8_init_1 : decode cX8_init 1 = .ok (.invokespecial 1, 3) := by decide +kernel
theorem dX8_init_4 : decode cX8_init 4 = .ok (.aload_n 0, 1) := by decide +kernel
theorem dX8_init_5 : decode cX8_init 5 = .ok (.sipush 240, 3) := by decide +kernel
theorem dX8_init_8 : decode cX8_init 8 = .ok (.newarray .int, 2) := by decide +kernel
theorem dX8_init_10 : decode cX8_init 10 = .ok (.putfield 9, 3) := by decide +kernel
theorem dX8_init_13 : decode cX8_init 13 = .ok (.aload_n 0, 1) := by decide +kernel
theorem dX8_init_14 : decode cX8_init 14 = .ok (.sipush 240, 3) := by decide +kernel
theorem dX8_init_17 : decode cX8_init 17 = .ok (.newarray .int, 2) := by decide +kernel
theorem dX8_init_19 : decode cX8_init 19 = .ok (.putfield 13, 3) := by decide +kernel
theorem dX8_init_22 : decode cX8_init 22 = .ok (.aload_n 0, 1) := by decide +kernel
theorem dX8_init_23 : decode cX8_init 23 = .ok (.sipush 240, 3) := by decide +kernel
theorem dX8_init_26 : decode cX8_init 26 = .ok (.newarray .int, 2) := by decide +kernel
theorem dX8_init_28 : decode cX8_init 28 = .ok (.putfield 16, 3) := by decide +kernel
theorem dX8_init_31 : decode cX8_init 31 = .ok (.aload_n 0, 1) := by decide +kernel
theorem dX8_init_32 : decode cX8_init 32 = .ok (.sipush 240, 3) := by decide +kernel
theorem dX8_init_35 : decode cX8_init 35 = .ok (.newarray .int, 2) := by decide +kernel
theorem dX8_init_37 : decode cX8_init 37 = .ok (.putfield 19, 3) := by decide +kernel
theorem dX8_init_40 : decode cX8_init 40 = .ok (.aload_n 0, 1) := by decide +kernel
theorem dX8_init_41 : decode cX8_init 41 = .ok (.sipush 720, 3) := by decide +kernel
theorem dX8_init_44 : decode cX8_init 44 = .ok (.newarray .int, 2) := by decide +kernel
theorem dX8_init_46 : decode cX8_init 46 = .ok (.putfield 22, 3) := by decide +kernel
theorem dX8_init_49 : decode cX8_init 49 = .ok (.aload_n 0, 1) := by decide +kernel
theorem dX8_init_50 : decode cX8_init 50 = .ok (.sipush 720, 3) := by decide +kernel
theorem dX8_init_53 : decode cX8_init 53 = .ok (.newarray .int, 2) := by decide +kernel
theorem dX8_init_55 : decode cX8_init 55 = .ok (.putfield 25, 3) := by decide +kernel
theorem dX8_init_58 : decode cX8_init 58 = .ok (.aload_n 0, 1) := by decide +kernel
theorem dX8_init_59 : decode cX8_init 59 = .ok (.sipush 240, 3) := by decide +kernel
theorem dX8_init_62 : decode cX8_init 62 = .ok (.newarray .int, 2) := by decide +kernel
theorem dX8_init_64 : decode cX8_init 64 = .ok (.putfield 28, 3) := by decide +kernel
theorem dX8_init_67 : decode cX8_init 67 = .ok (.aload_n 0, 1) := by decide +kernel
theorem dX8_init_68 : decode cX8_init 68 = .ok (.sipush 1920, 3) := by decide +kernel
theorem dX8_init_71 : decode cX8_init 71 = .ok (.newarray .int, 2) := by decide +kernel
theorem dX8_init_73 : decode cX8_init 73 = .ok (.putfield 31, 3) := by decide +kernel
theorem dX8_init_76 : decode cX8_init 76 = .ok (.aload_n 0, 1) := by decide +kernel
theorem dX8_init_77 : decode cX8_init 77 = .ok (.bipush 8, 2) := by decide +kernel
theorem dX8_init_79 : decode cX8_init 79 = .ok (.newarray .int, 2) := by decide +kernel
theorem dX8_init_81 : decode cX8_init 81 = .ok (.putfield 34, 3) := by decide +kernel
theorem dX8_init_84 : decode cX8_init 84 = .ok (.aload_n 0, 1) := by decide +kernel
theorem dX8_init_85 : decode cX8_init 85 = .ok (.bipush 8, 2) := by decide +kernel
theorem dX8_init_87 : decode cX8_init 87 = .ok (.newarray .int, 2) := by decide +kernel
theorem dX8_init_89 : decode cX8_init 89 = .ok (.putfield 37, 3) := by decide +kernel
theorem dX8_init_92 : decode cX8_init 92 = .ok (.aload_n 0, 1) := by decide +kernel
theorem dX8_init_93 : decode cX8_init 93 = .ok (.bipush 64, 2) := by decide +kernel
theorem dX8_init_95 : decode cX8_init 95 = .ok (.newarray .int, 2) := by decide +kernel
theorem dX8_init_97 : decode cX8_init 97 = .ok (.putfield 40, 3) := by decide +kernel
theorem dX8_init_100 : decode cX8_init 100 = .ok (.aload_n 0, 1) := by decide +kernel
theorem dX8_init_101 : decode cX8_init 101 = .ok (.bipush 64, 2) := by decide +kernel
theorem dX8_init_103 : decode cX8_init 103 = .ok (.newarray .int, 2) := by decide +kernel
theorem dX8_init_105 : decode cX8_init 105 = .ok (.putfield 43, 3) := by decide +kernel
theorem dX8_init_108 : decode cX8_init 108 = .ok (.aload_n 0, 1) := by decide +kernel
theorem dX8_init_109 : decode cX8_init 109 = .ok (.sipush 240, 3) := by decide +kernel
theorem dX8_init_112 : decode cX8_init 112 = .ok (.newarray .long, 2) := by decide +kernel
theorem dX8_init_114 : decode cX8_init 114 = .ok (.putfield 46, 3) := by decide +kernel
theorem dX8_init_117 : decode cX8_init 117 = .ok (.aload_n 0, 1) := by decide +kernel
theorem dX8_init_118 : decode cX8_init 118 = .ok (.ldc 50, 2) := by decide +kernel
theorem dX8_init_120 : decode cX8_init 120 = .ok (.newarray .boolean, 2) := by decide +kernel
theorem dX8_init_122 : decode cX8_init 122 = .ok (.putfield 51, 3) := by decide +kernel
theorem dX8_init_125 : decode cX8_init 125 = .ok (.aload_n 0, 1) := by decide +kernel
theorem dX8_init_126 : decode cX8_init 126 = .ok (.sipush 1920, 3) := by decide +kernel
theorem dX8_init_129 : decode cX8_init 129 = .ok (.newarray .boolean, 2) := by decide +kernel
theorem dX8_init_131 : decode cX8_init 131 = .ok (.putfield 55, 3) := by decide +kernel
theorem dX8_init_134 : decode cX8_init 134 = .ok (.aload_n 0, 1) := by decide +kernel
theorem dX8_init_135 : decode cX8_init 135 = .ok (.sipush 1920, 3) := by decide +kernel
theorem dX8_init_138 : decode cX8_init 138 = .ok (.newarray .boolean, 2) := by decide +kernel
theorem dX8_init_140 : decode cX8_init 140 = .ok (.putfield 58, 3) := by decide +kernel
theorem dX8_init_143 : decode cX8_init 143 = .ok (.aload_n 0, 1) := by decide +kernel
theorem dX8_init_144 : decode cX8_init 144 = .ok (.sipush 240, 3) := by decide +kernel
theorem dX8_init_147 : decode cX8_init 147 = .ok (.newarray .boolean, 2) := by decide +kernel
theorem dX8_init_149 : decode cX8_init 149 = .ok (.putfield 61, 3) := by decide +kernel
theorem dX8_init_152 : decode cX8_init 152 = .ok (.aload_n 0, 1) := by decide +kernel
theorem dX8_init_153 : decode cX8_init 153 = .ok (.ldc 50, 2) := by decide +kernel
theorem dX8_init_155 : decode cX8_init 155 = .ok (.newarray .byte, 2) := by decide +kernel
theorem dX8_init_157 : decode cX8_init 157 = .ok (.putfield 64, 3) := by decide +kernel
theorem dX8_init_160 : decode cX8_init 160 = .ok (.aload_n 0, 1) := by decide +kernel
theorem dX8_init_161 : decode cX8_init 161 = .ok (.ldc 50, 2) := by decide +kernel
theorem dX8_init_163 : decode cX8_init 163 = .ok (.newarray .byte, 2) := by decide +kernel
theorem dX8_init_165 : decode cX8_init 165 = .ok (.putfield 68, 3) := by decide +kernel
theorem dX8_init_168 : decode cX8_init 168 = .ok (.aload_n 0, 1) := by decide +kernel
theorem dX8_init_169 : decode cX8_init 169 = .ok (.iconst (-1), 1) := by decide +kernel
theorem dX8_init_170 : decode cX8_init 170 = .ok (.putfield 71, 3) := by decide +kernel
theorem dX8_init_173 : decode cX8_init 173 = .ok (.aload_n 0, 1) := by decide +kernel
theorem dX8_init_174 : decode cX8_init 174 = .ok (.sipush 240, 3) := by decide +kernel
theorem dX8_init_177 : decode cX8_init 177 = .ok (.newarray .int, 2) := by decide +kernel
theorem dX8_init_179 : decode cX8_init 179 = .ok (.putfield 75, 3) := by decide +kernel
theorem dX8_init_182 : decode cX8_init 182 = .ok (.aload_n 0, 1) := by decide +kernel
theorem dX8_init_183 : decode cX8_init 183 = .ok (.sipush 240, 3) := by decide +kernel
theorem dX8_init_186 : decode cX8_init 186 = .ok (.newarray .int, 2) := by decide +kernel
theorem dX8_init_188 : decode cX8_init 188 = .ok (.putfield 78, 3) := by decide +kernel
theorem dX8_init_191 : decode cX8_init 191 = .ok (.aload_n 0, 1) := by decide +kernel
theorem dX8_init_192 : decode cX8_init 192 = .ok (.sipush 240, 3) := by decide +kernel
theorem dX8_init_195 : decode cX8_init 195 = .ok (.newarray .int, 2) := by decide +kernel
theorem dX8_init_197 : decode cX8_init 197 = .ok (.putfield 81, 3) := by decide +kernel
theorem dX8_init_200 : decode cX8_init 200 = .ok (.aload_n 0, 1) := by decide +kernel
theorem dX8_init_201 : decode cX8_init 201 = .ok (.sipush 240, 3) := by decide +kernel
theorem dX8_init_204 : decode cX8_init 204 = .ok (.newarray .int, 2) := by decide +kernel
theorem dX8_init_206 : decode cX8_init 206 = .ok (.putfield 84, 3) := by decide +kernel
theorem dX8_init_209 : decode cX8_init 209 = .ok (.aload_n 0, 1) := by decide +kernel
theorem dX8_init_210 : decode cX8_init 210 = .ok (.bipush 8, 2) := by decide +kernel
theorem dX8_init_212 : decode cX8_init 212 = .ok (.newarray .int, 2) := by decide +kernel
theorem dX8_init_214 : decode cX8_init 214 = .ok (.putfield 87, 3) := by decide +kernel
theorem dX8_init_217 : decode cX8_init 217 = .ok (.aload_n 0, 1) := by decide +kernel
theorem dX8_init_218 : decode cX8_init 218 = .ok (.bipush 8, 2) := by decide +kernel
theorem dX8_init_220 : decode cX8_init 220 = .ok (.newarray .int, 2) := by decide +kernel
theorem dX8_init_222 : decode cX8_init 222 = .ok (.putfield 90, 3) := by decide +kernel
theorem dX8_init_225 : decode cX8_init 225 = .ok (.aload_n 0, 1) := by decide +kernel
theorem dX8_init_226 : decode cX8_init 226 = .ok (.sipush 240, 3) := by decide +kernel
theorem dX8_init_229 : decode cX8_init 229 = .ok (.newarray .long, 2) := by decide +kernel
theorem dX8_init_231 : decode cX8_init 231 = .ok (.putfield 93, 3) := by decide +kernel
theorem dX8_init_234 : decode cX8_init 234 = .ok (.aload_n 0, 1) := by decide +kernel
theorem dX8_init_235 : decode cX8_init 235 = .ok (.sipush 240, 3) := by decide +kernel
theorem dX8_init_238 : decode cX8_init 238 = .ok (.newarray .long, 2) := by decide +kernel
theorem dX8_init_240 : decode cX8_init 240 = .ok (.putfield 96, 3) := by decide +kernel
theorem dX8_init_243 : decode cX8_init 243 = .ok (.aload_n 0, 1) := by decide +kernel
theorem dX8_init_244 : decode cX8_init 244 = .ok (.sipush 128, 3) := by decide +kernel
theorem dX8_init_247 : decode cX8_init 247 = .ok (.newarray .int, 2) := by decide +kernel
theorem dX8_init_249 : decode cX8_init 249 = .ok (.putfield 99, 3) := by decide +kernel
theorem dX8_init_252 : decode cX8_init 252 = .ok (.aload_n 0, 1) := by decide +kernel
theorem dX8_init_253 : decode cX8_init 253 = .ok (.bipush 64, 2) := by decide +kernel
theorem dX8_init_255 : decode cX8_init 255 = .ok (.newarray .int, 2) := by decide +kernel
theorem dX8_init_257 : decode cX8_init 257 = .ok (.putfield 102, 3) := by decide +kernel
theorem dX8_init_260 : decode cX8_init 260 = .ok (.aload_n 0, 1) := by decide +kernel
theorem dX8_init_261 : decode cX8_init 261 = .ok (.bipush 64, 2) := by decide +kernel
theorem dX8_init_263 : decode cX8_init 263 = .ok (.newarray .int, 2) := by decide +kernel
theorem dX8_init_265 : decode cX8_init 265 = .ok (.dup, 1) := by decide +kernel
theorem dX8_init_266 : decode cX8_init 266 = .ok (.iconst 0, 1) := by decide +kernel
theorem dX8_init_267 : decode cX8_init 267 = .ok (.ldc 105, 2) := by decide +kernel
theorem dX8_init_269 : decode cX8_init 269 = .ok (.iastore, 1) := by decide +kernel
theorem dX8_init_270 : decode cX8_init 270 = .ok (.dup, 1) := by decide +kernel
theorem dX8_init_271 : decode cX8_init 271 = .ok (.iconst 1, 1) := by decide +kernel
theorem dX8_init_272 : decode cX8_init 272 = .ok (.ldc 106, 2) := by decide +kernel
theorem dX8_init_274 : decode cX8_init 274 = .ok (.iastore, 1) := by decide +kernel
theorem dX8_init_275 : decode cX8_init 275 = .ok (.dup, 1) := by decide +kernel
theorem dX8_init_276 : decode cX8_init 276 = .ok (.iconst 2, 1) := by decide +kernel
theorem dX8_init_277 : decode cX8_init 277 = .ok (.ldc 107, 2) := by decide +kernel
theorem dX8_init_279 : decode cX8_init 279 = .ok (.iastore, 1) := by decide +kernel
theorem dX8_init_280 : decode cX8_init 280 = .ok (.dup, 1) := by decide +kernel
theorem dX8_init_281 : decode cX8_init 281 = .ok (.iconst 3, 1) := by decide +kernel
theorem dX8_init_282 : decode cX8_init 282 = .ok (.ldc 108, 2) := by decide +kernel
theorem dX8_init_284 : decode cX8_init 284 = .ok (.iastore, 1) := by decide +kernel
theorem dX8_init_285 : decode cX8_init 285 = .ok (.dup, 1) := by decide +kernel
theorem dX8_init_286 : decode cX8_init 286 = .ok (.iconst 4, 1) := by decide +kernel
theorem dX8_init_287 : decode cX8_init 287 = .ok (.ldc 109, 2) := by decide +kernel
theorem dX8_init_289 : decode cX8_init 289 = .ok (.iastore, 1) := by decide +kernel
theorem dX8_init_290 : decode cX8_init 290 = .ok (.dup, 1) := by decide +kernel
theorem dX8_init_291 : decode cX8_init 291 = .ok (.iconst 5, 1) := by decide +kernel
theorem dX8_init_292 : decode cX8_init 292 = .ok (.ldc 110, 2) := by decide +kernel
theorem dX8_init_294 : decode cX8_init 294 = .ok (.iastore, 1) := by decide +kernel
theorem dX8_init_295 : decode cX8_init 295 = .ok (.dup, 1) := by decide +kernel
theorem dX8_init_296 : decode cX8_init 296 = .ok (.bipush 6, 2) := by decide +kernel
theorem dX8_init_298 : decode cX8_init 298 = .ok (.ldc 111, 2) := by decide +kernel
theorem dX8_init_300 : decode cX8_init 300 = .ok (.iastore, 1) := by decide +kernel
theorem dX8_init_301 : decode cX8_init 301 = .ok (.dup, 1) := by decide +kernel
theorem dX8_init_302 : decode cX8_init 302 = .ok (.bipush 7, 2) := by decide +kernel
theorem dX8_init_304 : decode cX8_init 304 = .ok (.ldc 112, 2) := by decide +kernel
theorem dX8_init_306 : decode cX8_init 306 = .ok (.iastore, 1) := by decide +kernel
theorem dX8_init_307 : decode cX8_init 307 = .ok (.dup, 1) := by decide +kernel
theorem dX8_init_308 : decode cX8_init 308 = .ok (.bipush 8, 2) := by decide +kernel
theorem dX8_init_310 : decode cX8_init 310 = .ok (.ldc 113, 2) := by decide +kernel
theorem dX8_init_312 : decode cX8_init 312 = .ok (.iastore, 1) := by decide +kernel
theorem dX8_init_313 : decode cX8_init 313 = .ok (.dup, 1) := by decide +kernel
theorem dX8_init_314 : decode cX8_init 314 = .ok (.bipush 9, 2) := by decide +kernel
theorem dX8_init_316 : decode cX8_init 316 = .ok (.ldc 114, 2) := by decide +kernel
theorem dX8_init_318 : decode cX8_init 318 = .ok (.iastore, 1) := by decide +kernel
theorem dX8_init_319 : decode cX8_init 319 = .ok (.dup, 1) := by decide +kernel
theorem dX8_init_320 : decode cX8_init 320 = .ok (.bipush 10, 2) := by decide +kernel
theorem dX8_init_322 : decode cX8_init 322 = .ok (.ldc 115, 2) := by decide +kernel
theorem dX8_init_324 : decode cX8_init 324 = .ok (.iastore, 1) := by decide +kernel
theorem dX8_init_325 : decode cX8_init 325 = .ok (.dup, 1) := by decide +kernel
theorem dX8_init_326 : decode cX8_init 326 = .ok (.bipush 11, 2) := by decide +kernel
theorem dX8_init_328 : decode cX8_init 328 = .ok (.ldc 116, 2) := by decide +kernel
theorem dX8_init_330 : decode cX8_init 330 = .ok (.iastore, 1) := by decide +kernel
theorem dX8_init_331 : decode cX8_init 331 = .ok (.dup, 1) := by decide +kernel
theorem dX8_init_332 : decode cX8_init 332 = .ok (.bipush 12, 2) := by decide +kernel
theorem dX8_init_334 : decode cX8_init 334 = .ok (.ldc 117, 2) := by decide +kernel
theorem dX8_init_336 : decode cX8_init 336 = .ok (.iastore, 1) := by decide +kernel
theorem dX8_init_337 : decode cX8_init 337 = .ok (.dup, 1) := by decide +kernel
theorem dX8_init_338 : decode cX8_init 338 = .ok (.bipush 13, 2) := by decide +kernel
theorem dX8_init_340 : decode cX8_init 340 = .ok (.ldc 118, 2) := by decide +kernel
theorem dX8_init_342 : decode cX8_init 342 = .ok (.iastore, 1) := by decide +kernel
theorem dX8_init_343 : decode cX8_init 343 = .ok (.dup, 1) := by decide +kernel
theorem dX8_init_344 : decode cX8_init 344 = .ok (.bipush 14, 2) := by decide +kernel
theorem dX8_init_346 : decode cX8_init 346 = .ok (.ldc 119, 2) := by decide +kernel
theorem dX8_init_348 : decode cX8_init 348 = .ok (.iastore, 1) := by decide +kernel
theorem dX8_init_349 : decode cX8_init 349 = .ok (.dup, 1) := by decide +kernel
theorem dX8_init_350 : decode cX8_init 350 = .ok (.bipush 15, 2) := by decide +kernel
theorem dX8_init_352 : decode cX8_init 352 = .ok (.ldc 120, 2) := by decide +kernel
theorem dX8_init_354 : decode cX8_init 354 = .ok (.iastore, 1) := by decide +kernel
theorem dX8_init_355 : decode cX8_init 355 = .ok (.dup, 1) := by decide +kernel
theorem dX8_init_356 : decode cX8_init 356 = .ok (.bipush 16, 2) := by decide +kernel
theorem dX8_init_358 : decode cX8_init 358 = .ok (.ldc 121, 2) := by decide +kernel
theorem dX8_init_360 : decode cX8_init 360 = .ok (.iastore, 1) := by decide +kernel
theorem dX8_init_361 : decode cX8_init 361 = .ok (.dup, 1) := by decide +kernel
theorem dX8_init_362 : decode cX8_init 362 = .ok (.bipush 17, 2) := by decide +kernel
theorem dX8_init_364 : decode cX8_init 364 = .ok (.ldc 122, 2) := by decide +kernel
theorem dX8_init_366 : decode cX8_init 366 = .ok (.iastore, 1) := by decide +kernel
theorem dX8_init_367 : decode cX8_init 367 = .ok (.dup, 1) := by decide +kernel
theorem dX8_init_368 : decode cX8_init 368 = .ok (.bipush 18, 2) := by decide +kernel
theorem dX8_init_370 : decode cX8_init 370 = .ok (.ldc 123, 2) := by decide +kernel
theorem dX8_init_372 : decode cX8_init 372 = .ok (.iastore, 1) := by decide +kernel
theorem dX8_init_373 : decode cX8_init 373 = .ok (.dup, 1) := by decide +kernel
theorem dX8_init_374 : decode cX8_init 374 = .ok (.bipush 19, 2) := by decide +kernel
theorem dX8_init_376 : decode cX8_init 376 = .ok (.ldc 124, 2) := by decide +kernel
theorem dX8_init_378 : decode cX8_init 378 = .ok (.iastore, 1) := by decide +kernel
theorem dX8_init_379 : decode cX8_init 379 = .ok (.dup, 1) := by decide +kernel
theorem dX8_init_380 : decode cX8_init 380 = .ok (.bipush 20, 2) := by decide +kernel
theorem dX8_init_382 : decode cX8_init 382 = .ok (.ldc 125, 2) := by decide +kernel
theorem dX8_init_384 : decode cX8_init 384 = .ok (.iastore, 1) := by decide +kernel
theorem dX8_init_385 : decode cX8_init 385 = .ok (.dup, 1) := by decide +kernel
theorem dX8_init_386 : decode cX8_init 386 = .ok (.bipush 21, 2) := by decide +kernel
theorem dX8_init_388 : decode cX8_init 388 = .ok (.ldc 126, 2) := by decide +kernel
theorem dX8_init_390 : decode cX8_init 390 = .ok (.iastore, 1) := by decide +kernel
theorem dX8_init_391 : decode cX8_init 391 = .ok (.dup, 1) := by decide +kernel
theorem dX8_init_392 : decode cX8_init 392 = .ok (.bipush 22, 2) := by decide +kernel
theorem dX8_init_394 : decode cX8_init 394 = .ok (.ldc 127, 2) := by decide +kernel
theorem dX8_init_396 : decode cX8_init 396 = .ok (.iastore, 1) := by decide +kernel
theorem dX8_init_397 : decode cX8_init 397 = .ok (.dup, 1) := by decide +kernel
theorem dX8_init_398 : decode cX8_init 398 = .ok (.bipush 23, 2) := by decide +kernel
theorem dX8_init_400 : decode cX8_init 400 = .ok (.ldc 128, 2) := by decide +kernel
theorem dX8_init_402 : decode cX8_init 402 = .ok (.iastore, 1) := by decide +kernel
theorem dX8_init_403 : decode cX8_init 403 = .ok (.dup, 1) := by decide +kernel
theorem dX8_init_404 : decode cX8_init 404 = .ok (.bipush 24, 2) := by decide +kernel
theorem dX8_init_406 : decode cX8_init 406 = .ok (.ldc 129, 2) := by decide +kernel
theorem dX8_init_408 : decode cX8_init 408 = .ok (.iastore, 1) := by decide +kernel
theorem dX8_init_409 : decode cX8_init 409 = .ok (.dup, 1) := by decide +kernel
theorem dX8_init_410 : decode cX8_init 410 = .ok (.bipush 25, 2) := by decide +kernel
theorem dX8_init_412 : decode cX8_init 412 = .ok (.ldc 130, 2) := by decide +kernel
theorem dX8_init_414 : decode cX8_init 414 = .ok (.iastore, 1) := by decide +kernel
theorem dX8_init_415 : decode cX8_init 415 = .ok (.dup, 1) := by decide +kernel
theorem dX8_init_416 : decode cX8_init 416 = .ok (.bipush 26, 2) := by decide +kernel
theorem dX8_init_418 : decode cX8_init 418 = .ok (.ldc 131, 2) := by decide +kernel
theorem dX8_init_420 : decode cX8_init 420 = .ok (.iastore, 1) := by decide +kernel
theorem dX8_init_421 : decode cX8_init 421 = .ok (.dup, 1) := by decide +kernel
theorem dX8_init_422 : decode cX8_init 422 = .ok (.bipush 27, 2) := by decide +kernel
theorem dX8_init_424 : decode cX8_init 424 = .ok (.ldc 132, 2) := by decide +kernel
theorem dX8_init_426 : decode cX8_init 426 = .ok (.iastore, 1) := by decide +kernel
theorem dX8_init_427 : decode cX8_init 427 = .ok (.dup, 1) := by decide +kernel
theorem dX8_init_428 : decode cX8_init 428 = .ok (.bipush 28, 2) := by decide +kernel
theorem dX8_init_430 : decode cX8_init 430 = .ok (.ldc 133, 2) := by decide +kernel
theorem dX8_init_432 : decode cX8_init 432 = .ok (.iastore, 1) := by decide +kernel
theorem dX8_init_433 : decode cX8_init 433 = .ok (.dup, 1) := by decide +kernel
theorem dX8_init_434 : decode cX8_init 434 = .ok (.bipush 29, 2) := by decide +kernel
theorem dX8_init_436 : decode cX8_init 436 = .ok (.ldc 134, 2) := by decide +kernel
theorem dX8_init_438 : decode cX8_init 438 = .ok (.iastore, 1) := by decide +kernel
theorem dX8_init_439 : decode cX8_init 439 = .ok (.dup, 1) := by decide +kernel
theorem dX8_init_440 : decode cX8_init 440 = .ok (.bipush 30, 2) := by decide +kernel
theorem dX8_init_442 : decode cX8_init 442 = .ok (.ldc 135, 2) := by decide +kernel
theorem dX8_init_444 : decode cX8_init 444 = .ok (.iastore, 1) := by decide +kernel
theorem dX8_init_445 : decode cX8_init 445 = .ok (.dup, 1) := by decide +kernel
theorem dX8_init_446 : decode cX8_init 446 = .ok (.bipush 31, 2) := by decide +kernel
theorem dX8_init_448 : decode cX8_init 448 = .ok (.ldc 136, 2) := by decide +kernel
theorem dX8_init_450 : decode cX8_init 450 = .ok (.iastore, 1) := by decide +kernel
theorem dX8_init_451 : decode cX8_init 451 = .ok (.dup, 1) := by decide +kernel
theorem dX8_init_452 : decode cX8_init 452 = .ok (.bipush 32, 2) := by decide +kernel
theorem dX8_init_454 : decode cX8_init 454 = .ok (.ldc 137, 2) := by decide +kernel
theorem dX8_init_456 : decode cX8_init 456 = .ok (.iastore, 1) := by decide +kernel
theorem dX8_init_457 : decode cX8_init 457 = .ok (.dup, 1) := by decide +kernel
theorem dX8_init_458 : decode cX8_init 458 = .ok (.bipush 33, 2) := by decide +kernel
theorem dX8_init_460 : decode cX8_init 460 = .ok (.ldc 138, 2) := by decide +kernel
theorem dX8_init_462 : decode cX8_init 462 = .ok (.iastore, 1) := by decide +kernel
theorem dX8_init_463 : decode cX8_init 463 = .ok (.dup, 1) := by decide +kernel
theorem dX8_init_464 : decode cX8_init 464 = .ok (.bipush 34, 2) := by decide +kernel
theorem dX8_init_466 : decode cX8_init 466 = .ok (.ldc 139, 2) := by decide +kernel
theorem dX8_init_468 : decode cX8_init 468 = .ok (.iastore, 1) := by decide +kernel
theorem dX8_init_469 : decode cX8_init 469 = .ok (.dup, 1) := by decide +kernel
theorem dX8_init_470 : decode cX8_init 470 = .ok (.bipush 35, 2) := by decide +kernel
theorem dX8_init_472 : decode cX8_init 472 = .ok (.ldc 140, 2) := by decide +kernel
theorem dX8_init_474 : decode cX8_init 474 = .ok (.iastore, 1) := by decide +kernel
theorem dX8_init_475 : decode cX8_init 475 = .ok (.dup, 1) := by decide +kernel
theorem dX8_init_476 : decode cX8_init 476 = .ok (.bipush 36, 2) := by decide +kernel
theorem dX8_init_478 : decode cX8_init 478 = .ok (.ldc 141, 2) := by decide +kernel
theorem dX8_init_480 : decode cX8_init 480 = .ok (.iastore, 1) := by decide +kernel
theorem dX8_init_481 : decode cX8_init 481 = .ok (.dup, 1) := by decide +kernel
theorem dX8_init_482 : decode cX8_init 482 = .ok (.bipush 37, 2) := by decide +kernel
theorem dX8_init_484 : decode cX8_init 484 = .ok (.ldc 142, 2) := by decide +kernel
theorem dX8_init_486 : decode cX8_init 486 = .ok (.iastore, 1) := by decide +kernel
theorem dX8_init_487 : decode cX8_init 487 = .ok (.dup, 1) := by decide +kernel
theorem dX8_init_488 : decode cX8_init 488 = .ok (.bipush 38, 2) := by decide +kernel
theorem dX8_init_490 : decode cX8_init 490 = .ok (.ldc 143, 2) := by decide +kernel
theorem dX8_init_492 : decode cX8_init 492 = .ok (.iastore, 1) := by decide +kernel
theorem dX8_init_493 : decode cX8_init 493 = .ok (.dup, 1) := by decide +kernel
theorem dX8_init_494 : decode cX8_init 494 = .ok (.bipush 39, 2) := by decide +kernel
theorem dX8_init_496 : decode cX8_init 496 = .ok (.ldc 144, 2) := by decide +kernel
theorem dX8_init_498 : decode cX8_init 498 = .ok (.iastore, 1) := by decide +kernel
theorem dX8_init_499 : decode cX8_init 499 = .ok (.dup, 1) := by decide +kernel
theorem dX8_init_500 : decode cX8_init 500 = .ok (.bipush 40, 2) := by decide +kernel
theorem dX8_init_502 : decode cX8_init 502 = .ok (.ldc 145, 2) := by decide +kernel
theorem dX8_init_504 : decode cX8_init 504 = .ok (.iastore, 1) := by decide +kernel
theorem dX8_init_505 : decode cX8_init 505 = .ok (.dup, 1) := by decide +kernel
theorem dX8_init_506 : decode cX8_init 506 = .ok (.bipush 41, 2) := by decide +kernel
theorem dX8_init_508 : decode cX8_init 508 = .ok (.ldc 146, 2) := by decide +kernel
theorem dX8_init_510 : decode cX8_init 510 = .ok (.iastore, 1) := by decide +kernel
theorem dX8_init_511 : decode cX8_init 511 = .ok (.dup, 1) := by decide +kernel
theorem dX8_init_512 : decode cX8_init 512 = .ok (.bipush 42, 2) := by decide +kernel
theorem dX8_init_514 : decode cX8_init 514 = .ok (.ldc 147, 2) := by decide +kernel
theorem dX8_init_516 : decode cX8_init 516 = .ok (.iastore, 1) := by decide +kernel
theorem dX8_init_517 : decode cX8_init 517 = .ok (.dup, 1) := by decide +kernel
theorem dX8_init_518 : decode cX8_init 518 = .ok (.bipush 43, 2) := by decide +kernel
theorem dX8_init_520 : decode cX8_init 520 = .ok (.ldc 148, 2) := by decide +kernel
theorem dX8_init_522 : decode cX8_init 522 = .ok (.iastore, 1) := by decide +kernel
theorem dX8_init_523 : decode cX8_init 523 = .ok (.dup, 1) := by decide +kernel
theorem dX8_init_524 : decode cX8_init 524 = .ok (.bipush 44, 2) := by decide +kernel
theorem dX8_init_526 : decode cX8_init 526 = .ok (.ldc 149, 2) := by decide +kernel
theorem dX8_init_528 : decode cX8_init 528 = .ok (.iastore, 1) := by decide +kernel
theorem dX8_init_529 : decode cX8_init 529 = .ok (.dup, 1) := by decide +kernel
theorem dX8_init_530 : decode cX8_init 530 = .ok (.bipush 45, 2) := by decide +kernel
theorem dX8_init_532 : decode cX8_init 532 = .ok (.ldc 150, 2) := by decide +kernel
theorem dX8_init_534 : decode cX8_init 534 = .ok (.iastore, 1) := by decide +kernel
theorem dX8_init_535 : decode cX8_init 535 = .ok (.dup, 1) := by decide +kernel
theorem dX8_init_536 : decode cX8_init 536 = .ok (.bipush 46, 2) := by decide +kernel
theorem dX8_init_538 : decode cX8_init 538 = .ok (.ldc 151, 2) := by decide +kernel
theorem dX8_init_540 : decode cX8_init 540 = .ok (.iastore, 1) := by decide +kernel
theorem dX8_init_541 : decode cX8_init 541 = .ok (.dup, 1) := by decide +kernel
theorem dX8_init_542 : decode cX8_init 542 = .ok (.bipush 47, 2) := by decide +kernel
theorem dX8_init_544 : decode cX8_init 544 = .ok (.ldc 152, 2) := by decide +kernel
theorem dX8_init_546 : decode cX8_init 546 = .ok (.iastore, 1) := by decide +kernel
theorem dX8_init_547 : decode cX8_init 547 = .ok (.dup, 1) := by decide +kernel
theorem dX8_init_548 : decode cX8_init 548 = .ok (.bipush 48, 2) := by decide +kernel
theorem dX8_init_550 : decode cX8_init 550 = .ok (.ldc 153, 2) := by decide +kernel
theorem dX8_init_552 : decode cX8_init 552 = .ok (.iastore, 1) := by decide +kernel
theorem dX8_init_553 : decode cX8_init 553 = .ok (.dup, 1) := by decide +kernel
theorem dX8_init_554 : decode cX8_init 554 = .ok (.bipush 49, 2) := by decide +kernel
theorem dX8_init_556 : decode cX8_init 556 = .ok (.ldc 154, 2) := by decide +kernel
theorem dX8_init_558 : decode cX8_init 558 = .ok (.iastore, 1) := by decide +kernel
theorem dX8_init_559 : decode cX8_init 559 = .ok (.dup, 1) := by decide +kernel
theorem dX8_init_560 : decode cX8_init 560 = .ok (.bipush 50, 2) := by decide +kernel
theorem dX8_init_562 : decode cX8_init 562 = .ok (.ldc 155, 2) := by decide +kernel
theorem dX8_init_564 : decode cX8_init 564 = .ok (.iastore, 1) := by decide +kernel
theorem dX8_init_565 : decode cX8_init 565 = .ok (.dup, 1) := by decide +kernel
theorem dX8_init_566 : decode cX8_init 566 = .ok (.bipush 51, 2) := by decide +kernel
theorem dX8_init_568 : decode cX8_init 568 = .ok (.ldc 156, 2) := by decide +kernel
theorem dX8_init_570 : decode cX8_init 570 = .ok (.iastore, 1) := by decide +kernel
theorem dX8_init_571 : decode cX8_init 571 = .ok (.dup, 1) := by decide +kernel
theorem dX8_init_572 : decode cX8_init 572 = .ok (.bipush 52, 2) := by decide +kernel
theorem dX8_init_574 : decode cX8_init 574 = .ok (.ldc 157, 2) := by decide +kernel
theorem dX8_init_576 : decode cX8_init 576 = .ok (.iastore, 1) := by decide +kernel
theorem dX8_init_577 : decode cX8_init 577 = .ok (.dup, 1) := by decide +kernel
theorem dX8_init_578 : decode cX8_init 578 = .ok (.bipush 53, 2) := by decide +kernel
theorem dX8_init_580 : decode cX8_init 580 = .ok (.ldc 158, 2) := by decide +kernel
theorem dX8_init_582 : decode cX8_init 582 = .ok (.iastore, 1) := by decide +kernel
theorem dX8_init_583 : decode cX8_init 583 = .ok (.dup, 1) := by decide +kernel
theorem dX8_init_584 : decode cX8_init 584 = .ok (.bipush 54, 2) := by decide +kernel
theorem dX8_init_586 : decode cX8_init 586 = .ok (.ldc 159, 2) := by decide +kernel
theorem dX8_init_588 : decode cX8_init 588 = .ok (.iastore, 1) := by decide +kernel
theorem dX8_init_589 : decode cX8_init 589 = .ok (.dup, 1) := by decide +kernel
theorem dX8_init_590 : decode cX8_init 590 = .ok (.bipush 55, 2) := by decide +kernel
theorem dX8_init_592 : decode cX8_init 592 = .ok (.ldc 160, 2) := by decide +kernel
theorem dX8_init_594 : decode cX8_init 594 = .ok (.iastore, 1) := by decide +kernel
theorem dX8_init_595 : decode cX8_init 595 = .ok (.dup, 1) := by decide +kernel
theorem dX8_init_596 : decode cX8_init 596 = .ok (.bipush 56, 2) := by decide +kernel
theorem dX8_init_598 : decode cX8_init 598 = .ok (.ldc 161, 2) := by decide +kernel
theorem dX8_init_600 : decode cX8_init 600 = .ok (.iastore, 1) := by decide +kernel
theorem dX8_init_601 : decode cX8_init 601 = .ok (.dup, 1) := by decide +kernel
theorem dX8_init_602 : decode cX8_init 602 = .ok (.bipush 57, 2) := by decide +kernel
theorem dX8_init_604 : decode cX8_init 604 = .ok (.ldc 162, 2) := by decide +kernel
theorem dX8_init_606 : decode cX8_init 606 = .ok (.iastore, 1) := by decide +kernel
theorem dX8_init_607 : decode cX8_init 607 = .ok (.dup, 1) := by decide +kernel
theorem dX8_init_608 : decode cX8_init 608 = .ok (.bipush 58, 2) := by decide +kernel
theorem dX8_init_610 : decode cX8_init 610 = .ok (.ldc 163, 2) := by decide +kernel
theorem dX8_init_612 : decode cX8_init 612 = .ok (.iastore, 1) := by decide +kernel
theorem dX8_init_613 : decode cX8_init 613 = .ok (.dup, 1) := by decide +kernel
theorem dX8_init_614 : decode cX8_init 614 = .ok (.bipush 59, 2) := by decide +kernel
theorem dX8_init_616 : decode cX8_init 616 = .ok (.ldc 164, 2) := by decide +kernel
theorem dX8_init_618 : decode cX8_init 618 = .ok (.iastore, 1) := by decide +kernel
theorem dX8_init_619 : decode cX8_init 619 = .ok (.dup, 1) := by decide +kernel
theorem dX8_init_620 : decode cX8_init 620 = .ok (.bipush 60, 2) := by decide +kernel
theorem dX8_init_622 : decode cX8_init 622 = .ok (.ldc 165, 2) := by decide +kernel
theorem dX8_init_624 : decode cX8_init 624 = .ok (.iastore, 1) := by decide +kernel
theorem dX8_init_625 : decode cX8_init 625 = .ok (.dup, 1) := by decide +kernel
theorem dX8_init_626 : decode cX8_init 626 = .ok (.bipush 61, 2) := by decide +kernel
theorem dX8_init_628 : decode cX8_init 628 = .ok (.ldc 166, 2) := by decide +kernel
theorem dX8_init_630 : decode cX8_init 630 = .ok (.iastore, 1) := by decide +kernel
theorem dX8_init_631 : decode cX8_init 631 = .ok (.dup, 1) := by decide +kernel
theorem dX8_init_632 : decode cX8_init 632 = .ok (.bipush 62, 2) := by decide +kernel
theorem dX8_init_634 : decode cX8_init 634 = .ok (.ldc 167, 2) := by decide +kernel
theorem dX8_init_636 : decode cX8_init 636 = .ok (.iastore, 1) := by decide +kernel
theorem dX8_init_637 : decode cX8_init 637 = .ok (.dup, 1) := by decide +kernel
theorem dX8_init_638 : decode cX8_init 638 = .ok (.bipush 63, 2) := by decide +kernel
theorem dX8_init_640 : decode cX8_init 640 = .ok (.ldc 168, 2) := by decide +kernel
theorem dX8_init_642 : decode cX8_init 642 = .ok (.iastore, 1) := by decide +kernel
theorem dX8_init_643 : decode cX8_init 643 = .ok (.putfield 169, 3) := by decide +kernel
theorem dX8_init_646 : decode cX8_init 646 = .ok (.aload_n 0, 1) := by decide +kernel
theorem dX8_init_647 : decode cX8_init 647 = .ok (.bipush 8, 2) := by decide +kernel
theorem dX8_init_649 : decode cX8_init 649 = .ok (.newarray .int, 2) := by decide +kernel
theorem dX8_init_651 : decode cX8_init 651 = .ok (.putfield 172, 3) := by decide +kernel
theorem dX8_init_654 : decode cX8_init 654 = .ok (.aload_n 0, 1) := by decide +kernel
theorem dX8_init_655 : decode cX8_init 655 = .ok (.bipush 8, 2) := by decide +kernel
theorem dX8_init_657 : decode cX8_init 657 = .ok (.newarray .int, 2) := by decide +kernel
theorem dX8_init_659 : decode cX8_init 659 = .ok (.dup, 1) := by decide +kernel
theorem dX8_init_660 : decode cX8_init 660 = .ok (.iconst 0, 1) := by decide +kernel
theorem dX8_init_661 : decode cX8_init 661 = .ok (.ldc 175, 2) := by decide +kernel
theorem dX8_init_663 : decode cX8_init 663 = .ok (.iastore, 1) := by decide +kernel
theorem dX8_init_664 : decode cX8_init 664 = .ok (.dup, 1) := by decide +kernel
theorem dX8_init_665 : decode cX8_init 665 = .ok (.iconst 1, 1) := by decide +kernel
theorem dX8_init_666 : decode cX8_init 666 = .ok (.ldc 176, 2) := by decide +kernel
theorem dX8_init_668 : decode cX8_init 668 = .ok (.iastore, 1) := by decide +kernel
theorem dX8_init_669 : decode cX8_init 669 = .ok (.dup, 1) := by decide +kernel
theorem dX8_init_670 : decode cX8_init 670 = .ok (.iconst 2, 1) := by decide +kernel
theorem dX8_init_671 : decode cX8_init 671 = .ok (.ldc 177, 2) := by decide +kernel
theorem dX8_init_673 : decode cX8_init 673 = .ok (.iastore, 1) := by decide +kernel
theorem dX8_init_674 : decode cX8_init 674 = .ok (.dup, 1) := by decide +kernel
theorem dX8_init_675 : decode cX8_init 675 = .ok (.iconst 3, 1) := by decide +kernel
theorem dX8_init_676 : decode cX8_init 676 = .ok (.ldc 178, 2) := by decide +kernel
theorem dX8_init_678 : decode cX8_init 678 = .ok (.iastore, 1) := by decide +kernel
theorem dX8_init_679 : decode cX8_init 679 = .ok (.dup, 1) := by decide +kernel
theorem dX8_init_680 : decode cX8_init 680 = .ok (.iconst 4, 1) := by decide +kernel
theorem dX8_init_681 : decode cX8_init 681 = .ok (.ldc 179, 2) := by decide +kernel
theorem dX8_init_683 : decode cX8_init 683 = .ok (.iastore, 1) := by decide +kernel
theorem dX8_init_684 : decode cX8_init 684 = .ok (.dup, 1) := by decide +kernel
theorem dX8_init_685 : decode cX8_init 685 = .ok (.iconst 5, 1) := by decide +kernel
theorem dX8_init_686 : decode cX8_init 686 = .ok (.ldc 180, 2) := by decide +kernel
theorem dX8_init_688 : decode cX8_init 688 = .ok (.iastore, 1) := by decide +kernel
theorem dX8_init_689 : decode cX8_init 689 = .ok (.dup, 1) := by decide +kernel
theorem dX8_init_690 : decode cX8_init 690 = .ok (.bipush 6, 2) := by decide +kernel
theorem dX8_init_692 : decode cX8_init 692 = .ok (.ldc 181, 2) := by decide +kernel
theorem dX8_init_694 : decode cX8_init 694 = .ok (.iastore, 1) := by decide +kernel
theorem dX8_init_695 : decode cX8_init 695 = .ok (.dup, 1) := by decide +kernel
theorem dX8_init_696 : decode cX8_init 696 = .ok (.bipush 7, 2) := by decide +kernel
theorem dX8_init_698 : decode cX8_init 698 = .ok (.ldc 182, 2) := by decide +kernel
theorem dX8_init_700 : decode cX8_init 700 = .ok (.iastore, 1) := by decide +kernel
theorem dX8_init_701 : decode cX8_init 701 = .ok (.putfield 183, 3) := by decide +kernel
theorem dX8_init_704 : decode cX8_init 704 = .ok (.aload_n 0, 1) := by decide +kernel
theorem dX8_init_705 : decode cX8_init 705 = .ok (.iconst 4, 1) := by decide +kernel
theorem dX8_init_706 : decode cX8_init 706 = .ok (.invokevirtual 186, 3) := by decide +kernel
theorem dX8_init_709 : decode cX8_init 709 = .ok (.return_, 1) := by decide +kernel
theorem dX8_thrown_0 : decode cX8_thrown 0 = .ok (.aload_n 0, 1) := by decide +kernel
theorem dX8_thrown_1 : decode cX8_thrown 1 = .ok (.getfield 190, 3) := by decide +kernel
theorem dX8_thrown_4 : decode cX8_thrown 4 = .ok (.ireturn, 1) := by decide +kernel
theorem dX8_in_0 : decode cX8_in 0 = .ok (.iload_n 0, 1) := by decide +kernel
theorem dX8_in_1 : decode cX8_in 1 = .ok (.iload_n 1, 1) := by decide +kernel
theorem dX8_in_2 : decode cX8_in 2 = .ok (.if_icmp .lt 12, 3) := by decide +kernel
theorem dX8_in_5 : decode cX8_in 5 = .ok (.iload_n 0, 1) := by decide +kernel
theorem dX8_in_6 : decode cX8_in 6 = .ok (.iload_n 2, 1) := by decide +kernel
theorem dX8_in_7 : decode cX8_in 7 = .ok (.if_icmp .gt 7, 3) := by decide +kernel
theorem dX8_in_10 : decode cX8_in 10 = .ok (.iconst 1, 1) := by decide +kernel
theorem dX8_in_11 : decode cX8_in 11 = .ok (.goto 4, 3) := by decide +kernel
theorem dX8_in_14 : decode cX8_in 14 = .ok (.iconst 0, 1) := by decide +kernel
theorem dX8_in_15 : decode cX8_in 15 = .ok (.ireturn, 1) := by decide +kernel
theorem dX8_fails_0 : decode cX8_fails 0 = .ok (.iload_n 1, 1) := by decide +kernel
theorem dX8_fails_1 : decode cX8_fails 1 = .ok (.ifCond .eq 15, 3) := by decide +kernel
theorem dX8_fails_4 : decode cX8_fails 4 = .ok (.aload_n 0, 1) := by decide +kernel
theorem dX8_fails_5 : decode cX8_fails 5 = .ok (.getfield 190, 3) := by decide +kernel
theorem dX8_fails_8 : decode cX8_fails 8 = .ok (.ifCond .ne 8, 3) := by decide +kernel
theorem dX8_fails_11 : decode cX8_fails 11 = .ok (.aload_n 0, 1) := by decide +kernel
theorem dX8_fails_12 : decode cX8_fails 12 = .ok (.iload_n 2, 1) := by decide +kernel
theorem dX8_fails_13 : decode cX8_fails 13 = .ok (.putfield 190, 3) := by decide +kernel
theorem dX8_fails_16 : decode cX8_fails 16 = .ok (.aload_n 0, 1) := by decide +kernel
theorem dX8_fails_17 : decode cX8_fails 17 = .ok (.getfield 190, 3) := by decide +kernel
theorem dX8_fails_20 : decode cX8_fails 20 = .ok (.ifCond .eq 7, 3) := by decide +kernel
theorem dX8_fails_23 : decode cX8_fails 23 = .ok (.iconst 1, 1) := by decide +kernel
theorem dX8_fails_24 : decode cX8_fails 24 = .ok (.goto 4, 3) := by decide +kernel
theorem dX8_fails_27 : decode cX8_fails 27 = .ok (.iconst 0, 1) := by decide +kernel
theorem dX8_fails_28 : decode cX8_fails 28 = .ok (.ireturn, 1) := by decide +kernel
theorem dX8_isNode_0 : decode cX8_isNode 0 = .ok (.iload_n 1, 1) := by decide +kernel
theorem dX8_isNode_1 : decode cX8_isNode 1 = .ok (.iconst 0, 1) := by decide +kernel
theorem dX8_isNode_2 : decode cX8_isNode 2 = .ok (.aload_n 0, 1) := by decide +kernel
theorem dX8_isNode_3 : decode cX8_isNode 3 = .ok (.getfield 193, 3) := by decide +kernel
theorem dX8_isNode_6 : decode cX8_isNode 6 = .ok (.iconst 1, 1) := by decide +kernel
theorem dX8_isNode_7 : decode cX8_isNode 7 = .ok (.isub, 1) := by decide +kernel
theorem dX8_isNode_8 : decode cX8_isNode 8 = .ok (.invokestatic 196, 3) := by decide +kernel
theorem dX8_isNode_11 : decode cX8_isNode 11 = .ok (.ireturn, 1) := by decide +kernel
theorem dX8_isEvent_0 : decode cX8_isEvent 0 = .ok (.iload_n 1, 1) := by decide +kernel
theorem dX8_isEvent_1 : decode cX8_isEvent 1 = .ok (.iconst 0, 1) := by decide +kernel
theorem dX8_isEvent_2 : decode cX8_isEvent 2 = .ok (.aload_n 0, 1) := by decide +kernel
theorem dX8_isEvent_3 : decode cX8_isEvent 3 = .ok (.getfield 200, 3) := by decide +kernel
theorem dX8_isEvent_6 : decode cX8_isEvent 6 = .ok (.iconst 1, 1) := by decide +kernel
theorem dX8_isEvent_7 : decode cX8_isEvent 7 = .ok (.isub, 1) := by decide +kernel
theorem dX8_isEvent_8 : decode cX8_isEvent 8 = .ok (.invokestatic 196, 3) := by decide +kernel
theorem dX8_isEvent_11 : decode cX8_isEvent 11 = .ok (.ireturn, 1) := by decide +kernel
theorem dX8_begin_0 : decode cX8_begin 0 = .ok (.aload_n 0, 1) := by decide +kernel
theorem dX8_begin_1 : decode cX8_begin 1 = .ok (.iconst 0, 1) := by decide +kernel
theorem dX8_begin_2 : decode cX8_begin 2 = .ok (.putfield 190, 3) := by decide +kernel
theorem dX8_begin_5 : decode cX8_begin 5 = .ok (.aload_n 0, 1) := by decide +kernel
theorem dX8_begin_6 : decode cX8_begin 6 = .ok (.iload_n 1, 1) := by decide +kernel
theorem dX8_begin_7 : decode cX8_begin 7 = .ok (.iconst 2, 1) := by decide +kernel
theorem dX8_begin_8 : decode cX8_begin 8 = .ok (.bipush 8, 2) := by decide +kernel
theorem dX8_begin_10 : decode cX8_begin 10 = .ok (.invokestatic 196, 3) := by decide +kernel
theorem dX8_begin_13 : decode cX8_begin 13 = .ok (.ifCond .ne 7, 3) := by decide +kernel
theorem dX8_begin_16 : decode cX8_begin 16 = .ok (.iconst 1, 1) := by decide +kernel
theorem dX8_begin_17 : decode cX8_begin 17 = .ok (.goto 4, 3) := by decide +kernel
theorem dX8_begin_20 : decode cX8_begin 20 = .ok (.iconst 0, 1) := by decide +kernel
theorem dX8_begin_21 : decode cX8_begin 21 = .ok (.iconst 1, 1) := by decide +kernel
theorem dX8_begin_22 : decode cX8_begin 22 = .ok (.invokevirtual 203, 3) := by decide +kernel
theorem dX8_begin_25 : decode cX8_begin 25 = .ok (.ifCond .ne 8, 3) := by decide +kernel
theorem dX8_begin_28 : decode cX8_begin 28 = .ok (.aload_n 0, 1) := by decide +kernel
theorem dX8_begin_29 : decode cX8_begin 29 = .ok (.iload_n 1, 1) := by decide +kernel
theorem dX8_begin_30 : decode cX8_begin 30 = .ok (.invokevirtual 186, 3) := by decide +kernel
theorem dX8_begin_33 : decode cX8_begin 33 = .ok (.return_, 1) := by decide +kernel
theorem dX8_anew_0 : decode cX8_anew 0 = .ok (.aload_n 0, 1) := by decide +kernel
theorem dX8_anew_1 : decode cX8_anew 1 = .ok (.iload_n 1, 1) := by decide +kernel
theorem dX8_anew_2 : decode cX8_anew 2 = .ok (.putfield 193, 3) := by decide +kernel
theorem dX8_anew_5 : decode cX8_anew 5 = .ok (.aload_n 0, 1) := by decide +kernel
theorem dX8_anew_6 : decode cX8_anew 6 = .ok (.iconst 0, 1) := by decide +kernel
theorem dX8_anew_7 : decode cX8_anew 7 = .ok (.putfield 200, 3) := by decide +kernel
theorem dX8_anew_10 : decode cX8_anew 10 = .ok (.aload_n 0, 1) := by decide +kernel
theorem dX8_anew_11 : decode cX8_anew 11 = .ok (.iconst (-1), 1) := by decide +kernel
theorem dX8_anew_12 : decode cX8_anew 12 = .ok (.putfield 71, 3) := by decide +kernel
theorem dX8_anew_15 : decode cX8_anew 15 = .ok (.iconst 0, 1) := by decide +kernel
theorem dX8_anew_16 : decode cX8_anew 16 = .ok (.istore_n 2, 1) := by decide +kernel
theorem dX8_anew_17 : decode cX8_anew 17 = .ok (.iload_n 2, 1) := by decide +kernel
theorem dX8_anew_18 : decode cX8_anew 18 = .ok (.sipush 1920, 3) := by decide +kernel
theorem dX8_anew_21 : decode cX8_anew 21 = .ok (.if_icmp .ge 16, 3) := by decide +kernel
theorem dX8_anew_24 : decode cX8_anew 24 = .ok (.aload_n 0, 1) := by decide +kernel
theorem dX8_anew_25 : decode cX8_anew 25 = .ok (.getfield 55, 3) := by decide +kernel
theorem dX8_anew_28 : decode cX8_anew 28 = .ok (.iload_n 2, 1) := by decide +kernel
theorem dX8_anew_29 : decode cX8_anew 29 = .ok (.iconst 0, 1) := by decide +kernel
theorem dX8_anew_30 : decode cX8_anew 30 = .ok (.bastore, 1) := by decide +kernel
theorem dX8_anew_31 : decode cX8_anew 31 = .ok (.iinc 2 1, 3) := by decide +kernel
theorem dX8_anew_34 : decode cX8_anew 34 = .ok (.goto (-17), 3) := by decide +kernel
theorem dX8_anew_37 : decode cX8_anew 37 = .ok (.iconst 0, 1) := by decide +kernel
theorem dX8_anew_38 : decode cX8_anew 38 = .ok (.istore_n 2, 1) := by decide +kernel
theorem dX8_anew_39 : decode cX8_anew 39 = .ok (.iload_n 2, 1) := by decide +kernel
theorem dX8_anew_40 : decode cX8_anew 40 = .ok (.ldc 50, 2) := by decide +kernel
theorem dX8_anew_42 : decode cX8_anew 42 = .ok (.if_icmp .ge 30, 3) := by decide +kernel
theorem dX8_anew_45 : decode cX8_anew 45 = .ok (.aload_n 0, 1) := by decide +kernel
theorem dX8_anew_46 : decode cX8_anew 46 = .ok (.getfield 51, 3) := by decide +kernel
theorem dX8_anew_49 : decode cX8_anew 49 = .ok (.iload_n 2, 1) := by decide +kernel
theorem dX8_anew_50 : decode cX8_anew 50 = .ok (.iconst 0, 1) := by decide +kernel
theorem dX8_anew_51 : decode cX8_anew 51 = .ok (.bastore, 1) := by decide +kernel
theorem dX8_anew_52 : decode cX8_anew 52 = .ok (.aload_n 0, 1) := by decide +kernel
theorem dX8_anew_53 : decode cX8_anew 53 = .ok (.getfield 64, 3) := by decide +kernel
theorem dX8_anew_56 : decode cX8_anew 56 = .ok (.iload_n 2, 1) := by decide +kernel
theorem dX8_anew_57 : decode cX8_anew 57 = .ok (.iconst 0, 1) := by decide +kernel
theorem dX8_anew_58 : decode cX8_anew 58 = .ok (.bastore, 1) := by decide +kernel
theorem dX8_anew_59 : decode cX8_anew 59 = .ok (.aload_n 0, 1) := by decide +kernel
theorem dX8_anew_60 : decode cX8_anew 60 = .ok (.getfield 68, 3) := by decide +kernel
theorem dX8_anew_63 : decode cX8_anew 63 = .ok (.iload_n 2, 1) := by decide +kernel
theorem dX8_anew_64 : decode cX8_anew 64 = .ok (.iconst 0, 1) := by decide +kernel
theorem dX8_anew_65 : decode cX8_anew 65 = .ok (.bastore, 1) := by decide +kernel
theorem dX8_anew_66 : decode cX8_anew 66 = .ok (.iinc 2 1, 3) := by decide +kernel
theorem dX8_anew_69 : decode cX8_anew 69 = .ok (.goto (-30), 3) := by decide +kernel
theorem dX8_anew_72 : decode cX8_anew 72 = .ok (.iconst 0, 1) := by decide +kernel
theorem dX8_anew_73 : decode cX8_anew 73 = .ok (.istore_n 2, 1) := by decide +kernel
theorem dX8_anew_74 : decode cX8_anew 74 = .ok (.iload_n 2, 1) := by decide +kernel
theorem dX8_anew_75 : decode cX8_anew 75 = .ok (.aload_n 0, 1) := by decide +kernel
theorem dX8_anew_76 : decode cX8_anew 76 = .ok (.getfield 193, 3) := by decide +kernel
theorem dX8_anew_79 : decode cX8_anew 79 = .ok (.if_icmp .ge 48, 3) := by decide +kernel
theorem dX8_anew_82 : decode cX8_anew 82 = .ok (.aload_n 0, 1) := by decide +kernel
theorem dX8_anew_83 : decode cX8_anew 83 = .ok (.getfield 37, 3) := by decide +kernel
theorem dX8_anew_86 : decode cX8_anew 86 = .ok (.iload_n 2, 1) := by decide +kernel
theorem dX8_anew_87 : decode cX8_anew 87 = .ok (.iconst 0, 1) := by decide +kernel
theorem dX8_anew_88 : decode cX8_anew 88 = .ok (.iastore, 1) := by decide +kernel
theorem dX8_anew_89 : decode cX8_anew 89 = .ok (.aload_n 0, 1) := by decide +kernel
theorem dX8_anew_90 : decode cX8_anew 90 = .ok (.getfield 34, 3) := by decide +kernel
theorem dX8_anew_93 : decode cX8_anew 93 = .ok (.iload_n 2, 1) := by decide +kernel
theorem dX8_anew_94 : decode cX8_anew 94 = .ok (.aload_n 0, 1) := by decide +kernel
theorem dX8_anew_95 : decode cX8_anew 95 = .ok (.iload_n 2, 1) := by decide +kernel
theorem dX8_anew_96 : decode cX8_anew 96 = .ok (.iconst (-1), 1) := by decide +kernel
theorem dX8_anew_97 : decode cX8_anew 97 = .ok (.iconst (-1), 1) := by decide +kernel
theorem dX8_anew_98 : decode cX8_anew 98 = .ok (.lconst 0, 1) := by decide +kernel
theorem dX8_anew_99 : decode cX8_anew 99 = .ok (.invokevirtual 207, 3) := by decide +kernel
theorem dX8_anew_102 : decode cX8_anew 102 = .ok (.iastore, 1) := by decide +kernel
theorem dX8_anew_103 : decode cX8_anew 103 = .ok (.aload_n 0, 1) := by decide +kernel
theorem dX8_anew_104 : decode cX8_anew 104 = .ok (.getfield 55, 3) := by decide +kernel
theorem dX8_anew_107 : decode cX8_anew 107 = .ok (.sipush 240, 3) := by decide +kernel
theorem dX8_anew_110 : decode cX8_anew 110 = .ok (.iload_n 2, 1) := by decide +kernel
theorem dX8_anew_111 : decode cX8_anew 111 = .ok (.imul, 1) := by decide +kernel
theorem dX8_anew_112 : decode cX8_anew 112 = .ok (.aload_n 0, 1) := by decide +kernel
theorem dX8_anew_113 : decode cX8_anew 113 = .ok (.getfield 34, 3) := by decide +kernel
theorem dX8_anew_116 : decode cX8_anew 116 = .ok (.iload_n 2, 1) := by decide +kernel
theorem dX8_anew_117 : decode cX8_anew 117 = .ok (.iaload, 1) := by decide +kernel
theorem dX8_anew_118 : decode cX8_anew 118 = .ok (.iadd, 1) := by decide +kernel
theorem dX8_anew_119 : decode cX8_anew 119 = .ok (.iconst 1, 1) := by decide +kernel
theorem dX8_anew_120 : decode cX8_anew 120 = .ok (.bastore, 1) := by decide +kernel
theorem dX8_anew_121 : decode cX8_anew 121 = .ok (.iinc 2 1, 3) := by decide +kernel
theorem dX8_anew_124 : decode cX8_anew 124 = .ok (.goto (-50), 3) := by decide +kernel
theorem dX8_anew_127 : decode cX8_anew 127 = .ok (.return_, 1) := by decide +kernel
theorem dX8_make_0 : decode cX8_make 0 = .ok (.aload_n 0, 1) := by decide +kernel
theorem dX8_make_1 : decode cX8_make 1 = .ok (.dup, 1) := by decide +kernel
theorem dX8_make_2 : decode cX8_make 2 = .ok (.getfield 200, 3) := by decide +kernel
theorem dX8_make_5 : decode cX8_make 5 = .ok (.dup_x1, 1) := by decide +kernel
theorem dX8_make_6 : decode cX8_make 6 = .ok (.iconst 1, 1) := by decide +kernel
theorem dX8_make_7 : decode cX8_make 7 = .ok (.iadd, 1) := by decide +kernel
theorem dX8_make_8 : decode cX8_make 8 = .ok (.putfield 200, 3) := by decide +kernel
theorem dX8_make_11 : decode cX8_make 11 = .ok (.istore 6, 2) := by decide +kernel
theorem dX8_make_13 : decode cX8_make 13 = .ok (.aload_n 0, 1) := by decide +kernel
theorem dX8_make_14 : decode cX8_make 14 = .ok (.getfield 9, 3) := by decide +kernel
theorem dX8_make_17 : decode cX8_make 17 = .ok (.iload 6, 2) := by decide +kernel
theorem dX8_make_19 : decode cX8_make 19 = .ok (.iload_n 1, 1) := by decide +kernel
theorem dX8_make_20 : decode cX8_make 20 = .ok (.iastore, 1) := by decide +kernel
theorem dX8_make_21 : decode cX8_make 21 = .ok (.aload_n 0, 1) := by decide +kernel
theorem dX8_make_22 : decode cX8_make 22 = .ok (.getfield 13, 3) := by decide +kernel
theorem dX8_make_25 : decode cX8_make 25 = .ok (.iload 6, 2) := by decide +kernel
theorem dX8_make_27 : decode cX8_make 27 = .ok (.iload_n 2, 1) := by decide +kernel
theorem dX8_make_28 : decode cX8_make 28 = .ok (.iastore, 1) := by decide +kernel
theorem dX8_make_29 : decode cX8_make 29 = .ok (.aload_n 0, 1) := by decide +kernel
theorem dX8_make_30 : decode cX8_make 30 = .ok (.getfield 16, 3) := by decide +kernel
theorem dX8_make_33 : decode cX8_make 33 = .ok (.iload 6, 2) := by decide +kernel
theorem dX8_make_35 : decode cX8_make 35 = .ok (.iload_n 3, 1) := by decide +kernel
theorem dX8_make_36 : decode cX8_make 36 = .ok (.iastore, 1) := by decide +kernel
theorem dX8_make_37 : decode cX8_make 37 = .ok (.aload_n 0, 1) := by decide +kernel
theorem dX8_make_38 : decode cX8_make 38 = .ok (.getfield 46, 3) := by decide +kernel
theorem dX8_make_41 : decode cX8_make 41 = .ok (.iload 6, 2) := by decide +kernel
theorem dX8_make_43 : decode cX8_make 43 = .ok (.lload 4, 2) := by decide +kernel
theorem dX8_make_45 : decode cX8_make 45 = .ok (.lastore, 1) := by decide +kernel
theorem dX8_make_46 : decode cX8_make 46 = .ok (.iload_n 2, 1) := by decide +kernel
theorem dX8_make_47 : decode cX8_make 47 = .ok (.ifCond .ge 11, 3) := by decide +kernel
theorem dX8_make_50 : decode cX8_make 50 = .ok (.aload_n 0, 1) := by decide +kernel
theorem dX8_make_51 : decode cX8_make 51 = .ok (.getfield 19, 3) := by decide +kernel
theorem dX8_make_54 : decode cX8_make 54 = .ok (.iload 6, 2) := by decide +kernel
theorem dX8_make_56 : decode cX8_make 56 = .ok (.iconst 0, 1) := by decide +kernel
theorem dX8_make_57 : decode cX8_make 57 = .ok (.iastore, 1) := by decide +kernel
theorem dX8_make_58 : decode cX8_make 58 = .ok (.aload_n 0, 1) := by decide +kernel
theorem dX8_make_59 : decode cX8_make 59 = .ok (.iload 6, 2) := by decide +kernel
theorem dX8_make_61 : decode cX8_make 61 = .ok (.invokevirtual 211, 3) := by decide +kernel
theorem dX8_make_64 : decode cX8_make 64 = .ok (.iconst 0, 1) := by decide +kernel
theorem dX8_make_65 : decode cX8_make 65 = .ok (.istore 7, 2) := by decide +kernel
theorem dX8_make_67 : decode cX8_make 67 = .ok (.iload 7, 2) := by decide +kernel
theorem dX8_make_69 : decode cX8_make 69 = .ok (.iload 6, 2) := by decide +kernel
theorem dX8_make_71 : decode cX8_make 71 = .ok (.if_icmp .ge 68, 3) := by decide +kernel
theorem dX8_make_74 : decode cX8_make 74 = .ok (.aload_n 0, 1) := by decide +kernel
theorem dX8_make_75 : decode cX8_make 75 = .ok (.getfield 51, 3) := by decide +kernel
theorem dX8_make_78 : decode cX8_make 78 = .ok (.sipush 240, 3) := by decide +kernel
theorem dX8_make_81 : decode cX8_make 81 = .ok (.iload 6, 2) := by decide +kernel
theorem dX8_make_83 : decode cX8_make 83 = .ok (.imul, 1) := by decide +kernel
theorem dX8_make_84 : decode cX8_make 84 = .ok (.iload 7, 2) := by decide +kernel
theorem dX8_make_86 : decode cX8_make 86 = .ok (.iadd, 1) := by decide +kernel
theorem dX8_make_87 : decode cX8_make 87 = .ok (.iload_n 2, 1) := by decide +kernel
theorem dX8_make_88 : decode cX8_make 88 = .ok (.ifCond .lt 19, 3) := by decide +kernel
theorem dX8_make_91 : decode cX8_make 91 = .ok (.aload_n 0, 1) := by decide +kernel
theorem dX8_make_92 : decode cX8_make 92 = .ok (.getfield 51, 3) := by decide +kernel
theorem dX8_make_95 : decode cX8_make 95 = .ok (.sipush 240, 3) := by decide +kernel
theorem dX8_make_98 : decode cX8_make 98 = .ok (.iload_n 2, 1) := by decide +kernel
theorem dX8_make_99 : decode cX8_make 99 = .ok (.imul, 1) := by decide +kernel
theorem dX8_make_100 : decode cX8_make 100 = .ok (.iload 7, 2) := by decide +kernel
theorem dX8_make_102 : decode cX8_make 102 = .ok (.iadd, 1) := by decide +kernel
theorem dX8_make_103 : decode cX8_make 103 = .ok (.baload, 1) := by decide +kernel
theorem dX8_make_104 : decode cX8_make 104 = .ok (.ifCond .ne 23, 3) := by decide +kernel
theorem dX8_make_107 : decode cX8_make 107 = .ok (.iload_n 3, 1) := by decide +kernel
theorem dX8_make_108 : decode cX8_make 108 = .ok (.ifCond .lt 23, 3) := by decide +kernel
theorem dX8_make_111 : decode cX8_make 111 = .ok (.aload_n 0, 1) := by decide +kernel
theorem dX8_make_112 : decode cX8_make 112 = .ok (.getfield 51, 3) := by decide +kernel
theorem dX8_make_115 : decode cX8_make 115 = .ok (.sipush 240, 3) := by decide +kernel
theorem dX8_make_118 : decode cX8_make 118 = .ok (.iload_n 3, 1) := by decide +kernel
theorem dX8_make_119 : decode cX8_make 119 = .ok (.imul, 1) := by decide +kernel
theorem dX8_make_120 : decode cX8_make 120 = .ok (.iload 7, 2) := by decide +kernel
theorem dX8_make_122 : decode cX8_make 122 = .ok (.iadd, 1) := by decide +kernel
theorem dX8_make_123 : decode cX8_make 123 = .ok (.baload, 1) := by decide +kernel
theorem dX8_make_124 : decode cX8_make 124 = .ok (.ifCond .eq 7, 3) := by decide +kernel
theorem dX8_make_127 : decode cX8_make 127 = .ok (.iconst 1, 1) := by decide +kernel
theorem dX8_make_128 : decode cX8_make 128 = .ok (.goto 4, 3) := by decide +kernel
theorem dX8_make_131 : decode cX8_make 131 = .ok (.iconst 0, 1) := by decide +kernel
theorem dX8_make_132 : decode cX8_make 132 = .ok (.bastore, 1) := by decide +kernel
theorem dX8_make_133 : decode cX8_make 133 = .ok (.iinc 7 1, 3) := by decide +kernel
theorem dX8_make_136 : decode cX8_make 136 = .ok (.goto (-69), 3) := by decide +kernel
theorem dX8_make_139 : decode cX8_make 139 = .ok (.aload_n 0, 1) := by decide +kernel
theorem dX8_make_140 : decode cX8_make 140 = .ok (.getfield 51, 3) := by decide +kernel
theorem dX8_make_143 : decode cX8_make 143 = .ok (.sipush 240, 3) := by decide +kernel
theorem dX8_make_146 : decode cX8_make 146 = .ok (.iload 6, 2) := by decide +kernel
theorem dX8_make_148 : decode cX8_make 148 = .ok (.imul, 1) := by decide +kernel
theorem dX8_make_149 : decode cX8_make 149 = .ok (.iload 6, 2) := by decide +kernel
theorem dX8_make_151 : decode cX8_make 151 = .ok (.iadd, 1) := by decide +kernel
theorem dX8_make_152 : decode cX8_make 152 = .ok (.iconst 1, 1) := by decide +kernel
theorem dX8_make_153 : decode cX8_make 153 = .ok (.bastore, 1) := by decide +kernel
theorem dX8_make_154 : decode cX8_make 154 = .ok (.iconst 0, 1) := by decide +kernel
theorem dX8_make_155 : decode cX8_make 155 = .ok (.istore 7, 2) := by decide +kernel
theorem dX8_make_157 : decode cX8_make 157 = .ok (.iload 7, 2) := by decide +kernel
theorem dX8_make_159 : decode cX8_make 159 = .ok (.aload_n 0, 1) := by decide +kernel
theorem dX8_make_160 : decode cX8_make 160 = .ok (.getfield 193, 3) := by decide +kernel
theorem dX8_make_163 : decode cX8_make 163 = .ok (.if_icmp .ge 30, 3) := by decide +kernel
theorem dX8_make_166 : decode cX8_make 166 = .ok (.aload_n 0, 1) := by decide +kernel
theorem dX8_make_167 : decode cX8_make 167 = .ok (.getfield 58, 3) := by decide +kernel
theorem dX8_make_170 : decode cX8_make 170 = .ok (.bipush 8, 2) := by decide +kernel
theorem dX8_make_172 : decode cX8_make 172 = .ok (.iload 6, 2) := by decide +kernel
theorem dX8_make_174 : decode cX8_make 174 = .ok (.imul, 1) := by decide +kernel
theorem dX8_make_175 : decode cX8_make 175 = .ok (.iload 7, 2) := by decide +kernel
theorem dX8_make_177 : decode cX8_make 177 = .ok (.iadd, 1) := by decide +kernel
theorem dX8_make_178 : decode cX8_make 178 = .ok (.aload_n 0, 1) := by decide +kernel
theorem dX8_make_179 : decode cX8_make 179 = .ok (.iload 6, 2) := by decide +kernel
theorem dX8_make_181 : decode cX8_make 181 = .ok (.iload 7, 2) := by decide +kernel
theorem dX8_make_183 : decode cX8_make 183 = .ok (.invokevirtual 214, 3) := by decide +kernel
theorem dX8_make_186 : decode cX8_make 186 = .ok (.bastore, 1) := by decide +kernel
theorem dX8_make_187 : decode cX8_make 187 = .ok (.iinc 7 1, 3) := by decide +kernel
theorem dX8_make_190 : decode cX8_make 190 = .ok (.goto (-33), 3) := by decide +kernel
theorem dX8_make_193 : decode cX8_make 193 = .ok (.iconst 1, 1) := by decide +kernel
theorem dX8_make_194 : decode cX8_make 194 = .ok (.istore 7, 2) := by decide +kernel
theorem dX8_make_196 : decode cX8_make 196 = .ok (.iload_n 2, 1) := by decide +kernel
theorem dX8_make_197 : decode cX8_make 197 = .ok (.ifCond .lt 120, 3) := by decide +kernel
theorem dX8_make_200 : decode cX8_make 200 = .ok (.iload_n 3, 1) := by decide +kernel
theorem dX8_make_201 : decode cX8_make 201 = .ok (.ifCond .lt 27, 3) := by decide +kernel
theorem dX8_make_204 : decode cX8_make 204 = .ok (.aload_n 0, 1) := by decide +kernel
theorem dX8_make_205 : decode cX8_make 205 = .ok (.getfield 28, 3) := by decide +kernel
theorem dX8_make_208 : decode cX8_make 208 = .ok (.iload_n 3, 1) := by decide +kernel
theorem dX8_make_209 : decode cX8_make 209 = .ok (.iaload, 1) := by decide +kernel
theorem dX8_make_210 : decode cX8_make 210 = .ok (.aload_n 0, 1) := by decide +kernel
theorem dX8_make_211 : decode cX8_make 211 = .ok (.getfield 28, 3) := by decide +kernel
theorem dX8_make_214 : decode cX8_make 214 = .ok (.iload_n 2, 1) := by decide +kernel
theorem dX8_make_215 : decode cX8_make 215 = .ok (.iaload, 1) := by decide +kernel
theorem dX8_make_216 : decode cX8_make 216 = .ok (.if_icmp .le 12, 3) := by decide +kernel
theorem dX8_make_219 : decode cX8_make 219 = .ok (.aload_n 0, 1) := by decide +kernel
theorem dX8_make_220 : decode cX8_make 220 = .ok (.getfield 28, 3) := by decide +kernel
theorem dX8_make_223 : decode cX8_make 223 = .ok (.iload_n 3, 1) := by decide +kernel
theorem dX8_make_224 : decode cX8_make 224 = .ok (.iaload, 1) := by decide +kernel
theorem dX8_make_225 : decode cX8_make 225 = .ok (.goto 9, 3) := by decide +kernel
theorem dX8_make_228 : decode cX8_make 228 = .ok (.aload_n 0, 1) := by decide +kernel
theorem dX8_make_229 : decode cX8_make 229 = .ok (.getfield 28, 3) := by decide +kernel
theorem dX8_make_232 : decode cX8_make 232 = .ok (.iload_n 2, 1) := by decide +kernel
theorem dX8_make_233 : decode cX8_make 233 = .ok (.iaload, 1) := by decide +kernel
theorem dX8_make_234 : decode cX8_make 234 = .ok (.istore 7, 2) := by decide +kernel
theorem dX8_make_236 : decode cX8_make 236 = .ok (.iconst 0, 1) := by decide +kernel
theorem dX8_make_237 : decode cX8_make 237 = .ok (.istore 8, 2) := by decide +kernel
theorem dX8_make_239 : decode cX8_make 239 = .ok (.iconst 0, 1) := by decide +kernel
theorem dX8_make_240 : decode cX8_make 240 = .ok (.istore 9, 2) := by decide +kernel
theorem dX8_make_242 : decode cX8_make 242 = .ok (.iload 9, 2) := by decide +kernel
theorem dX8_make_244 : decode cX8_make 244 = .ok (.iload 6, 2) := by decide +kernel
theorem dX8_make_246 : decode cX8_make 246 = .ok (.if_icmp .ge 56, 3) := by decide +kernel
theorem dX8_make_249 : decode cX8_make 249 = .ok (.aload_n 0, 1) := by decide +kernel
theorem dX8_make_250 : decode cX8_make 250 = .ok (.getfield 61, 3) := by decide +kernel
theorem dX8_make_253 : decode cX8_make 253 = .ok (.iload 9, 2) := by decide +kernel
theorem dX8_make_255 : decode cX8_make 255 = .ok (.baload, 1) := by decide +kernel
theorem dX8_make_256 : decode cX8_make 256 = .ok (.ifCond .eq 40, 3) := by decide +kernel
theorem dX8_make_259 : decode cX8_make 259 = .ok (.aload_n 0, 1) := by decide +kernel
theorem dX8_make_260 : decode cX8_make 260 = .ok (.getfield 28, 3) := by decide +kernel
theorem dX8_make_263 : decode cX8_make 263 = .ok (.iload 9, 2) := by decide +kernel
theorem dX8_make_265 : decode cX8_make 265 = .ok (.iaload, 1) := by decide +kernel
theorem dX8_make_266 : decode cX8_make 266 = .ok (.iload 7, 2) := by decide +kernel
theorem dX8_make_268 : decode cX8_make 268 = .ok (.if_icmp .ne 28, 3) := by decide +kernel
theorem dX8_make_271 : decode cX8_make 271 = .ok (.aload_n 0, 1) := by decide +kernel
theorem dX8_make_272 : decode cX8_make 272 = .ok (.iload 6, 2) := by decide +kernel
theorem dX8_make_274 : decode cX8_make 274 = .ok (.iload 9, 2) := by decide +kernel
theorem dX8_make_276 : decode cX8_make 276 = .ok (.invokevirtual 218, 3) := by decide +kernel
theorem dX8_make_279 : decode cX8_make 279 = .ok (.ifCond .eq 17, 3) := by decide +kernel
theorem dX8_make_282 : decode cX8_make 282 = .ok (.iload 8, 2) := by decide +kernel
theorem dX8_make_284 : decode cX8_make 284 = .ok (.iconst 1, 1) := by decide +kernel
theorem dX8_make_285 : decode cX8_make 285 = .ok (.aload_n 0, 1) := by decide +kernel
theorem dX8_make_286 : decode cX8_make 286 = .ok (.getfield 9, 3) := by decide +kernel
theorem dX8_make_289 : decode cX8_make 289 = .ok (.iload 9, 2) := by decide +kernel
theorem dX8_make_291 : decode cX8_make 291 = .ok (.iaload, 1) := by decide +kernel
theorem dX8_make_292 : decode cX8_make 292 = .ok (.ishl, 1) := by decide +kernel
theorem dX8_make_293 : decode cX8_make 293 = .ok (.ior, 1) := by decide +kernel
theorem dX8_make_294 : decode cX8_make 294 = .ok (.istore 8, 2) := by decide +kernel
theorem dX8_make_296 : decode cX8_make 296 = .ok (.iinc 9 1, 3) := by decide +kernel
theorem dX8_make_299 : decode cX8_make 299 = .ok (.goto (-57), 3) := by decide +kernel
theorem dX8_make_302 : decode cX8_make 302 = .ok (.aload_n 0, 1) := by decide +kernel
theorem dX8_make_303 : decode cX8_make 303 = .ok (.iload 8, 2) := by decide +kernel
theorem dX8_make_305 : decode cX8_make 305 = .ok (.invokestatic 221, 3) := by decide +kernel
theorem dX8_make_308 : decode cX8_make 308 = .ok (.invokevirtual 227, 3) := by decide +kernel
theorem dX8_make_311 : decode cX8_make 311 = .ok (.ifCond .eq 6, 3) := by decide +kernel
theorem dX8_make_314 : decode cX8_make 314 = .ok (.iinc 7 1, 3) := by decide +kernel
theorem dX8_make_317 : decode cX8_make 317 = .ok (.aload_n 0, 1) := by decide +kernel
theorem dX8_make_318 : decode cX8_make 318 = .ok (.getfield 28, 3) := by decide +kernel
theorem dX8_make_321 : decode cX8_make 321 = .ok (.iload 6, 2) := by decide +kernel
theorem dX8_make_323 : decode cX8_make 323 = .ok (.iload 7, 2) := by decide +kernel
theorem dX8_make_325 : decode cX8_make 325 = .ok (.iastore, 1) := by decide +kernel
theorem dX8_make_326 : decode cX8_make 326 = .ok (.aload_n 0, 1) := by decide +kernel
theorem dX8_make_327 : decode cX8_make 327 = .ok (.getfield 61, 3) := by decide +kernel
theorem dX8_make_330 : decode cX8_make 330 = .ok (.iload 6, 2) := by decide +kernel
theorem dX8_make_332 : decode cX8_make 332 = .ok (.iload_n 2, 1) := by decide +kernel
theorem dX8_make_333 : decode cX8_make 333 = .ok (.ifCond .lt 14, 3) := by decide +kernel
theorem dX8_make_336 : decode cX8_make 336 = .ok (.aload_n 0, 1) := by decide +kernel
theorem dX8_make_337 : decode cX8_make 337 = .ok (.getfield 28, 3) := by decide +kernel
theorem dX8_make_340 : decode cX8_make 340 = .ok (.iload_n 2, 1) := by decide +kernel
theorem dX8_make_341 : decode cX8_make 341 = .ok (.iaload, 1) := by decide +kernel
theorem dX8_make_342 : decode cX8_make 342 = .ok (.iload 7, 2) := by decide +kernel
theorem dX8_make_344 : decode cX8_make 344 = .ok (.if_icmp .ge 7, 3) := by decide +kernel
theorem dX8_make_347 : decode cX8_make 347 = .ok (.iconst 1, 1) := by decide +kernel
theorem dX8_make_348 : decode cX8_make 348 = .ok (.goto 4, 3) := by decide +kernel
theorem dX8_make_351 : decode cX8_make 351 = .ok (.iconst 0, 1) := by decide +kernel
theorem dX8_make_352 : decode cX8_make 352 = .ok (.bastore, 1) := by decide +kernel
theorem dX8_make_353 : decode cX8_make 353 = .ok (.aload_n 0, 1) := by decide +kernel
theorem dX8_make_354 : decode cX8_make 354 = .ok (.iconst (-1), 1) := by decide +kernel
theorem dX8_make_355 : decode cX8_make 355 = .ok (.putfield 71, 3) := by decide +kernel
theorem dX8_make_358 : decode cX8_make 358 = .ok (.iload 6, 2) := by decide +kernel
theorem dX8_make_360 : decode cX8_make 360 = .ok (.ireturn, 1) := by decide +kernel
theorem dX8_isMost_0 : decode cX8_isMost 0 = .ok (.iconst 3, 1) := by decide +kernel
theorem dX8_isMost_1 : decode cX8_isMost 1 = .ok (.iload_n 1, 1) := by decide +kernel
theorem dX8_isMost_2 : decode cX8_isMost 2 = .ok (.imul, 1) := by decide +kernel
theorem dX8_isMost_3 : decode cX8_isMost 3 = .ok (.iconst 2, 1) := by decide +kernel
theorem dX8_isMost_4 : decode cX8_isMost 4 = .ok (.aload_n 0, 1) := by decide +kernel
theorem dX8_isMost_5 : decode cX8_isMost 5 = .ok (.getfield 193, 3) := by decide +kernel
theorem dX8_isMost_8 : decode cX8_isMost 8 = .ok (.imul, 1) := by decide +kernel
theorem dX8_isMost_9 : decode cX8_isMost 9 = .ok (.if_icmp .le 7, 3) := by decide +kernel
theorem dX8_isMost_12 : decode cX8_isMost 12 = .ok (.iconst 1, 1) := by decide +kernel
theorem dX8_isMost_13 : decode cX8_isMost 13 = .ok (.goto 4, 3) := by decide +kernel
theorem dX8_isMost_16 : decode cX8_isMost 16 = .ok (.iconst 0, 1) := by decide +kernel
theorem dX8_isMost_17 : decode cX8_isMost 17 = .ok (.ireturn, 1) := by decide +kernel
theorem dX8_isSelf_0 : decode cX8_isSelf 0 = .ok (.iload_n 1, 1) := by decide +kernel
theorem dX8_isSelf_1 : decode cX8_isSelf 1 = .ok (.istore_n 3, 1) := by decide +kernel
theorem dX8_isSelf_2 : decode cX8_isSelf 2 = .ok (.iload_n 3, 1) := by decide +kernel
theorem dX8_isSelf_3 : decode cX8_isSelf 3 = .ok (.ifCond .lt 20, 3) := by decide +kernel
theorem dX8_isSelf_6 : decode cX8_isSelf 6 = .ok (.iload_n 3, 1) := by decide +kernel
theorem dX8_isSelf_7 : decode cX8_isSelf 7 = .ok (.iload_n 2, 1) := by decide +kernel
theorem dX8_isSelf_8 : decode cX8_isSelf 8 = .ok (.if_icmp .ne 5, 3) := by decide +kernel
theorem dX8_isSelf_11 : decode cX8_isSelf 11 = .ok (.iconst 1, 1) := by decide +kernel
theorem dX8_isSelf_12 : decode cX8_isSelf 12 = .ok (.ireturn, 1) := by decide +kernel
theorem dX8_isSelf_13 : decode cX8_isSelf 13 = .ok (.aload_n 0, 1) := by decide +kernel
theorem dX8_isSelf_14 : decode cX8_isSelf 14 = .ok (.getfield 13, 3) := by decide +kernel
theorem dX8_isSelf_17 : decode cX8_isSelf 17 = .ok (.iload_n 3, 1) := by decide +kernel
theorem dX8_isSelf_18 : decode cX8_isSelf 18 = .ok (.iaload, 1) := by decide +kernel
theorem dX8_isSelf_19 : decode cX8_isSelf 19 = .ok (.istore_n 3, 1) := by decide +kernel
theorem dX8_isSelf_20 : decode cX8_isSelf 20 = .ok (.goto (-18), 3) := by decide +kernel
theorem dX8_isSelf_23 : decode cX8_isSelf 23 = .ok (.iconst 0, 1) := by decide +kernel
theorem dX8_isSelf_24 : decode cX8_isSelf 24 = .ok (.ireturn, 1) := by decide +kernel
theorem dX8_isFork_0 : decode cX8_isFork 0 = .ok (.iload_n 1, 1) := by decide +kernel
theorem dX8_isFork_1 : decode cX8_isFork 1 = .ok (.iload_n 2, 1) := by decide +kernel
theorem dX8_isFork_2 : decode cX8_isFork 2 = .ok (.if_icmp .eq 40, 3) := by decide +kernel
theorem dX8_isFork_5 : decode cX8_isFork 5 = .ok (.aload_n 0, 1) := by decide +kernel
theorem dX8_isFork_6 : decode cX8_isFork 6 = .ok (.getfield 9, 3) := by decide +kernel
theorem dX8_isFork_9 : decode cX8_isFork 9 = .ok (.iload_n 1, 1) := by decide +kernel
theorem dX8_isFork_10 : decode cX8_isFork 10 = .ok (.iaload, 1) := by decide +kernel
theorem dX8_isFork_11 : decode cX8_isFork 11 = .ok (.aload_n 0, 1) := by decide +kernel
theorem dX8_isFork_12 : decode cX8_isFork 12 = .ok (.getfield 9, 3) := by decide +kernel
theorem dX8_isFork_15 : decode cX8_isFork 15 = .ok (.iload_n 2, 1) := by decide +kernel
theorem dX8_isFork_16 : decode cX8_isFork 16 = .ok (.iaload, 1) := by decide +kernel
theorem dX8_isFork_17 : decode cX8_isFork 17 = .ok (.if_icmp .ne 25, 3) := by decide +kernel
theorem dX8_isFork_20 : decode cX8_isFork 20 = .ok (.aload_n 0, 1) := by decide +kernel
theorem dX8_isFork_21 : decode cX8_isFork 21 = .ok (.iload_n 1, 1) := by decide +kernel
theorem dX8_isFork_22 : decode cX8_isFork 22 = .ok (.iload_n 2, 1) := by decide +kernel
theorem dX8_isFork_23 : decode cX8_isFork 23 = .ok (.invokevirtual 231, 3) := by decide +kernel
theorem dX8_isFork_26 : decode cX8_isFork 26 = .ok (.ifCond .ne 16, 3) := by decide +kernel
theorem dX8_isFork_29 : decode cX8_isFork 29 = .ok (.aload_n 0, 1) := by decide +kernel
theorem dX8_isFork_30 : decode cX8_isFork 30 = .ok (.iload_n 2, 1) := by decide +kernel
theorem dX8_isFork_31 : decode cX8_isFork 31 = .ok (.iload_n 1, 1) := by decide +kernel
theorem dX8_isFork_32 : decode cX8_isFork 32 = .ok (.invokevirtual 231, 3) := by decide +kernel
theorem dX8_isFork_35 : decode cX8_isFork 35 = .ok (.ifCond .ne 7, 3) := by decide +kernel
theorem dX8_isFork_38 : decode cX8_isFork 38 = .ok (.iconst 1, 1) := by decide +kernel
theorem dX8_isFork_39 : decode cX8_isFork 39 = .ok (.goto 4, 3) := by decide +kernel
theorem dX8_isFork_42 : decode cX8_isFork 42 = .ok (.iconst 0, 1) := by decide +kernel
theorem dX8_isFork_43 : decode cX8_isFork 43 = .ok (.ireturn, 1) := by decide +kernel
theorem dX8_isForked_0 : decode cX8_isForked 0 = .ok (.iconst 0, 1) := by decide +kernel
theorem dX8_isForked_1 : decode cX8_isForked 1 = .ok (.istore_n 3, 1) := by decide +kernel
theorem dX8_isForked_2 : decode cX8_isForked 2 = .ok (.iload_n 3, 1) := by decide +kernel
theorem dX8_isForked_3 : decode cX8_isForked 3 = .ok (.iload_n 1, 1) := by decide +kernel
theorem dX8_isForked_4 : decode cX8_isForked 4 = .ok (.if_icmp .gt 91, 3) := by decide +kernel
theorem dX8_isForked_7 : decode cX8_isForked 7 = .ok (.aload_n 0, 1) := by decide +kernel
theorem dX8_isForked_8 : decode cX8_isForked 8 = .ok (.getfield 9, 3) := by decide +kernel
theorem dX8_isForked_11 : decode cX8_isForked 11 = .ok (.iload_n 3, 1) := by decide +kernel
theorem dX8_isForked_12 : decode cX8_isForked 12 = .ok (.iaload, 1) := by decide +kernel
theorem dX8_isForked_13 : decode cX8_isForked 13 = .ok (.iload_n 2, 1) := by decide +kernel
theorem dX8_isForked_14 : decode cX8_isForked 14 = .ok (.if_icmp .ne 75, 3) := by decide +kernel
theorem dX8_isForked_17 : decode cX8_isForked 17 = .ok (.aload_n 0, 1) := by decide +kernel
theorem dX8_isForked_18 : decode cX8_isForked 18 = .ok (.getfield 51, 3) := by decide +kernel
theorem dX8_isForked_21 : decode cX8_isForked 21 = .ok (.sipush 240, 3) := by decide +kernel
theorem dX8_isForked_24 : decode cX8_isForked 24 = .ok (.iload_n 1, 1) := by decide +kernel
theorem dX8_isForked_25 : decode cX8_isForked 25 = .ok (.imul, 1) := by decide +kernel
theorem dX8_isForked_26 : decode cX8_isForked 26 = .ok (.iload_n 3, 1) := by decide +kernel
theorem dX8_isForked_27 : decode cX8_isForked 27 = .ok (.iadd, 1) := by decide +kernel
theorem dX8_isForked_28 : decode cX8_isForked 28 = .ok (.baload, 1) := by decide +kernel
theorem dX8_isForked_29 : decode cX8_isForked 29 = .ok (.ifCond .ne 6, 3) := by decide +kernel
theorem dX8_isForked_32 : decode cX8_isForked 32 = .ok (.goto 57, 3) := by decide +kernel
theorem dX8_isForked_35 : decode cX8_isForked 35 = .ok (.iconst 0, 1) := by decide +kernel
theorem dX8_isForked_36 : decode cX8_isForked 36 = .ok (.istore 4, 2) := by decide +kernel
theorem dX8_isForked_38 : decode cX8_isForked 38 = .ok (.iload 4, 2) := by decide +kernel
theorem dX8_isForked_40 : decode cX8_isForked 40 = .ok (.iload_n 3, 1) := by decide +kernel
theorem dX8_isForked_41 : decode cX8_isForked 41 = .ok (.if_icmp .ge 48, 3) := by decide +kernel
theorem dX8_isForked_44 : decode cX8_isForked 44 = .ok (.aload_n 0, 1) := by decide +kernel
theorem dX8_isForked_45 : decode cX8_isForked 45 = .ok (.getfield 9, 3) := by decide +kernel
theorem dX8_isForked_48 : decode cX8_isForked 48 = .ok (.iload 4, 2) := by decide +kernel
theorem dX8_isForked_50 : decode cX8_isForked 50 = .ok (.iaload, 1) := by decide +kernel
theorem dX8_isForked_51 : decode cX8_isForked 51 = .ok (.iload_n 2, 1) := by decide +kernel
theorem dX8_isForked_52 : decode cX8_isForked 52 = .ok (.if_icmp .ne 31, 3) := by decide +kernel
theorem dX8_isForked_55 : decode cX8_isForked 55 = .ok (.aload_n 0, 1) := by decide +kernel
theorem dX8_isForked_56 : decode cX8_isForked 56 = .ok (.getfield 51, 3) := by decide +kernel
theorem dX8_isForked_59 : decode cX8_isForked 59 = .ok (.sipush 240, 3) := by decide +kernel
theorem dX8_isForked_62 : decode cX8_isForked 62 = .ok (.iload_n 1, 1) := by decide +kernel
theorem dX8_isForked_63 : decode cX8_isForked 63 = .ok (.imul, 1) := by decide +kernel
theorem dX8_isForked_64 : decode cX8_isForked 64 = .ok (.iload 4, 2) := by decide +kernel
theorem dX8_isForked_66 : decode cX8_isForked 66 = .ok (.iadd, 1) := by decide +kernel
theorem dX8_isForked_67 : decode cX8_isForked 67 = .ok (.baload, 1) := by decide +kernel
theorem dX8_isForked_68 : decode cX8_isForked 68 = .ok (.ifCond .eq 15, 3) := by decide +kernel
theorem dX8_isForked_71 : decode cX8_isForked 71 = .ok (.aload_n 0, 1) := by decide +kernel
theorem dX8_isForked_72 : decode cX8_isForked 72 = .ok (.iload_n 3, 1) := by decide +kernel
theorem dX8_isForked_73 : decode cX8_isForked 73 = .ok (.iload 4, 2) := by decide +kernel
theorem dX8_isForked_75 : decode cX8_isForked 75 = .ok (.invokevirtual 234, 3) := by decide +kernel
theorem dX8_isForked_78 : decode cX8_isForked 78 = .ok (.ifCond .eq 5, 3) := by decide +kernel
theorem dX8_isForked_81 : decode cX8_isForked 81 = .ok (.iconst 1, 1) := by decide +kernel
theorem dX8_isForked_82 : decode cX8_isForked 82 = .ok (.ireturn, 1) := by decide +kernel
theorem dX8_isForked_83 : decode cX8_isForked 83 = .ok (.iinc 4 1, 3) := by decide +kernel
theorem dX8_isForked_86 : decode cX8_isForked 86 = .ok (.goto (-48), 3) := by decide +kernel
theorem dX8_isForked_89 : decode cX8_isForked 89 = .ok (.iinc 3 1, 3) := by decide +kernel
theorem dX8_isForked_92 : decode cX8_isForked 92 = .ok (.goto (-90), 3) := by decide +kernel
theorem dX8_isForked_95 : decode cX8_isForked 95 = .ok (.iconst 0, 1) := by decide +kernel
theorem dX8_isForked_96 : decode cX8_isForked 96 = .ok (.ireturn, 1) := by decide +kernel
theorem dX8_sees_0 : decode cX8_sees 0 = .ok (.aload_n 0, 1) := by decide +kernel
theorem dX8_sees_1 : decode cX8_sees 1 = .ok (.getfield 51, 3) := by decide +kernel
theorem dX8_sees_4 : decode cX8_sees 4 = .ok (.sipush 240, 3) := by decide +kernel
theorem dX8_sees_7 : decode cX8_sees 7 = .ok (.iload_n 1, 1) := by decide +kernel
theorem dX8_sees_8 : decode cX8_sees 8 = .ok (.imul, 1) := by decide +kernel
theorem dX8_sees_9 : decode cX8_sees 9 = .ok (.iload_n 2, 1) := by decide +kernel
theorem dX8_sees_10 : decode cX8_sees 10 = .ok (.iadd, 1) := by decide +kernel
theorem dX8_sees_11 : decode cX8_sees 11 = .ok (.baload, 1) := by decide +kernel
theorem dX8_sees_12 : decode cX8_sees 12 = .ok (.ifCond .eq 26, 3) := by decide +kernel
theorem dX8_sees_15 : decode cX8_sees 15 = .ok (.aload_n 0, 1) := by decide +kernel
theorem dX8_sees_16 : decode cX8_sees 16 = .ok (.getfield 58, 3) := by decide +kernel
theorem dX8_sees_19 : decode cX8_sees 19 = .ok (.bipush 8, 2) := by decide +kernel
theorem dX8_sees_21 : decode cX8_sees 21 = .ok (.iload_n 1, 1) := by decide +kernel
theorem dX8_sees_22 : decode cX8_sees 22 = .ok (.imul, 1) := by decide +kernel
theorem dX8_sees_23 : decode cX8_sees 23 = .ok (.aload_n 0, 1) := by decide +kernel
theorem dX8_sees_24 : decode cX8_sees 24 = .ok (.getfield 9, 3) := by decide +kernel
theorem dX8_sees_27 : decode cX8_sees 27 = .ok (.iload_n 2, 1) := by decide +kernel
theorem dX8_sees_28 : decode cX8_sees 28 = .ok (.iaload, 1) := by decide +kernel
theorem dX8_sees_29 : decode cX8_sees 29 = .ok (.iadd, 1) := by decide +kernel
theorem dX8_sees_30 : decode cX8_sees 30 = .ok (.baload, 1) := by decide +kernel
theorem dX8_sees_31 : decode cX8_sees 31 = .ok (.ifCond .ne 7, 3) := by decide +kernel
theorem dX8_sees_34 : decode cX8_sees 34 = .ok (.iconst 1, 1) := by decide +kernel
theorem dX8_sees_35 : decode cX8_sees 35 = .ok (.goto 4, 3) := by decide +kernel
theorem dX8_sees_38 : decode cX8_sees 38 = .ok (.iconst 0, 1) := by decide +kernel
theorem dX8_sees_39 : decode cX8_sees 39 = .ok (.ireturn, 1) := by decide +kernel
theorem dX8_strongly_0 : decode cX8_strongly 0 = .ok (.sipush 240, 3) := by decide +kernel
theorem dX8_strongly_3 : decode cX8_strongly 3 = .ok (.iload_n 1, 1) := by decide +kernel
theorem dX8_strongly_4 : decode cX8_strongly 4 = .ok (.imul, 1) := by decide +kernel
theorem dX8_strongly_5 : decode cX8_strongly 5 = .ok (.iload_n 2, 1) := by decide +kernel
theorem dX8_strongly_6 : decode cX8_strongly 6 = .ok (.iadd, 1) := by decide +kernel
theorem dX8_strongly_7 : decode cX8_strongly 7 = .ok (.istore_n 3, 1) := by decide +kernel
theorem dX8_strongly_8 : decode cX8_strongly 8 = .ok (.aload_n 0, 1) := by decide +kernel
theorem dX8_strongly_9 : decode cX8_strongly 9 = .ok (.getfield 64, 3) := by decide +kernel
theorem dX8_strongly_12 : decode cX8_strongly 12 = .ok (.iload_n 3, 1) := by decide +kernel
theorem dX8_strongly_13 : decode cX8_strongly 13 = .ok (.baload, 1) := by decide +kernel
theorem dX8_strongly_14 : decode cX8_strongly 14 = .ok (.ifCond .ne 85, 3) := by decide +kernel
theorem dX8_strongly_17 : decode cX8_strongly 17 = .ok (.iconst 0, 1) := by decide +kernel
theorem dX8_strongly_18 : decode cX8_strongly 18 = .ok (.istore 4, 2) := by decide +kernel
theorem dX8_strongly_20 : decode cX8_strongly 20 = .ok (.iconst 0, 1) := by decide +kernel
theorem dX8_strongly_21 : decode cX8_strongly 21 = .ok (.istore 5, 2) := by decide +kernel
theorem dX8_strongly_23 : decode cX8_strongly 23 = .ok (.iload 5, 2) := by decide +kernel
theorem dX8_strongly_25 : decode cX8_strongly 25 = .ok (.iload_n 1, 1) := by decide +kernel
theorem dX8_strongly_26 : decode cX8_strongly 26 = .ok (.if_icmp .gt 49, 3) := by decide +kernel
theorem dX8_strongly_29 : decode cX8_strongly 29 = .ok (.aload_n 0, 1) := by decide +kernel
theorem dX8_strongly_30 : decode cX8_strongly 30 = .ok (.iload_n 1, 1) := by decide +kernel
theorem dX8_strongly_31 : decode cX8_strongly 31 = .ok (.iload 5, 2) := by decide +kernel
theorem dX8_strongly_33 : decode cX8_strongly 33 = .ok (.invokevirtual 237, 3) := by decide +kernel
theorem dX8_strongly_36 : decode cX8_strongly 36 = .ok (.ifCond .eq 33, 3) := by decide +kernel
theorem dX8_strongly_39 : decode cX8_strongly 39 = .ok (.iload 5, 2) := by decide +kernel
theorem dX8_strongly_41 : decode cX8_strongly 41 = .ok (.iload_n 2, 1) := by decide +kernel
theorem dX8_strongly_42 : decode cX8_strongly 42 = .ok (.if_icmp .lt 27, 3) := by decide +kernel
theorem dX8_strongly_45 : decode cX8_strongly 45 = .ok (.aload_n 0, 1) := by decide +kernel
theorem dX8_strongly_46 : decode cX8_strongly 46 = .ok (.iload 5, 2) := by decide +kernel
theorem dX8_strongly_48 : decode cX8_strongly 48 = .ok (.iload_n 2, 1) := by decide +kernel
theorem dX8_strongly_49 : decode cX8_strongly 49 = .ok (.invokevirtual 237, 3) := by decide +kernel
theorem dX8_strongly_52 : decode cX8_strongly 52 = .ok (.ifCond .eq 17, 3) := by decide +kernel
theorem dX8_strongly_55 : decode cX8_strongly 55 = .ok (.iload 4, 2) := by decide +kernel
theorem dX8_strongly_57 : decode cX8_strongly 57 = .ok (.iconst 1, 1) := by decide +kernel
theorem dX8_strongly_58 : decode cX8_strongly 58 = .ok (.aload_n 0, 1) := by decide +kernel
theorem dX8_strongly_59 : decode cX8_strongly 59 = .ok (.getfield 9, 3) := by decide +kernel
theorem dX8_strongly_62 : decode cX8_strongly 62 = .ok (.iload 5, 2) := by decide +kernel
theorem dX8_strongly_64 : decode cX8_strongly 64 = .ok (.iaload, 1) := by decide +kernel
theorem dX8_strongly_65 : decode cX8_strongly 65 = .ok (.ishl, 1) := by decide +kernel
theorem dX8_strongly_66 : decode cX8_strongly 66 = .ok (.ior, 1) := by decide +kernel
theorem dX8_strongly_67 : decode cX8_strongly 67 = .ok (.istore 4, 2) := by decide +kernel
theorem dX8_strongly_69 : decode cX8_strongly 69 = .ok (.iinc 5 1, 3) := by decide +kernel
theorem dX8_strongly_72 : decode cX8_strongly 72 = .ok (.goto (-49), 3) := by decide +kernel
theorem dX8_strongly_75 : decode cX8_strongly 75 = .ok (.aload_n 0, 1) := by decide +kernel
theorem dX8_strongly_76 : decode cX8_strongly 76 = .ok (.getfield 64, 3) := by decide +kernel
theorem dX8_strongly_79 : decode cX8_strongly 79 = .ok (.iload_n 3, 1) := by decide +kernel
theorem dX8_strongly_80 : decode cX8_strongly 80 = .ok (.aload_n 0, 1) := by decide +kernel
theorem dX8_strongly_81 : decode cX8_strongly 81 = .ok (.iload 4, 2) := by decide +kernel
theorem dX8_strongly_83 : decode cX8_strongly 83 = .ok (.invokestatic 221, 3) := by decide +kernel
theorem dX8_strongly_86 : decode cX8_strongly 86 = .ok (.invokevirtual 227, 3) := by decide +kernel
theorem dX8_strongly_89 : decode cX8_strongly 89 = .ok (.ifCond .eq 7, 3) := by decide +kernel
theorem dX8_strongly_92 : decode cX8_strongly 92 = .ok (.iconst 2, 1) := by decide +kernel
theorem dX8_strongly_93 : decode cX8_strongly 93 = .ok (.goto 4, 3) := by decide +kernel
theorem dX8_strongly_96 : decode cX8_strongly 96 = .ok (.iconst 1, 1) := by decide +kernel
theorem dX8_strongly_97 : decode cX8_strongly 97 = .ok (.i2b, 1) := by decide +kernel
theorem dX8_strongly_98 : decode cX8_strongly 98 = .ok (.bastore, 1) := by decide +kernel
theorem dX8_strongly_99 : decode cX8_strongly 99 = .ok (.aload_n 0, 1) := by decide +kernel
theorem dX8_strongly_100 : decode cX8_strongly 100 = .ok (.getfield 64, 3) := by decide +kernel
theorem dX8_strongly_103 : decode cX8_strongly 103 = .ok (.iload_n 3, 1) := by decide +kernel
theorem dX8_strongly_104 : decode cX8_strongly 104 = .ok (.baload, 1) := by decide +kernel
theorem dX8_strongly_105 : decode cX8_strongly 105 = .ok (.iconst 2, 1) := by decide +kernel
theorem dX8_strongly_106 : decode cX8_strongly 106 = .ok (.if_icmp .ne 7, 3) := by decide +kernel
theorem dX8_strongly_109 : decode cX8_strongly 109 = .ok (.iconst 1, 1) := by decide +kernel
theorem dX8_strongly_110 : decode cX8_strongly 110 = .ok (.goto 4, 3) := by decide +kernel
theorem dX8_strongly_113 : decode cX8_strongly 113 = .ok (.iconst 0, 1) := by decide +kernel
theorem dX8_strongly_114 : decode cX8_strongly 114 = .ok (.ireturn, 1) := by decide +kernel
theorem dX8_voteOf_0 : decode cX8_voteOf 0 = .ok (.sipush 240, 3) := by decide +kernel
theorem dX8_voteOf_3 : decode cX8_voteOf 3 = .ok (.iload_n 1, 1) := by decide +kernel
theorem dX8_voteOf_4 : decode cX8_voteOf 4 = .ok (.imul, 1) := by decide +kernel
theorem dX8_voteOf_5 : decode cX8_voteOf 5 = .ok (.iload_n 2, 1) := by decide +kernel
theorem dX8_voteOf_6 : decode cX8_voteOf 6 = .ok (.iadd, 1) := by decide +kernel
theorem dX8_voteOf_7 : decode cX8_voteOf 7 = .ok (.istore_n 3, 1) := by decide +kernel
theorem dX8_voteOf_8 : decode cX8_voteOf 8 = .ok (.aload_n 0, 1) := by decide +kernel
theorem dX8_voteOf_9 : decode cX8_voteOf 9 = .ok (.getfield 68, 3) := by decide +kernel
theorem dX8_voteOf_12 : decode cX8_voteOf 12 = .ok (.iload_n 3, 1) := by decide +kernel
theorem dX8_voteOf_13 : decode cX8_voteOf 13 = .ok (.baload, 1) := by decide +kernel
theorem dX8_voteOf_14 : decode cX8_voteOf 14 = .ok (.ifCond .eq 12, 3) := by decide +kernel
theorem dX8_voteOf_17 : decode cX8_voteOf 17 = .ok (.aload_n 0, 1) := by decide +kernel
theorem dX8_voteOf_18 : decode cX8_voteOf 18 = .ok (.getfield 68, 3) := by decide +kernel
theorem dX8_voteOf_21 : decode cX8_voteOf 21 = .ok (.iload_n 3, 1) := by decide +kernel
theorem dX8_voteOf_22 : decode cX8_voteOf 22 = .ok (.baload, 1) := by decide +kernel
theorem dX8_voteOf_23 : decode cX8_voteOf 23 = .ok (.iconst 1, 1) := by decide +kernel
theorem dX8_voteOf_24 : decode cX8_voteOf 24 = .ok (.isub, 1) := by decide +kernel
theorem dX8_voteOf_25 : decode cX8_voteOf 25 = .ok (.ireturn, 1) := by decide +kernel
theorem dX8_voteOf_26 : decode cX8_voteOf 26 = .ok (.aload_n 0, 1) := by decide +kernel
theorem dX8_voteOf_27 : decode cX8_voteOf 27 = .ok (.getfield 28, 3) := by decide +kernel
theorem dX8_voteOf_30 : decode cX8_voteOf 30 = .ok (.iload_n 1, 1) := by decide +kernel
theorem dX8_voteOf_31 : decode cX8_voteOf 31 = .ok (.iaload, 1) := by decide +kernel
theorem dX8_voteOf_32 : decode cX8_voteOf 32 = .ok (.aload_n 0, 1) := by decide +kernel
theorem dX8_voteOf_33 : decode cX8_voteOf 33 = .ok (.getfield 28, 3) := by decide +kernel
theorem dX8_voteOf_36 : decode cX8_voteOf 36 = .ok (.iload_n 2, 1) := by decide +kernel
theorem dX8_voteOf_37 : decode cX8_voteOf 37 = .ok (.iaload, 1) := by decide +kernel
theorem dX8_voteOf_38 : decode cX8_voteOf 38 = .ok (.isub, 1) := by decide +kernel
theorem dX8_voteOf_39 : decode cX8_voteOf 39 = .ok (.istore 4, 2) := by decide +kernel
theorem dX8_voteOf_41 : decode cX8_voteOf 41 = .ok (.iload 4, 2) := by decide +kernel
theorem dX8_voteOf_43 : decode cX8_voteOf 43 = .ok (.iconst 1, 1) := by decide +kernel
theorem dX8_voteOf_44 : decode cX8_voteOf 44 = .ok (.if_icmp .ne 22, 3) := by decide +kernel
theorem dX8_voteOf_47 : decode cX8_voteOf 47 = .ok (.aload_n 0, 1) := by decide +kernel
theorem dX8_voteOf_48 : decode cX8_voteOf 48 = .ok (.iload_n 1, 1) := by decide +kernel
theorem dX8_voteOf_49 : decode cX8_voteOf 49 = .ok (.iload_n 2, 1) := by decide +kernel
theorem dX8_voteOf_50 : decode cX8_voteOf 50 = .ok (.invokevirtual 237, 3) := by decide +kernel
theorem dX8_voteOf_53 : decode cX8_voteOf 53 = .ok (.ifCond .eq 7, 3) := by decide +kernel
theorem dX8_voteOf_56 : decode cX8_voteOf 56 = .ok (.iconst 1, 1) := by decide +kernel
theorem dX8_voteOf_57 : decode cX8_voteOf 57 = .ok (.goto 4, 3) := by decide +kernel
theorem dX8_voteOf_60 : decode cX8_voteOf 60 = .ok (.iconst 0, 1) := by decide +kernel
theorem dX8_voteOf_61 : decode cX8_voteOf 61 = .ok (.istore 5, 2) := by decide +kernel
theorem dX8_voteOf_63 : decode cX8_voteOf 63 = .ok (.goto 171, 3) := by decide +kernel
theorem dX8_voteOf_66 : decode cX8_voteOf 66 = .ok (.iconst 0, 1) := by decide +kernel
theorem dX8_voteOf_67 : decode cX8_voteOf 67 = .ok (.istore 6, 2) := by decide +kernel
theorem dX8_voteOf_69 : decode cX8_voteOf 69 = .ok (.iconst 0, 1) := by decide +kernel
theorem dX8_voteOf_70 : decode cX8_voteOf 70 = .ok (.istore 7, 2) := by decide +kernel
theorem dX8_voteOf_72 : decode cX8_voteOf 72 = .ok (.iconst 0, 1) := by decide +kernel
theorem dX8_voteOf_73 : decode cX8_voteOf 73 = .ok (.istore 8, 2) := by decide +kernel
theorem dX8_voteOf_75 : decode cX8_voteOf 75 = .ok (.iload 8, 2) := by decide +kernel
theorem dX8_voteOf_77 : decode cX8_voteOf 77 = .ok (.iload_n 1, 1) := by decide +kernel
theorem dX8_voteOf_78 : decode cX8_voteOf 78 = .ok (.if_icmp .ge 72, 3) := by decide +kernel
theorem dX8_voteOf_81 : decode cX8_voteOf 81 = .ok (.aload_n 0, 1) := by decide +kernel
theorem dX8_voteOf_82 : decode cX8_voteOf 82 = .ok (.getfield 61, 3) := by decide +kernel
theorem dX8_voteOf_85 : decode cX8_voteOf 85 = .ok (.iload 8, 2) := by decide +kernel
theorem dX8_voteOf_87 : decode cX8_voteOf 87 = .ok (.baload, 1) := by decide +kernel
theorem dX8_voteOf_88 : decode cX8_voteOf 88 = .ok (.ifCond .eq 56, 3) := by decide +kernel
theorem dX8_voteOf_91 : decode cX8_voteOf 91 = .ok (.aload_n 0, 1) := by decide +kernel
theorem dX8_voteOf_92 : decode cX8_voteOf 92 = .ok (.getfield 28, 3) := by decide +kernel
theorem dX8_voteOf_95 : decode cX8_voteOf 95 = .ok (.iload 8, 2) := by decide +kernel
theorem dX8_voteOf_97 : decode cX8_voteOf 97 = .ok (.iaload, 1) := by decide +kernel
theorem dX8_voteOf_98 : decode cX8_voteOf 98 = .ok (.aload_n 0, 1) := by decide +kernel
theorem dX8_voteOf_99 : decode cX8_voteOf 99 = .ok (.getfield 28, 3) := by decide +kernel
theorem dX8_voteOf_102 : decode cX8_voteOf 102 = .ok (.iload_n 1, 1) := by decide +kernel
theorem dX8_voteOf_103 : decode cX8_voteOf 103 = .ok (.iaload, 1) := by decide +kernel
theorem dX8_voteOf_104 : decode cX8_voteOf 104 = .ok (.iconst 1, 1) := by decide +kernel
theorem dX8_voteOf_105 : decode cX8_voteOf 105 = .ok (.isub, 1) := by decide +kernel
theorem dX8_voteOf_106 : decode cX8_voteOf 106 = .ok (.if_icmp .ne 38, 3) := by decide +kernel
theorem dX8_voteOf_109 : decode cX8_voteOf 109 = .ok (.aload_n 0, 1) := by decide +kernel
theorem dX8_voteOf_110 : decode cX8_voteOf 110 = .ok (.iload_n 1, 1) := by decide +kernel
theorem dX8_voteOf_111 : decode cX8_voteOf 111 = .ok (.iload 8, 2) := by decide +kernel
theorem dX8_voteOf_113 : decode cX8_voteOf 113 = .ok (.invokevirtual 218, 3) := by decide +kernel
theorem dX8_voteOf_116 : decode cX8_voteOf 116 = .ok (.ifCond .ne 6, 3) := by decide +kernel
theorem dX8_voteOf_119 : decode cX8_voteOf 119 = .ok (.goto 25, 3) := by decide +kernel
theorem dX8_voteOf_122 : decode cX8_voteOf 122 = .ok (.aload_n 0, 1) := by decide +kernel
theorem dX8_voteOf_123 : decode cX8_voteOf 123 = .ok (.iload 8, 2) := by decide +kernel
theorem dX8_voteOf_125 : decode cX8_voteOf 125 = .ok (.iload_n 2, 1) := by decide +kernel
theorem dX8_voteOf_126 : decode cX8_voteOf 126 = .ok (.invokevirtual 240, 3) := by decide +kernel
theorem dX8_voteOf_129 : decode cX8_voteOf 129 = .ok (.iconst 1, 1) := by decide +kernel
theorem dX8_voteOf_130 : decode cX8_voteOf 130 = .ok (.iand, 1) := by decide +kernel
theorem dX8_voteOf_131 : decode cX8_voteOf 131 = .ok (.iconst 1, 1) := by decide +kernel
theorem dX8_voteOf_132 : decode cX8_voteOf 132 = .ok (.if_icmp .ne 9, 3) := by decide +kernel
theorem dX8_voteOf_135 : decode cX8_voteOf 135 = .ok (.iinc 6 1, 3) := by decide +kernel
theorem dX8_voteOf_138 : decode cX8_voteOf 138 = .ok (.goto 6, 3) := by decide +kernel
theorem dX8_voteOf_141 : decode cX8_voteOf 141 = .ok (.iinc 7 1, 3) := by decide +kernel
theorem dX8_voteOf_144 : decode cX8_voteOf 144 = .ok (.iinc 8 1, 3) := by decide +kernel
theorem dX8_voteOf_147 : decode cX8_voteOf 147 = .ok (.goto (-72), 3) := by decide +kernel
theorem dX8_voteOf_150 : decode cX8_voteOf 150 = .ok (.iload 6, 2) := by decide +kernel
theorem dX8_voteOf_152 : decode cX8_voteOf 152 = .ok (.iload 7, 2) := by decide +kernel
theorem dX8_voteOf_154 : decode cX8_voteOf 154 = .ok (.if_icmp .lt 7, 3) := by decide +kernel
theorem dX8_voteOf_157 : decode cX8_voteOf 157 = .ok (.iconst 1, 1) := by decide +kernel
theorem dX8_voteOf_158 : decode cX8_voteOf 158 = .ok (.goto 4, 3) := by decide +kernel
theorem dX8_voteOf_161 : decode cX8_voteOf 161 = .ok (.iconst 0, 1) := by decide +kernel
theorem dX8_voteOf_162 : decode cX8_voteOf 162 = .ok (.istore 5, 2) := by decide +kernel
theorem dX8_voteOf_164 : decode cX8_voteOf 164 = .ok (.aload_n 0, 1) := by decide +kernel
theorem dX8_voteOf_165 : decode cX8_voteOf 165 = .ok (.iload 5, 2) := by decide +kernel
theorem dX8_voteOf_167 : decode cX8_voteOf 167 = .ok (.iconst 1, 1) := by decide +kernel
theorem dX8_voteOf_168 : decode cX8_voteOf 168 = .ok (.if_icmp .ne 8, 3) := by decide +kernel
theorem dX8_voteOf_171 : decode cX8_voteOf 171 = .ok (.iload 6, 2) := by decide +kernel
theorem dX8_voteOf_173 : decode cX8_voteOf 173 = .ok (.goto 5, 3) := by decide +kernel
theorem dX8_voteOf_176 : decode cX8_voteOf 176 = .ok (.iload 7, 2) := by decide +kernel
theorem dX8_voteOf_178 : decode cX8_voteOf 178 = .ok (.invokevirtual 227, 3) := by decide +kernel
theorem dX8_voteOf_181 : decode cX8_voteOf 181 = .ok (.istore 8, 2) := by decide +kernel
theorem dX8_voteOf_183 : decode cX8_voteOf 183 = .ok (.iload 4, 2) := by decide +kernel
theorem dX8_voteOf_185 : decode cX8_voteOf 185 = .ok (.iconst 4, 1) := by decide +kernel
theorem dX8_voteOf_186 : decode cX8_voteOf 186 = .ok (.irem, 1) := by decide +kernel
theorem dX8_voteOf_187 : decode cX8_voteOf 187 = .ok (.ifCond .eq 21, 3) := by decide +kernel
theorem dX8_voteOf_190 : decode cX8_voteOf 190 = .ok (.iload 5, 2) := by decide +kernel
theorem dX8_voteOf_192 : decode cX8_voteOf 192 = .ok (.iload 8, 2) := by decide +kernel
theorem dX8_voteOf_194 : decode cX8_voteOf 194 = .ok (.ifCond .eq 7, 3) := by decide +kernel
theorem dX8_voteOf_197 : decode cX8_voteOf 197 = .ok (.iconst 2, 1) := by decide +kernel
theorem dX8_voteOf_198 : decode cX8_voteOf 198 = .ok (.goto 4, 3) := by decide +kernel
theorem dX8_voteOf_201 : decode cX8_voteOf 201 = .ok (.iconst 0, 1) := by decide +kernel
theorem dX8_voteOf_202 : decode cX8_voteOf 202 = .ok (.iadd, 1) := by decide +kernel
theorem dX8_voteOf_203 : decode cX8_voteOf 203 = .ok (.istore 5, 2) := by decide +kernel
theorem dX8_voteOf_205 : decode cX8_voteOf 205 = .ok (.goto 29, 3) := by decide +kernel
theorem dX8_voteOf_208 : decode cX8_voteOf 208 = .ok (.iload 8, 2) := by decide +kernel
theorem dX8_voteOf_210 : decode cX8_voteOf 210 = .ok (.ifCond .ne 24, 3) := by decide +kernel
theorem dX8_voteOf_213 : decode cX8_voteOf 213 = .ok (.aload_n 0, 1) := by decide +kernel
theorem dX8_voteOf_214 : decode cX8_voteOf 214 = .ok (.getfield 31, 3) := by decide +kernel
theorem dX8_voteOf_217 : decode cX8_voteOf 217 = .ok (.bipush 8, 2) := by decide +kernel
theorem dX8_voteOf_219 : decode cX8_voteOf 219 = .ok (.iload_n 1, 1) := by decide +kernel
theorem dX8_voteOf_220 : decode cX8_voteOf 220 = .ok (.imul, 1) := by decide +kernel
theorem dX8_voteOf_221 : decode cX8_voteOf 221 = .ok (.iconst 4, 1) := by decide +kernel
theorem dX8_voteOf_222 : decode cX8_voteOf 222 = .ok (.iadd, 1) := by decide +kernel
theorem dX8_voteOf_223 : decode cX8_voteOf 223 = .ok (.iaload, 1) := by decide +kernel
theorem dX8_voteOf_224 : decode cX8_voteOf 224 = .ok (.ifCond .ge 7, 3) := by decide +kernel
theorem dX8_voteOf_227 : decode cX8_voteOf 227 = .ok (.iconst 1, 1) := by decide +kernel
theorem dX8_voteOf_228 : decode cX8_voteOf 228 = .ok (.goto 4, 3) := by decide +kernel
theorem dX8_voteOf_231 : decode cX8_voteOf 231 = .ok (.iconst 0, 1) := by decide +kernel
theorem dX8_voteOf_232 : decode cX8_voteOf 232 = .ok (.istore 5, 2) := by decide +kernel
theorem dX8_voteOf_234 : decode cX8_voteOf 234 = .ok (.aload_n 0, 1) := by decide +kernel
theorem dX8_voteOf_235 : decode cX8_voteOf 235 = .ok (.getfield 68, 3) := by decide +kernel
theorem dX8_voteOf_238 : decode cX8_voteOf 238 = .ok (.iload_n 3, 1) := by decide +kernel
theorem dX8_voteOf_239 : decode cX8_voteOf 239 = .ok (.iload 5, 2) := by decide +kernel
theorem dX8_voteOf_241 : decode cX8_voteOf 241 = .ok (.iconst 1, 1) := by decide +kernel
theorem dX8_voteOf_242 : decode cX8_voteOf 242 = .ok (.iadd, 1) := by decide +kernel
theorem dX8_voteOf_243 : decode cX8_voteOf 243 = .ok (.i2b, 1) := by decide +kernel
theorem dX8_voteOf_244 : decode cX8_voteOf 244 = .ok (.bastore, 1) := by decide +kernel
theorem dX8_voteOf_245 : decode cX8_voteOf 245 = .ok (.iload 5, 2) := by decide +kernel
theorem dX8_voteOf_247 : decode cX8_voteOf 247 = .ok (.ireturn, 1) := by decide +kernel
theorem dX8_octet_0 : decode cX8_octet 0 = .ok (.aload_n 0, 1) := by decide +kernel
theorem dX8_octet_1 : decode cX8_octet 1 = .ok (.getfield 99, 3) := by decide +kernel
theorem dX8_octet_4 : decode cX8_octet 4 = .ok (.aload_n 0, 1) := by decide +kernel
theorem dX8_octet_5 : decode cX8_octet 5 = .ok (.dup, 1) := by decide +kernel
theorem dX8_octet_6 : decode cX8_octet 6 = .ok (.getfield 244, 3) := by decide +kernel
theorem dX8_octet_9 : decode cX8_octet 9 = .ok (.dup_x1, 1) := by decide +kernel
theorem dX8_octet_10 : decode cX8_octet 10 = .ok (.iconst 1, 1) := by decide +kernel
theorem dX8_octet_11 : decode cX8_octet 11 = .ok (.iadd, 1) := by decide +kernel
theorem dX8_octet_12 : decode cX8_octet 12 = .ok (.putfield 244, 3) := by decide +kernel
theorem dX8_octet_15 : decode cX8_octet 15 = .ok (.iload_n 1, 1) := by decide +kernel
theorem dX8_octet_16 : decode cX8_octet 16 = .ok (.sipush 255, 3) := by decide +kernel
theorem dX8_octet_19 : decode cX8_octet 19 = .ok (.iand, 1) := by decide +kernel
theorem dX8_octet_20 : decode cX8_octet 20 = .ok (.iastore, 1) := by decide +kernel
theorem dX8_octet_21 : decode cX8_octet 21 = .ok (.return_, 1) := by decide +kernel
theorem dX8_four_0 : decode cX8_four 0 = .ok (.bipush 24, 2) := by decide +kernel
theorem dX8_four_2 : decode cX8_four 2 = .ok (.istore_n 2, 1) := by decide +kernel
theorem dX8_four_3 : decode cX8_four 3 = .ok (.iload_n 2, 1) := by decide +kernel
theorem dX8_four_4 : decode cX8_four 4 = .ok (.ifCond .lt 16, 3) := by decide +kernel
theorem dX8_four_7 : decode cX8_four 7 = .ok (.aload_n 0, 1) := by decide +kernel
theorem dX8_four_8 : decode cX8_four 8 = .ok (.iload_n 1, 1) := by decide +kernel
theorem dX8_four_9 : decode cX8_four 9 = .ok (.iload_n 2, 1) := by decide +kernel
theorem dX8_four_10 : decode cX8_four 10 = .ok (.ishr, 1) := by decide +kernel
theorem dX8_four_11 : decode cX8_four 11 = .ok (.invokevirtual 247, 3) := by decide +kernel
theorem dX8_four_14 : decode cX8_four 14 = .ok (.iinc 2 (-8), 3) := by decide +kernel
theorem dX8_four_17 : decode cX8_four 17 = .ok (.goto (-14), 3) := by decide +kernel
theorem dX8_four_20 : decode cX8_four 20 = .ok (.return_, 1) := by decide +kernel
theorem dX8_hash_0 : decode cX8_hash 0 = .ok (.aload_n 0, 1) := by decide +kernel
theorem dX8_hash_1 : decode cX8_hash 1 = .ok (.iconst 0, 1) := by decide +kernel
theorem dX8_hash_2 : decode cX8_hash 2 = .ok (.putfield 244, 3) := by decide +kernel
theorem dX8_hash_5 : decode cX8_hash 5 = .ok (.aload_n 0, 1) := by decide +kernel
theorem dX8_hash_6 : decode cX8_hash 6 = .ok (.aload_n 0, 1) := by decide +kernel
theorem dX8_hash_7 : decode cX8_hash 7 = .ok (.getfield 9, 3) := by decide +kernel
theorem dX8_hash_10 : decode cX8_hash 10 = .ok (.iload_n 1, 1) := by decide +kernel
theorem dX8_hash_11 : decode cX8_hash 11 = .ok (.iaload, 1) := by decide +kernel
theorem dX8_hash_12 : decode cX8_hash 12 = .ok (.invokevirtual 247, 3) := by decide +kernel
theorem dX8_hash_15 : decode cX8_hash 15 = .ok (.iconst 0, 1) := by decide +kernel
theorem dX8_hash_16 : decode cX8_hash 16 = .ok (.istore_n 2, 1) := by decide +kernel
theorem dX8_hash_17 : decode cX8_hash 17 = .ok (.iload_n 2, 1) := by decide +kernel
theorem dX8_hash_18 : decode cX8_hash 18 = .ok (.bipush 8, 2) := by decide +kernel
theorem dX8_hash_20 : decode cX8_hash 20 = .ok (.if_icmp .ge 42, 3) := by decide +kernel
theorem dX8_hash_23 : decode cX8_hash 23 = .ok (.aload_n 0, 1) := by decide +kernel
theorem dX8_hash_24 : decode cX8_hash 24 = .ok (.aload_n 0, 1) := by decide +kernel
theorem dX8_hash_25 : decode cX8_hash 25 = .ok (.getfield 13, 3) := by decide +kernel
theorem dX8_hash_28 : decode cX8_hash 28 = .ok (.iload_n 1, 1) := by decide +kernel
theorem dX8_hash_29 : decode cX8_hash 29 = .ok (.iaload, 1) := by decide +kernel
theorem dX8_hash_30 : decode cX8_hash 30 = .ok (.ifCond .ge 7, 3) := by decide +kernel
theorem dX8_hash_33 : decode cX8_hash 33 = .ok (.iconst 0, 1) := by decide +kernel
theorem dX8_hash_34 : decode cX8_hash 34 = .ok (.goto 19, 3) := by decide +kernel
theorem dX8_hash_37 : decode cX8_hash 37 = .ok (.aload_n 0, 1) := by decide +kernel
theorem dX8_hash_38 : decode cX8_hash 38 = .ok (.getfield 31, 3) := by decide +kernel
theorem dX8_hash_41 : decode cX8_hash 41 = .ok (.bipush 8, 2) := by decide +kernel
theorem dX8_hash_43 : decode cX8_hash 43 = .ok (.aload_n 0, 1) := by decide +kernel
theorem dX8_hash_44 : decode cX8_hash 44 = .ok (.getfield 13, 3) := by decide +kernel
theorem dX8_hash_47 : decode cX8_hash 47 = .ok (.iload_n 1, 1) := by decide +kernel
theorem dX8_hash_48 : decode cX8_hash 48 = .ok (.iaload, 1) := by decide +kernel
theorem dX8_hash_49 : decode cX8_hash 49 = .ok (.imul, 1) := by decide +kernel
theorem dX8_hash_50 : decode cX8_hash 50 = .ok (.iload_n 2, 1) := by decide +kernel
theorem dX8_hash_51 : decode cX8_hash 51 = .ok (.iadd, 1) := by decide +kernel
theorem dX8_hash_52 : decode cX8_hash 52 = .ok (.iaload, 1) := by decide +kernel
theorem dX8_hash_53 : decode cX8_hash 53 = .ok (.invokevirtual 250, 3) := by decide +kernel
theorem dX8_hash_56 : decode cX8_hash 56 = .ok (.iinc 2 1, 3) := by decide +kernel
theorem dX8_hash_59 : decode cX8_hash 59 = .ok (.goto (-42), 3) := by decide +kernel
theorem dX8_hash_62 : decode cX8_hash 62 = .ok (.iconst 0, 1) := by decide +kernel
theorem dX8_hash_63 : decode cX8_hash 63 = .ok (.istore_n 2, 1) := by decide +kernel
theorem dX8_hash_64 : decode cX8_hash 64 = .ok (.iload_n 2, 1) := by decide +kernel
theorem dX8_hash_65 : decode cX8_hash 65 = .ok (.bipush 8, 2) := by decide +kernel
theorem dX8_hash_67 : decode cX8_hash 67 = .ok (.if_icmp .ge 42, 3) := by decide +kernel
theorem dX8_hash_70 : decode cX8_hash 70 = .ok (.aload_n 0, 1) := by decide +kernel
theorem dX8_hash_71 : decode cX8_hash 71 = .ok (.aload_n 0, 1) := by decide +kernel
theorem dX8_hash_72 : decode cX8_hash 72 = .ok (.getfield 16, 3) := by decide +kernel
theorem dX8_hash_75 : decode cX8_hash 75 = .ok (.iload_n 1, 1) := by decide +kernel
theorem dX8_hash_76 : decode cX8_hash 76 = .ok (.iaload, 1) := by decide +kernel
theorem dX8_hash_77 : decode cX8_hash 77 = .ok (.ifCond .ge 7, 3) := by decide +kernel
theorem dX8_hash_80 : decode cX8_hash 80 = .ok (.iconst 0, 1) := by decide +kernel
theorem dX8_hash_81 : decode cX8_hash 81 = .ok (.goto 19, 3) := by decide +kernel
theorem dX8_hash_84 : decode cX8_hash 84 = .ok (.aload_n 0, 1) := by decide +kernel
theorem dX8_hash_85 : decode cX8_hash 85 = .ok (.getfield 31, 3) := by decide +kernel
theorem dX8_hash_88 : decode cX8_hash 88 = .ok (.bipush 8, 2) := by decide +kernel
theorem dX8_hash_90 : decode cX8_hash 90 = .ok (.aload_n 0, 1) := by decide +kernel
theorem dX8_hash_91 : decode cX8_hash 91 = .ok (.getfield 16, 3) := by decide +kernel
theorem dX8_hash_94 : decode cX8_hash 94 = .ok (.iload_n 1, 1) := by decide +kernel
theorem dX8_hash_95 : decode cX8_hash 95 = .ok (.iaload, 1) := by decide +kernel
theorem dX8_hash_96 : decode cX8_hash 96 = .ok (.imul, 1) := by decide +kernel
theorem dX8_hash_97 : decode cX8_hash 97 = .ok (.iload_n 2, 1) := by decide +kernel
theorem dX8_hash_98 : decode cX8_hash 98 = .ok (.iadd, 1) := by decide +kernel
theorem dX8_hash_99 : decode cX8_hash 99 = .ok (.iaload, 1) := by decide +kernel
theorem dX8_hash_100 : decode cX8_hash 100 = .ok (.invokevirtual 250, 3) := by decide +kernel
theorem dX8_hash_103 : decode cX8_hash 103 = .ok (.iinc 2 1, 3) := by decide +kernel
theorem dX8_hash_106 : decode cX8_hash 106 = .ok (.goto (-42), 3) := by decide +kernel
theorem dX8_hash_109 : decode cX8_hash 109 = .ok (.aload_n 0, 1) := by decide +kernel
theorem dX8_hash_110 : decode cX8_hash 110 = .ok (.aload_n 0, 1) := by decide +kernel
theorem dX8_hash_111 : decode cX8_hash 111 = .ok (.getfield 46, 3) := by decide +kernel
theorem dX8_hash_114 : decode cX8_hash 114 = .ok (.iload_n 1, 1) := by decide +kernel
theorem dX8_hash_115 : decode cX8_hash 115 = .ok (.laload, 1) := by decide +kernel
theorem dX8_hash_116 : decode cX8_hash 116 = .ok (.bipush 32, 2) := by decide +kernel
theorem dX8_hash_118 : decode cX8_hash 118 = .ok (.lshr, 1) := by decide +kernel
theorem dX8_hash_119 : decode cX8_hash 119 = .ok (.l2i, 1) := by decide +kernel
theorem dX8_hash_120 : decode cX8_hash 120 = .ok (.invokevirtual 250, 3) := by decide +kernel
theorem dX8_hash_123 : decode cX8_hash 123 = .ok (.aload_n 0, 1) := by decide +kernel
theorem dX8_hash_124 : decode cX8_hash 124 = .ok (.aload_n 0, 1) := by decide +kernel
theorem dX8_hash_125 : decode cX8_hash 125 = .ok (.getfield 46, 3) := by decide +kernel
theorem dX8_hash_128 : decode cX8_hash 128 = .ok (.iload_n 1, 1) := by decide +kernel
theorem dX8_hash_129 : decode cX8_hash 129 = .ok (.laload, 1) := by decide +kernel
theorem dX8_hash_130 : decode cX8_hash 130 = .ok (.l2i, 1) := by decide +kernel
theorem dX8_hash_131 : decode cX8_hash 131 = .ok (.invokevirtual 250, 3) := by decide +kernel
theorem dX8_hash_134 : decode cX8_hash 134 = .ok (.aload_n 0, 1) := by decide +kernel
theorem dX8_hash_135 : decode cX8_hash 135 = .ok (.aload_n 0, 1) := by decide +kernel
theorem dX8_hash_136 : decode cX8_hash 136 = .ok (.getfield 19, 3) := by decide +kernel
theorem dX8_hash_139 : decode cX8_hash 139 = .ok (.iload_n 1, 1) := by decide +kernel
theorem dX8_hash_140 : decode cX8_hash 140 = .ok (.iaload, 1) := by decide +kernel
theorem dX8_hash_141 : decode cX8_hash 141 = .ok (.invokevirtual 247, 3) := by decide +kernel
theorem dX8_hash_144 : decode cX8_hash 144 = .ok (.iconst 0, 1) := by decide +kernel
theorem dX8_hash_145 : decode cX8_hash 145 = .ok (.istore_n 2, 1) := by decide +kernel
theorem dX8_hash_146 : decode cX8_hash 146 = .ok (.iload_n 2, 1) := by decide +kernel
theorem dX8_hash_147 : decode cX8_hash 147 = .ok (.aload_n 0, 1) := by decide +kernel
theorem dX8_hash_148 : decode cX8_hash 148 = .ok (.getfield 19, 3) := by decide +kernel
theorem dX8_hash_151 : decode cX8_hash 151 = .ok (.iload_n 1, 1) := by decide +kernel
theorem dX8_hash_152 : decode cX8_hash 152 = .ok (.iaload, 1) := by decide +kernel
theorem dX8_hash_153 : decode cX8_hash 153 = .ok (.if_icmp .ge 37, 3) := by decide +kernel
theorem dX8_hash_156 : decode cX8_hash 156 = .ok (.aload_n 0, 1) := by decide +kernel
theorem dX8_hash_157 : decode cX8_hash 157 = .ok (.aload_n 0, 1) := by decide +kernel
theorem dX8_hash_158 : decode cX8_hash 158 = .ok (.getfield 22, 3) := by decide +kernel
theorem dX8_hash_161 : decode cX8_hash 161 = .ok (.iconst 3, 1) := by decide +kernel
theorem dX8_hash_162 : decode cX8_hash 162 = .ok (.iload_n 1, 1) := by decide +kernel
theorem dX8_hash_163 : decode cX8_hash 163 = .ok (.imul, 1) := by decide +kernel
theorem dX8_hash_164 : decode cX8_hash 164 = .ok (.iload_n 2, 1) := by decide +kernel
theorem dX8_hash_165 : decode cX8_hash 165 = .ok (.iadd, 1) := by decide +kernel
theorem dX8_hash_166 : decode cX8_hash 166 = .ok (.iaload, 1) := by decide +kernel
theorem dX8_hash_167 : decode cX8_hash 167 = .ok (.invokevirtual 247, 3) := by decide +kernel
theorem dX8_hash_170 : decode cX8_hash 170 = .ok (.aload_n 0, 1) := by decide +kernel
theorem dX8_hash_171 : decode cX8_hash 171 = .ok (.aload_n 0, 1) := by decide +kernel
theorem dX8_hash_172 : decode cX8_hash 172 = .ok (.getfield 25, 3) := by decide +kernel
theorem dX8_hash_175 : decode cX8_hash 175 = .ok (.iconst 3, 1) := by decide +kernel
theorem dX8_hash_176 : decode cX8_hash 176 = .ok (.iload_n 1, 1) := by decide +kernel
theorem dX8_hash_177 : decode cX8_hash 177 = .ok (.imul, 1) := by decide +kernel
theorem dX8_hash_178 : decode cX8_hash 178 = .ok (.iload_n 2, 1) := by decide +kernel
theorem dX8_hash_179 : decode cX8_hash 179 = .ok (.iadd, 1) := by decide +kernel
theorem dX8_hash_180 : decode cX8_hash 180 = .ok (.iaload, 1) := by decide +kernel
theorem dX8_hash_181 : decode cX8_hash 181 = .ok (.invokevirtual 250, 3) := by decide +kernel
theorem dX8_hash_184 : decode cX8_hash 184 = .ok (.iinc 2 1, 3) := by decide +kernel
theorem dX8_hash_187 : decode cX8_hash 187 = .ok (.goto (-41), 3) := by decide +kernel
theorem dX8_hash_190 : decode cX8_hash 190 = .ok (.bipush 8, 2) := by decide +kernel
theorem dX8_hash_192 : decode cX8_hash 192 = .ok (.aload_n 0, 1) := by decide +kernel
theorem dX8_hash_193 : decode cX8_hash 193 = .ok (.getfield 244, 3) := by decide +kernel
theorem dX8_hash_196 : decode cX8_hash 196 = .ok (.imul, 1) := by decide +kernel
theorem dX8_hash_197 : decode cX8_hash 197 = .ok (.istore_n 2, 1) := by decide +kernel
theorem dX8_hash_198 : decode cX8_hash 198 = .ok (.aload_n 0, 1) := by decide +kernel
theorem dX8_hash_199 : decode cX8_hash 199 = .ok (.sipush 128, 3) := by decide +kernel
theorem dX8_hash_202 : decode cX8_hash 202 = .ok (.invokevirtual 247, 3) := by decide +kernel
theorem dX8_hash_205 : decode cX8_hash 205 = .ok (.aload_n 0, 1) := by decide +kernel
theorem dX8_hash_206 : decode cX8_hash 206 = .ok (.getfield 244, 3) := by decide +kernel
theorem dX8_hash_209 : decode cX8_hash 209 = .ok (.bipush 124, 2) := by decide +kernel
theorem dX8_hash_211 : decode cX8_hash 211 = .ok (.if_icmp .ge 11, 3) := by decide +kernel
theorem dX8_hash_214 : decode cX8_hash 214 = .ok (.aload_n 0, 1) := by decide +kernel
theorem dX8_hash_215 : decode cX8_hash 215 = .ok (.iconst 0, 1) := by decide +kernel
theorem dX8_hash_216 : decode cX8_hash 216 = .ok (.invokevirtual 247, 3) := by decide +kernel
theorem dX8_hash_219 : decode cX8_hash 219 = .ok (.goto (-14), 3) := by decide +kernel
theorem dX8_hash_222 : decode cX8_hash 222 = .ok (.aload_n 0, 1) := by decide +kernel
theorem dX8_hash_223 : decode cX8_hash 223 = .ok (.iload_n 2, 1) := by decide +kernel
theorem dX8_hash_224 : decode cX8_hash 224 = .ok (.invokevirtual 250, 3) := by decide +kernel
theorem dX8_hash_227 : decode cX8_hash 227 = .ok (.iconst 0, 1) := by decide +kernel
theorem dX8_hash_228 : decode cX8_hash 228 = .ok (.istore_n 3, 1) := by decide +kernel
theorem dX8_hash_229 : decode cX8_hash 229 = .ok (.iload_n 3, 1) := by decide +kernel
theorem dX8_hash_230 : decode cX8_hash 230 = .ok (.bipush 8, 2) := by decide +kernel
theorem dX8_hash_232 : decode cX8_hash 232 = .ok (.if_icmp .ge 21, 3) := by decide +kernel
theorem dX8_hash_235 : decode cX8_hash 235 = .ok (.aload_n 0, 1) := by decide +kernel
theorem dX8_hash_236 : decode cX8_hash 236 = .ok (.getfield 172, 3) := by decide +kernel
theorem dX8_hash_239 : decode cX8_hash 239 = .ok (.iload_n 3, 1) := by decide +kernel
theorem dX8_hash_240 : decode cX8_hash 240 = .ok (.aload_n 0, 1) := by decide +kernel
theorem dX8_hash_241 : decode cX8_hash 241 = .ok (.getfield 183, 3) := by decide +kernel
theorem dX8_hash_244 : decode cX8_hash 244 = .ok (.iload_n 3, 1) := by decide +kernel
theorem dX8_hash_245 : decode cX8_hash 245 = .ok (.iaload, 1) := by decide +kernel
theorem dX8_hash_246 : decode cX8_hash 246 = .ok (.iastore, 1) := by decide +kernel
theorem dX8_hash_247 : decode cX8_hash 247 = .ok (.iinc 3 1, 3) := by decide +kernel
theorem dX8_hash_250 : decode cX8_hash 250 = .ok (.goto (-21), 3) := by decide +kernel
theorem dX8_hash_253 : decode cX8_hash 253 = .ok (.iconst 0, 1) := by decide +kernel
theorem dX8_hash_254 : decode cX8_hash 254 = .ok (.istore_n 3, 1) := by decide +kernel
theorem dX8_hash_255 : decode cX8_hash 255 = .ok (.iload_n 3, 1) := by decide +kernel
theorem dX8_hash_256 : decode cX8_hash 256 = .ok (.sipush 128, 3) := by decide +kernel
theorem dX8_hash_259 : decode cX8_hash 259 = .ok (.if_icmp .ge 14, 3) := by decide +kernel
theorem dX8_hash_262 : decode cX8_hash 262 = .ok (.aload_n 0, 1) := by decide +kernel
theorem dX8_hash_263 : decode cX8_hash 263 = .ok (.iload_n 3, 1) := by decide +kernel
theorem dX8_hash_264 : decode cX8_hash 264 = .ok (.invokevirtual 253, 3) := by decide +kernel
theorem dX8_hash_267 : decode cX8_hash 267 = .ok (.iinc 3 64, 3) := by decide +kernel
theorem dX8_hash_270 : decode cX8_hash 270 = .ok (.goto (-15), 3) := by decide +kernel
theorem dX8_hash_273 : decode cX8_hash 273 = .ok (.iconst 0, 1) := by decide +kernel
theorem dX8_hash_274 : decode cX8_hash 274 = .ok (.istore_n 3, 1) := by decide +kernel
theorem dX8_hash_275 : decode cX8_hash 275 = .ok (.iload_n 3, 1) := by decide +kernel
theorem dX8_hash_276 : decode cX8_hash 276 = .ok (.bipush 8, 2) := by decide +kernel
theorem dX8_hash_278 : decode cX8_hash 278 = .ok (.if_icmp .ge 26, 3) := by decide +kernel
theorem dX8_hash_281 : decode cX8_hash 281 = .ok (.aload_n 0, 1) := by decide +kernel
theorem dX8_hash_282 : decode cX8_hash 282 = .ok (.getfield 31, 3) := by decide +kernel
theorem dX8_hash_285 : decode cX8_hash 285 = .ok (.bipush 8, 2) := by decide +kernel
theorem dX8_hash_287 : decode cX8_hash 287 = .ok (.iload_n 1, 1) := by decide +kernel
theorem dX8_hash_288 : decode cX8_hash 288 = .ok (.imul, 1) := by decide +kernel
theorem dX8_hash_289 : decode cX8_hash 289 = .ok (.iload_n 3, 1) := by decide +kernel
theorem dX8_hash_290 : decode cX8_hash 290 = .ok (.iadd, 1) := by decide +kernel
theorem dX8_hash_291 : decode cX8_hash 291 = .ok (.aload_n 0, 1) := by decide +kernel
theorem dX8_hash_292 : decode cX8_hash 292 = .ok (.getfield 172, 3) := by decide +kernel
theorem dX8_hash_295 : decode cX8_hash 295 = .ok (.iload_n 3, 1) := by decide +kernel
theorem dX8_hash_296 : decode cX8_hash 296 = .ok (.iaload, 1) := by decide +kernel
theorem dX8_hash_297 : decode cX8_hash 297 = .ok (.iastore, 1) := by decide +kernel
theorem dX8_hash_298 : decode cX8_hash 298 = .ok (.iinc 3 1, 3) := by decide +kernel
theorem dX8_hash_301 : decode cX8_hash 301 = .ok (.goto (-26), 3) := by decide +kernel
theorem dX8_hash_304 : decode cX8_hash 304 = .ok (.return_, 1) := by decide +kernel
theorem dX8_turn_0 : decode cX8_turn 0 = .ok (.iload_n 0, 1) := by decide +kernel
theorem dX8_turn_1 : decode cX8_turn 1 = .ok (.iload_n 1, 1) := by decide +kernel
theorem dX8_turn_2 : decode cX8_turn 2 = .ok (.iushr, 1) := by decide +kernel
theorem dX8_turn_3 : decode cX8_turn 3 = .ok (.iload_n 0, 1) := by decide +kernel
theorem dX8_turn_4 : decode cX8_turn 4 = .ok (.bipush 32, 2) := by decide +kernel
theorem dX8_turn_6 : decode cX8_turn 6 = .ok (.iload_n 1, 1) := by decide +kernel
theorem dX8_turn_7 : decode cX8_turn 7 = .ok (.isub, 1) := by decide +kernel
theorem dX8_turn_8 : decode cX8_turn 8 = .ok (.ishl, 1) := by decide +kernel
theorem dX8_turn_9 : decode cX8_turn 9 = .ok (.ior, 1) := by decide +kernel
theorem dX8_turn_10 : decode cX8_turn 10 = .ok (.ireturn, 1) := by decide +kernel
theorem dX8_compress_0 : decode cX8_compress 0 = .ok (.iconst 0, 1) := by decide +kernel
theorem dX8_compress_1 : decode cX8_compress 1 = .ok (.istore_n 2, 1) := by decide +kernel
theorem dX8_compress_2 : decode cX8_compress 2 = .ok (.iload_n 2, 1) := by decide +kernel
theorem dX8_compress_3 : decode cX8_compress 3 = .ok (.bipush 16, 2) := by decide +kernel
theorem dX8_compress_5 : decode cX8_compress 5 = .ok (.if_icmp .ge 73, 3) := by decide +kernel
theorem dX8_compress_8 : decode cX8_compress 8 = .ok (.aload_n 0, 1) := by decide +kernel
theorem dX8_compress_9 : decode cX8_compress 9 = .ok (.getfield 102, 3) := by decide +kernel
theorem dX8_compress_12 : decode cX8_compress 12 = .ok (.iload_n 2, 1) := by decide +kernel
theorem dX8_compress_13 : decode cX8_compress 13 = .ok (.aload_n 0, 1) := by decide +kernel
theorem dX8_compress_14 : decode cX8_compress 14 = .ok (.getfield 99, 3) := by decide +kernel
theorem dX8_compress_17 : decode cX8_compress 17 = .ok (.iload_n 1, 1) := by decide +kernel
theorem dX8_compress_18 : decode cX8_compress 18 = .ok (.iconst 4, 1) := by decide +kernel
theorem dX8_compress_19 : decode cX8_compress 19 = .ok (.iload_n 2, 1) := by decide +kernel
theorem dX8_compress_20 : decode cX8_compress 20 = .ok (.imul, 1) := by decide +kernel
theorem dX8_compress_21 : decode cX8_compress 21 = .ok (.iadd, 1) := by decide +kernel
theorem dX8_compress_22 : decode cX8_compress 22 = .ok (.iaload, 1) := by decide +kernel
theorem dX8_compress_23 : decode cX8_compress 23 = .ok (.bipush 24, 2) := by decide +kernel
theorem dX8_compress_25 : decode cX8_compress 25 = .ok (.ishl, 1) := by decide +kernel
theorem dX8_compress_26 : decode cX8_compress 26 = .ok (.aload_n 0, 1) := by decide +kernel
theorem dX8_compress_27 : decode cX8_compress 27 = .ok (.getfield 99, 3) := by decide +kernel
theorem dX8_compress_30 : decode cX8_compress 30 = .ok (.iload_n 1, 1) := by decide +kernel
theorem dX8_compress_31 : decode cX8_compress 31 = .ok (.iconst 4, 1) := by decide +kernel
theorem dX8_compress_32 : decode cX8_compress 32 = .ok (.iload_n 2, 1) := by decide +kernel
theorem dX8_compress_33 : decode cX8_compress 33 = .ok (.imul, 1) := by decide +kernel
theorem dX8_compress_34 : decode cX8_compress 34 = .ok (.iadd, 1) := by decide +kernel
theorem dX8_compress_35 : decode cX8_compress 35 = .ok (.iconst 1, 1) := by decide +kernel
theorem dX8_compress_36 : decode cX8_compress 36 = .ok (.iadd, 1) := by decide +kernel
theorem dX8_compress_37 : decode cX8_compress 37 = .ok (.iaload, 1) := by decide +kernel
theorem dX8_compress_38 : decode cX8_compress 38 = .ok (.bipush 16, 2) := by decide +kernel
theorem dX8_compress_40 : decode cX8_compress 40 = .ok (.ishl, 1) := by decide +kernel
theorem dX8_compress_41 : decode cX8_compress 41 = .ok (.ior, 1) := by decide +kernel
theorem dX8_compress_42 : decode cX8_compress 42 = .ok (.aload_n 0, 1) := by decide +kernel
theorem dX8_compress_43 : decode cX8_compress 43 = .ok (.getfield 99, 3) := by decide +kernel
theorem dX8_compress_46 : decode cX8_compress 46 = .ok (.iload_n 1, 1) := by decide +kernel
theorem dX8_compress_47 : decode cX8_compress 47 = .ok (.iconst 4, 1) := by decide +kernel
theorem dX8_compress_48 : decode cX8_compress 48 = .ok (.iload_n 2, 1) := by decide +kernel
theorem dX8_compress_49 : decode cX8_compress 49 = .ok (.imul, 1) := by decide +kernel
theorem dX8_compress_50 : decode cX8_compress 50 = .ok (.iadd, 1) := by decide +kernel
theorem dX8_compress_51 : decode cX8_compress 51 = .ok (.iconst 2, 1) := by decide +kernel
theorem dX8_compress_52 : decode cX8_compress 52 = .ok (.iadd, 1) := by decide +kernel
theorem dX8_compress_53 : decode cX8_compress 53 = .ok (.iaload, 1) := by decide +kernel
theorem dX8_compress_54 : decode cX8_compress 54 = .ok (.bipush 8, 2) := by decide +kernel
theorem dX8_compress_56 : decode cX8_compress 56 = .ok (.ishl, 1) := by decide +kernel
theorem dX8_compress_57 : decode cX8_compress 57 = .ok (.ior, 1) := by decide +kernel
theorem dX8_compress_58 : decode cX8_compress 58 = .ok (.aload_n 0, 1) := by decide +kernel
theorem dX8_compress_59 : decode cX8_compress 59 = .ok (.getfield 99, 3) := by decide +kernel
theorem dX8_compress_62 : decode cX8_compress 62 = .ok (.iload_n 1, 1) := by decide +kernel
theorem dX8_compress_63 : decode cX8_compress 63 = .ok (.iconst 4, 1) := by decide +kernel
theorem dX8_compress_64 : decode cX8_compress 64 = .ok (.iload_n 2, 1) := by decide +kernel
theorem dX8_compress_65 : decode cX8_compress 65 = .ok (.imul, 1) := by decide +kernel
theorem dX8_compress_66 : decode cX8_compress 66 = .ok (.iadd, 1) := by decide +kernel
theorem dX8_compress_67 : decode cX8_compress 67 = .ok (.iconst 3, 1) := by decide +kernel
theorem dX8_compress_68 : decode cX8_compress 68 = .ok (.iadd, 1) := by decide +kernel
theorem dX8_compress_69 : decode cX8_compress 69 = .ok (.iaload, 1) := by decide +kernel
theorem dX8_compress_70 : decode cX8_compress 70 = .ok (.ior, 1) := by decide +kernel
theorem dX8_compress_71 : decode cX8_compress 71 = .ok (.iastore, 1) := by decide +kernel
theorem dX8_compress_72 : decode cX8_compress 72 = .ok (.iinc 2 1, 3) := by decide +kernel
theorem dX8_compress_75 : decode cX8_compress 75 = .ok (.goto (-73), 3) := by decide +kernel
theorem dX8_compress_78 : decode cX8_compress 78 = .ok (.bipush 16, 2) := by decide +kernel
theorem dX8_compress_80 : decode cX8_compress 80 = .ok (.istore_n 2, 1) := by decide +kernel
theorem dX8_compress_81 : decode cX8_compress 81 = .ok (.iload_n 2, 1) := by decide +kernel
theorem dX8_compress_82 : decode cX8_compress 82 = .ok (.bipush 64, 2) := by decide +kernel
theorem dX8_compress_84 : decode cX8_compress 84 = .ok (.if_icmp .ge 94, 3) := by decide +kernel
theorem dX8_compress_87 : decode cX8_compress 87 = .ok (.aload_n 0, 1) := by decide +kernel
theorem dX8_compress_88 : decode cX8_compress 88 = .ok (.getfield 102, 3) := by decide +kernel
theorem dX8_compress_91 : decode cX8_compress 91 = .ok (.iload_n 2, 1) := by decide +kernel
theorem dX8_compress_92 : decode cX8_compress 92 = .ok (.bipush 15, 2) := by decide +kernel
theorem dX8_compress_94 : decode cX8_compress 94 = .ok (.isub, 1) := by decide +kernel
theorem dX8_compress_95 : decode cX8_compress 95 = .ok (.iaload, 1) := by decide +kernel
theorem dX8_compress_96 : decode cX8_compress 96 = .ok (.istore_n 3, 1) := by decide +kernel
theorem dX8_compress_97 : decode cX8_compress 97 = .ok (.aload_n 0, 1) := by decide +kernel
theorem dX8_compress_98 : decode cX8_compress 98 = .ok (.getfield 102, 3) := by decide +kernel
theorem dX8_compress_101 : decode cX8_compress 101 = .ok (.iload_n 2, 1) := by decide +kernel
theorem dX8_compress_102 : decode cX8_compress 102 = .ok (.iconst 2, 1) := by decide +kernel
theorem dX8_compress_103 : decode cX8_compress 103 = .ok (.isub, 1) := by decide +kernel
theorem dX8_compress_104 : decode cX8_compress 104 = .ok (.iaload, 1) := by decide +kernel
theorem dX8_compress_105 : decode cX8_compress 105 = .ok (.istore 4, 2) := by decide +kernel
theorem dX8_compress_107 : decode cX8_compress 107 = .ok (.aload_n 0, 1) := by decide +kernel
theorem dX8_compress_108 : decode cX8_compress 108 = .ok (.getfield 102, 3) := by decide +kernel
theorem dX8_compress_111 : decode cX8_compress 111 = .ok (.iload_n 2, 1) := by decide +kernel
theorem dX8_compress_112 : decode cX8_compress 112 = .ok (.aload_n 0, 1) := by decide +kernel
theorem dX8_compress_113 : decode cX8_compress 113 = .ok (.getfield 102, 3) := by decide +kernel
theorem dX8_compress_116 : decode cX8_compress 116 = .ok (.iload_n 2, 1) := by decide +kernel
theorem dX8_compress_117 : decode cX8_compress 117 = .ok (.bipush 16, 2) := by decide +kernel
theorem dX8_compress_119 : decode cX8_compress 119 = .ok (.isub, 1) := by decide +kernel
theorem dX8_compress_120 : decode cX8_compress 120 = .ok (.iaload, 1) := by decide +kernel
theorem dX8_compress_121 : decode cX8_compress 121 = .ok (.iload_n 3, 1) := by decide +kernel
theorem dX8_compress_122 : decode cX8_compress 122 = .ok (.bipush 7, 2) := by decide +kernel
theorem dX8_compress_124 : decode cX8_compress 124 = .ok (.invokestatic 256, 3) := by decide +kernel
theorem dX8_compress_127 : decode cX8_compress 127 = .ok (.iload_n 3, 1) := by decide +kernel
theorem dX8_compress_128 : decode cX8_compress 128 = .ok (.bipush 18, 2) := by decide +kernel
theorem dX8_compress_130 : decode cX8_compress 130 = .ok (.invokestatic 256, 3) := by decide +kernel
theorem dX8_compress_133 : decode cX8_compress 133 = .ok (.ixor, 1) := by decide +kernel
theorem dX8_compress_134 : decode cX8_compress 134 = .ok (.iload_n 3, 1) := by decide +kernel
theorem dX8_compress_135 : decode cX8_compress 135 = .ok (.iconst 3, 1) := by decide +kernel
theorem dX8_compress_136 : decode cX8_compress 136 = .ok (.iushr, 1) := by decide +kernel
theorem dX8_compress_137 : decode cX8_compress 137 = .ok (.ixor, 1) := by decide +kernel
theorem dX8_compress_138 : decode cX8_compress 138 = .ok (.iadd, 1) := by decide +kernel
theorem dX8_compress_139 : decode cX8_compress 139 = .ok (.aload_n 0, 1) := by decide +kernel
theorem dX8_compress_140 : decode cX8_compress 140 = .ok (.getfield 102, 3) := by decide +kernel
theorem dX8_compress_143 : decode cX8_compress 143 = .ok (.iload_n 2, 1) := by decide +kernel
theorem dX8_compress_144 : decode cX8_compress 144 = .ok (.bipush 7, 2) := by decide +kernel
theorem dX8_compress_146 : decode cX8_compress 146 = .ok (.isub, 1) := by decide +kernel
theorem dX8_compress_147 : decode cX8_compress 147 = .ok (.iaload, 1) := by decide +kernel
theorem dX8_compress_148 : decode cX8_compress 148 = .ok (.iadd, 1) := by decide +kernel
theorem dX8_compress_149 : decode cX8_compress 149 = .ok (.iload 4, 2) := by decide +kernel
theorem dX8_compress_151 : decode cX8_compress 151 = .ok (.bipush 17, 2) := by decide +kernel
theorem dX8_compress_153 : decode cX8_compress 153 = .ok (.invokestatic 256, 3) := by decide +kernel
theorem dX8_compress_156 : decode cX8_compress 156 = .ok (.iload 4, 2) := by decide +kernel
theorem dX8_compress_158 : decode cX8_compress 158 = .ok (.bipush 19, 2) := by decide +kernel
theorem dX8_compress_160 : decode cX8_compress 160 = .ok (.invokestatic 256, 3) := by decide +kernel
theorem dX8_compress_163 : decode cX8_compress 163 = .ok (.ixor, 1) := by decide +kernel
theorem dX8_compress_164 : decode cX8_compress 164 = .ok (.iload 4, 2) := by decide +kernel
theorem dX8_compress_166 : decode cX8_compress 166 = .ok (.bipush 10, 2) := by decide +kernel
theorem dX8_compress_168 : decode cX8_compress 168 = .ok (.iushr, 1) := by decide +kernel
theorem dX8_compress_169 : decode cX8_compress 169 = .ok (.ixor, 1) := by decide +kernel
theorem dX8_compress_170 : decode cX8_compress 170 = .ok (.iadd, 1) := by decide +kernel
theorem dX8_compress_171 : decode cX8_compress 171 = .ok (.iastore, 1) := by decide +kernel
theorem dX8_compress_172 : decode cX8_compress 172 = .ok (.iinc 2 1, 3) := by decide +kernel
theorem dX8_compress_175 : decode cX8_compress 175 = .ok (.goto (-94), 3) := by decide +kernel
theorem dX8_compress_178 : decode cX8_compress 178 = .ok (.aload_n 0, 1) := by decide +kernel
theorem dX8_compress_179 : decode cX8_compress 179 = .ok (.getfield 172, 3) := by decide +kernel
theorem dX8_compress_182 : decode cX8_compress 182 = .ok (.iconst 0, 1) := by decide +kernel
theorem dX8_compress_183 : decode cX8_compress 183 = .ok (.iaload, 1) := by decide +kernel
theorem dX8_compress_184 : decode cX8_compress 184 = .ok (.istore_n 2, 1) := by decide +kernel
theorem dX8_compress_185 : decode cX8_compress 185 = .ok (.aload_n 0, 1) := by decide +kernel
theorem dX8_compress_186 : decode cX8_compress 186 = .ok (.getfield 172, 3) := by decide +kernel
theorem dX8_compress_189 : decode cX8_compress 189 = .ok (.iconst 1, 1) := by decide +kernel
theorem dX8_compress_190 : decode cX8_compress 190 = .ok (.iaload, 1) := by decide +kernel
theorem dX8_compress_191 : decode cX8_compress 191 = .ok (.istore_n 3, 1) := by decide +kernel
theorem dX8_compress_192 : decode cX8_compress 192 = .ok (.aload_n 0, 1) := by decide +kernel
theorem dX8_compress_193 : decode cX8_compress 193 = .ok (.getfield 172, 3) := by decide +kernel
theorem dX8_compress_196 : decode cX8_compress 196 = .ok (.iconst 2, 1) := by decide +kernel
theorem dX8_compress_197 : decode cX8_compress 197 = .ok (.iaload, 1) := by decide +kernel
theorem dX8_compress_198 : decode cX8_compress 198 = .ok (.istore 4, 2) := by decide +kernel
theorem dX8_compress_200 : decode cX8_compress 200 = .ok (.aload_n 0, 1) := by decide +kernel
theorem dX8_compress_201 : decode cX8_compress 201 = .ok (.getfield 172, 3) := by decide +kernel
theorem dX8_compress_204 : decode cX8_compress 204 = .ok (.iconst 3, 1) := by decide +kernel
theorem dX8_compress_205 : decode cX8_compress 205 = .ok (.iaload, 1) := by decide +kernel
theorem dX8_compress_206 : decode cX8_compress 206 = .ok (.istore 5, 2) := by decide +kernel
theorem dX8_compress_208 : decode cX8_compress 208 = .ok (.aload_n 0, 1) := by decide +kernel
theorem dX8_compress_209 : decode cX8_compress 209 = .ok (.getfield 172, 3) := by decide +kernel
theorem dX8_compress_212 : decode cX8_compress 212 = .ok (.iconst 4, 1) := by decide +kernel
theorem dX8_compress_213 : decode cX8_compress 213 = .ok (.iaload, 1) := by decide +kernel
theorem dX8_compress_214 : decode cX8_compress 214 = .ok (.istore 6, 2) := by decide +kernel
theorem dX8_compress_216 : decode cX8_compress 216 = .ok (.aload_n 0, 1) := by decide +kernel
theorem dX8_compress_217 : decode cX8_compress 217 = .ok (.getfield 172, 3) := by decide +kernel
theorem dX8_compress_220 : decode cX8_compress 220 = .ok (.iconst 5, 1) := by decide +kernel
theorem dX8_compress_221 : decode cX8_compress 221 = .ok (.iaload, 1) := by decide +kernel
theorem dX8_compress_222 : decode cX8_compress 222 = .ok (.istore 7, 2) := by decide +kernel
theorem dX8_compress_224 : decode cX8_compress 224 = .ok (.aload_n 0, 1) := by decide +kernel
theorem dX8_compress_225 : decode cX8_compress 225 = .ok (.getfield 172, 3) := by decide +kernel
theorem dX8_compress_228 : decode cX8_compress 228 = .ok (.bipush 6, 2) := by decide +kernel
theorem dX8_compress_230 : decode cX8_compress 230 = .ok (.iaload, 1) := by decide +kernel
theorem dX8_compress_231 : decode cX8_compress 231 = .ok (.istore 8, 2) := by decide +kernel
theorem dX8_compress_233 : decode cX8_compress 233 = .ok (.aload_n 0, 1) := by decide +kernel
theorem dX8_compress_234 : decode cX8_compress 234 = .ok (.getfield 172, 3) := by decide +kernel
theorem dX8_compress_237 : decode cX8_compress 237 = .ok (.bipush 7, 2) := by decide +kernel
theorem dX8_compress_239 : decode cX8_compress 239 = .ok (.iaload, 1) := by decide +kernel
theorem dX8_compress_240 : decode cX8_compress 240 = .ok (.istore 9, 2) := by decide +kernel
theorem dX8_compress_242 : decode cX8_compress 242 = .ok (.iconst 0, 1) := by decide +kernel
theorem dX8_compress_243 : decode cX8_compress 243 = .ok (.istore 10, 2) := by decide +kernel
theorem dX8_compress_245 : decode cX8_compress 245 = .ok (.iload 10, 2) := by decide +kernel
theorem dX8_compress_247 : decode cX8_compress 247 = .ok (.bipush 64, 2) := by decide +kernel
theorem dX8_compress_249 : decode cX8_compress 249 = .ok (.if_icmp .ge 136, 3) := by decide +kernel
theorem dX8_compress_252 : decode cX8_compress 252 = .ok (.iload 9, 2) := by decide +kernel
theorem dX8_compress_254 : decode cX8_compress 254 = .ok (.iload 6, 2) := by decide +kernel
theorem dX8_compress_256 : decode cX8_compress 256 = .ok (.bipush 6, 2) := by decide +kernel
theorem dX8_compress_258 : decode cX8_compress 258 = .ok (.invokestatic 256, 3) := by decide +kernel
theorem dX8_compress_261 : decode cX8_compress 261 = .ok (.iload 6, 2) := by decide +kernel
theorem dX8_compress_263 : decode cX8_compress 263 = .ok (.bipush 11, 2) := by decide +kernel
theorem dX8_compress_265 : decode cX8_compress 265 = .ok (.invokestatic 256, 3) := by decide +kernel
theorem dX8_compress_268 : decode cX8_compress 268 = .ok (.ixor, 1) := by decide +kernel
theorem dX8_compress_269 : decode cX8_compress 269 = .ok (.iload 6, 2) := by decide +kernel
theorem dX8_compress_271 : decode cX8_compress 271 = .ok (.bipush 25, 2) := by decide +kernel
theorem dX8_compress_273 : decode cX8_compress 273 = .ok (.invokestatic 256, 3) := by decide +kernel
theorem dX8_compress_276 : decode cX8_compress 276 = .ok (.ixor, 1) := by decide +kernel
theorem dX8_compress_277 : decode cX8_compress 277 = .ok (.iadd, 1) := by decide +kernel
theorem dX8_compress_278 : decode cX8_compress 278 = .ok (.iload 6, 2) := by decide +kernel
theorem dX8_compress_280 : decode cX8_compress 280 = .ok (.iload 7, 2) := by decide +kernel
theorem dX8_compress_282 : decode cX8_compress 282 = .ok (.iand, 1) := by decide +kernel
theorem dX8_compress_283 : decode cX8_compress 283 = .ok (.iload 6, 2) := by decide +kernel
theorem dX8_compress_285 : decode cX8_compress 285 = .ok (.iconst (-1), 1) := by decide +kernel
theorem dX8_compress_286 : decode cX8_compress 286 = .ok (.ixor, 1) := by decide +kernel
theorem dX8_compress_287 : decode cX8_compress 287 = .ok (.iload 8, 2) := by decide +kernel
theorem dX8_compress_289 : decode cX8_compress 289 = .ok (.iand, 1) := by decide +kernel
theorem dX8_compress_290 : decode cX8_compress 290 = .ok (.ixor, 1) := by decide +kernel
theorem dX8_compress_291 : decode cX8_compress 291 = .ok (.iadd, 1) := by decide +kernel
theorem dX8_compress_292 : decode cX8_compress 292 = .ok (.aload_n 0, 1) := by decide +kernel
theorem dX8_compress_293 : decode cX8_compress 293 = .ok (.getfield 169, 3) := by decide +kernel
theorem dX8_compress_296 : decode cX8_compress 296 = .ok (.iload 10, 2) := by decide +kernel
theorem dX8_compress_298 : decode cX8_compress 298 = .ok (.iaload, 1) := by decide +kernel
theorem dX8_compress_299 : decode cX8_compress 299 = .ok (.iadd, 1) := by decide +kernel
theorem dX8_compress_300 : decode cX8_compress 300 = .ok (.aload_n 0, 1) := by decide +kernel
theorem dX8_compress_301 : decode cX8_compress 301 = .ok (.getfield 102, 3) := by decide +kernel
theorem dX8_compress_304 : decode cX8_compress 304 = .ok (.iload 10, 2) := by decide +kernel
theorem dX8_compress_306 : decode cX8_compress 306 = .ok (.iaload, 1) := by decide +kernel
theorem dX8_compress_307 : decode cX8_compress 307 = .ok (.iadd, 1) := by decide +kernel
theorem dX8_compress_308 : decode cX8_compress 308 = .ok (.istore 11, 2) := by decide +kernel
theorem dX8_compress_310 : decode cX8_compress 310 = .ok (.iload_n 2, 1) := by decide +kernel
theorem dX8_compress_311 : decode cX8_compress 311 = .ok (.iconst 2, 1) := by decide +kernel
theorem dX8_compress_312 : decode cX8_compress 312 = .ok (.invokestatic 256, 3) := by decide +kernel
theorem dX8_compress_315 : decode cX8_compress 315 = .ok (.iload_n 2, 1) := by decide +kernel
theorem dX8_compress_316 : decode cX8_compress 316 = .ok (.bipush 13, 2) := by decide +kernel
theorem dX8_compress_318 : decode cX8_compress 318 = .ok (.invokestatic 256, 3) := by decide +kernel
theorem dX8_compress_321 : decode cX8_compress 321 = .ok (.ixor, 1) := by decide +kernel
theorem dX8_compress_322 : decode cX8_compress 322 = .ok (.iload_n 2, 1) := by decide +kernel
theorem dX8_compress_323 : decode cX8_compress 323 = .ok (.bipush 22, 2) := by decide +kernel
theorem dX8_compress_325 : decode cX8_compress 325 = .ok (.invokestatic 256, 3) := by decide +kernel
theorem dX8_compress_328 : decode cX8_compress 328 = .ok (.ixor, 1) := by decide +kernel
theorem dX8_compress_329 : decode cX8_compress 329 = .ok (.iload_n 2, 1) := by decide +kernel
theorem dX8_compress_330 : decode cX8_compress 330 = .ok (.iload_n 3, 1) := by decide +kernel
theorem dX8_compress_331 : decode cX8_compress 331 = .ok (.iand, 1) := by decide +kernel
theorem dX8_compress_332 : decode cX8_compress 332 = .ok (.iload_n 2, 1) := by decide +kernel
theorem dX8_compress_333 : decode cX8_compress 333 = .ok (.iload 4, 2) := by decide +kernel
theorem dX8_compress_335 : decode cX8_compress 335 = .ok (.iand, 1) := by decide +kernel
theorem dX8_compress_336 : decode cX8_compress 336 = .ok (.ixor, 1) := by decide +kernel
theorem dX8_compress_337 : decode cX8_compress 337 = .ok (.iload_n 3, 1) := by decide +kernel
theorem dX8_compress_338 : decode cX8_compress 338 = .ok (.iload 4, 2) := by decide +kernel
theorem dX8_compress_340 : decode cX8_compress 340 = .ok (.iand, 1) := by decide +kernel
theorem dX8_compress_341 : decode cX8_compress 341 = .ok (.ixor, 1) := by decide +kernel
theorem dX8_compress_342 : decode cX8_compress 342 = .ok (.iadd, 1) := by decide +kernel
theorem dX8_compress_343 : decode cX8_compress 343 = .ok (.istore 12, 2) := by decide +kernel
theorem dX8_compress_345 : decode cX8_compress 345 = .ok (.iload 8, 2) := by decide +kernel
theorem dX8_compress_347 : decode cX8_compress 347 = .ok (.istore 9, 2) := by decide +kernel
theorem dX8_compress_349 : decode cX8_compress 349 = .ok (.iload 7, 2) := by decide +kernel
theorem dX8_compress_351 : decode cX8_compress 351 = .ok (.istore 8, 2) := by decide +kernel
theorem dX8_compress_353 : decode cX8_compress 353 = .ok (.iload 6, 2) := by decide +kernel
theorem dX8_compress_355 : decode cX8_compress 355 = .ok (.istore 7, 2) := by decide +kernel
theorem dX8_compress_357 : decode cX8_compress 357 = .ok (.iload 5, 2) := by decide +kernel
theorem dX8_compress_359 : decode cX8_compress 359 = .ok (.iload 11, 2) := by decide +kernel
theorem dX8_compress_361 : decode cX8_compress 361 = .ok (.iadd, 1) := by decide +kernel
theorem dX8_compress_362 : decode cX8_compress 362 = .ok (.istore 6, 2) := by decide +kernel
theorem dX8_compress_364 : decode cX8_compress 364 = .ok (.iload 4, 2) := by decide +kernel
theorem dX8_compress_366 : decode cX8_compress 366 = .ok (.istore 5, 2) := by decide +kernel
theorem dX8_compress_368 : decode cX8_compress 368 = .ok (.iload_n 3, 1) := by decide +kernel
theorem dX8_compress_369 : decode cX8_compress 369 = .ok (.istore 4, 2) := by decide +kernel
theorem dX8_compress_371 : decode cX8_compress 371 = .ok (.iload_n 2, 1) := by decide +kernel
theorem dX8_compress_372 : decode cX8_compress 372 = .ok (.istore_n 3, 1) := by decide +kernel
theorem dX8_compress_373 : decode cX8_compress 373 = .ok (.iload 11, 2) := by decide +kernel
theorem dX8_compress_375 : decode cX8_compress 375 = .ok (.iload 12, 2) := by decide +kernel
theorem dX8_compress_377 : decode cX8_compress 377 = .ok (.iadd, 1) := by decide +kernel
theorem dX8_compress_378 : decode cX8_compress 378 = .ok (.istore_n 2, 1) := by decide +kernel
theorem dX8_compress_379 : decode cX8_compress 379 = .ok (.iinc 10 1, 3) := by decide +kernel
theorem dX8_compress_382 : decode cX8_compress 382 = .ok (.goto (-137), 3) := by decide +kernel
theorem dX8_compress_385 : decode cX8_compress 385 = .ok (.aload_n 0, 1) := by decide +kernel
theorem dX8_compress_386 : decode cX8_compress 386 = .ok (.getfield 172, 3) := by decide +kernel
theorem dX8_compress_389 : decode cX8_compress 389 = .ok (.iconst 0, 1) := by decide +kernel
theorem dX8_compress_390 : decode cX8_compress 390 = .ok (.dup2, 1) := by decide +kernel
theorem dX8_compress_391 : decode cX8_compress 391 = .ok (.iaload, 1) := by decide +kernel
theorem dX8_compress_392 : decode cX8_compress 392 = .ok (.iload_n 2, 1) := by decide +kernel
theorem dX8_compress_393 : decode cX8_compress 393 = .ok (.iadd, 1) := by decide +kernel
theorem dX8_compress_394 : decode cX8_compress 394 = .ok (.iastore, 1) := by decide +kernel
theorem dX8_compress_395 : decode cX8_compress 395 = .ok (.aload_n 0, 1) := by decide +kernel
theorem dX8_compress_396 : decode cX8_compress 396 = .ok (.getfield 172, 3) := by decide +kernel
theorem dX8_compress_399 : decode cX8_compress 399 = .ok (.iconst 1, 1) := by decide +kernel
theorem dX8_compress_400 : decode cX8_compress 400 = .ok (.dup2, 1) := by decide +kernel
theorem dX8_compress_401 : decode cX8_compress 401 = .ok (.iaload, 1) := by decide +kernel
theorem dX8_compress_402 : decode cX8_compress 402 = .ok (.iload_n 3, 1) := by decide +kernel
theorem dX8_compress_403 : decode cX8_compress 403 = .ok (.iadd, 1) := by decide +kernel
theorem dX8_compress_404 : decode cX8_compress 404 = .ok (.iastore, 1) := by decide +kernel
theorem dX8_compress_405 : decode cX8_compress 405 = .ok (.aload_n 0, 1) := by decide +kernel
theorem dX8_compress_406 : decode cX8_compress 406 = .ok (.getfield 172, 3) := by decide +kernel
theorem dX8_compress_409 : decode cX8_compress 409 = .ok (.iconst 2, 1) := by decide +kernel
theorem dX8_compress_410 : decode cX8_compress 410 = .ok (.dup2, 1) := by decide +kernel
theorem dX8_compress_411 : decode cX8_compress 411 = .ok (.iaload, 1) := by decide +kernel
theorem dX8_compress_412 : decode cX8_compress 412 = .ok (.iload 4, 2) := by decide +kernel
theorem dX8_compress_414 : decode cX8_compress 414 = .ok (.iadd, 1) := by decide +kernel
theorem dX8_compress_415 : decode cX8_compress 415 = .ok (.iastore, 1) := by decide +kernel
theorem dX8_compress_416 : decode cX8_compress 416 = .ok (.aload_n 0, 1) := by decide +kernel
theorem dX8_compress_417 : decode cX8_compress 417 = .ok (.getfield 172, 3) := by decide +kernel
theorem dX8_compress_420 : decode cX8_compress 420 = .ok (.iconst 3, 1) := by decide +kernel
theorem dX8_compress_421 : decode cX8_compress 421 = .ok (.dup2, 1) := by decide +kernel
theorem dX8_compress_422 : decode cX8_compress 422 = .ok (.iaload, 1) := by decide +kernel
theorem dX8_compress_423 : decode cX8_compress 423 = .ok (.iload 5, 2) := by decide +kernel
theorem dX8_compress_425 : decode cX8_compress 425 = .ok (.iadd, 1) := by decide +kernel
theorem dX8_compress_426 : decode cX8_compress 426 = .ok (.iastore, 1) := by decide +kernel
theorem dX8_compress_427 : decode cX8_compress 427 = .ok (.aload_n 0, 1) := by decide +kernel
theorem dX8_compress_428 : decode cX8_compress 428 = .ok (.getfield 172, 3) := by decide +kernel
theorem dX8_compress_431 : decode cX8_compress 431 = .ok (.iconst 4, 1) := by decide +kernel
theorem dX8_compress_432 : decode cX8_compress 432 = .ok (.dup2, 1) := by decide +kernel
theorem dX8_compress_433 : decode cX8_compress 433 = .ok (.iaload, 1) := by decide +kernel
theorem dX8_compress_434 : decode cX8_compress 434 = .ok (.iload 6, 2) := by decide +kernel
theorem dX8_compress_436 : decode cX8_compress 436 = .ok (.iadd, 1) := by decide +kernel
theorem dX8_compress_437 : decode cX8_compress 437 = .ok (.iastore, 1) := by decide +kernel
theorem dX8_compress_438 : decode cX8_compress 438 = .ok (.aload_n 0, 1) := by decide +kernel
theorem dX8_compress_439 : decode cX8_compress 439 = .ok (.getfield 172, 3) := by decide +kernel
theorem dX8_compress_442 : decode cX8_compress 442 = .ok (.iconst 5, 1) := by decide +kernel
theorem dX8_compress_443 : decode cX8_compress 443 = .ok (.dup2, 1) := by decide +kernel
theorem dX8_compress_444 : decode cX8_compress 444 = .ok (.iaload, 1) := by decide +kernel
theorem dX8_compress_445 : decode cX8_compress 445 = .ok (.iload 7, 2) := by decide +kernel
theorem dX8_compress_447 : decode cX8_compress 447 = .ok (.iadd, 1) := by decide +kernel
theorem dX8_compress_448 : decode cX8_compress 448 = .ok (.iastore, 1) := by decide +kernel
theorem dX8_compress_449 : decode cX8_compress 449 = .ok (.aload_n 0, 1) := by decide +kernel
theorem dX8_compress_450 : decode cX8_compress 450 = .ok (.getfield 172, 3) := by decide +kernel
theorem dX8_compress_453 : decode cX8_compress 453 = .ok (.bipush 6, 2) := by decide +kernel
theorem dX8_compress_455 : decode cX8_compress 455 = .ok (.dup2, 1) := by decide +kernel
theorem dX8_compress_456 : decode cX8_compress 456 = .ok (.iaload, 1) := by decide +kernel
theorem dX8_compress_457 : decode cX8_compress 457 = .ok (.iload 8, 2) := by decide +kernel
theorem dX8_compress_459 : decode cX8_compress 459 = .ok (.iadd, 1) := by decide +kernel
theorem dX8_compress_460 : decode cX8_compress 460 = .ok (.iastore, 1) := by decide +kernel
theorem dX8_compress_461 : decode cX8_compress 461 = .ok (.aload_n 0, 1) := by decide +kernel
theorem dX8_compress_462 : decode cX8_compress 462 = .ok (.getfield 172, 3) := by decide +kernel
theorem dX8_compress_465 : decode cX8_compress 465 = .ok (.bipush 7, 2) := by decide +kernel
theorem dX8_compress_467 : decode cX8_compress 467 = .ok (.dup2, 1) := by decide +kernel
theorem dX8_compress_468 : decode cX8_compress 468 = .ok (.iaload, 1) := by decide +kernel
theorem dX8_compress_469 : decode cX8_compress 469 = .ok (.iload 9, 2) := by decide +kernel
theorem dX8_compress_471 : decode cX8_compress 471 = .ok (.iadd, 1) := by decide +kernel
theorem dX8_compress_472 : decode cX8_compress 472 = .ok (.iastore, 1) := by decide +kernel
theorem dX8_compress_473 : decode cX8_compress 473 = .ok (.return_, 1) := by decide +kernel
theorem dX8_submit_0 : decode cX8_submit 0 = .ok (.aload_n 0, 1) := by decide +kernel
theorem dX8_submit_1 : decode cX8_submit 1 = .ok (.iconst 0, 1) := by decide +kernel
theorem dX8_submit_2 : decode cX8_submit 2 = .ok (.putfield 190, 3) := by decide +kernel
theorem dX8_submit_5 : decode cX8_submit 5 = .ok (.aload_n 0, 1) := by decide +kernel
theorem dX8_submit_6 : decode cX8_submit 6 = .ok (.aload_n 0, 1) := by decide +kernel
theorem dX8_submit_7 : decode cX8_submit 7 = .ok (.iload_n 1, 1) := by decide +kernel
theorem dX8_submit_8 : decode cX8_submit 8 = .ok (.invokevirtual 259, 3) := by decide +kernel
theorem dX8_submit_11 : decode cX8_submit 11 = .ok (.ifCond .eq 22, 3) := by decide +kernel
theorem dX8_submit_14 : decode cX8_submit 14 = .ok (.aload_n 0, 1) := by decide +kernel
theorem dX8_submit_15 : decode cX8_submit 15 = .ok (.iload_n 2, 1) := by decide +kernel
theorem dX8_submit_16 : decode cX8_submit 16 = .ok (.invokevirtual 259, 3) := by decide +kernel
theorem dX8_submit_19 : decode cX8_submit 19 = .ok (.ifCond .eq 14, 3) := by decide +kernel
theorem dX8_submit_22 : decode cX8_submit 22 = .ok (.iload_n 3, 1) := by decide +kernel
theorem dX8_submit_23 : decode cX8_submit 23 = .ok (.iconst 0, 1) := by decide +kernel
theorem dX8_submit_24 : decode cX8_submit 24 = .ok (.ldc_w 262, 3) := by decide +kernel
theorem dX8_submit_27 : decode cX8_submit 27 = .ok (.invokestatic 196, 3) := by decide +kernel
theorem dX8_submit_30 : decode cX8_submit 30 = .ok (.ifCond .ne 7, 3) := by decide +kernel
theorem dX8_submit_33 : decode cX8_submit 33 = .ok (.iconst 1, 1) := by decide +kernel
theorem dX8_submit_34 : decode cX8_submit 34 = .ok (.goto 4, 3) := by decide +kernel
theorem dX8_submit_37 : decode cX8_submit 37 = .ok (.iconst 0, 1) := by decide +kernel
theorem dX8_submit_38 : decode cX8_submit 38 = .ok (.iconst 1, 1) := by decide +kernel
theorem dX8_submit_39 : decode cX8_submit 39 = .ok (.invokevirtual 203, 3) := by decide +kernel
theorem dX8_submit_42 : decode cX8_submit 42 = .ok (.ifCond .ne 27, 3) := by decide +kernel
theorem dX8_submit_45 : decode cX8_submit 45 = .ok (.aload_n 0, 1) := by decide +kernel
theorem dX8_submit_46 : decode cX8_submit 46 = .ok (.aload_n 0, 1) := by decide +kernel
theorem dX8_submit_47 : decode cX8_submit 47 = .ok (.getfield 37, 3) := by decide +kernel
theorem dX8_submit_50 : decode cX8_submit 50 = .ok (.iload_n 1, 1) := by decide +kernel
theorem dX8_submit_51 : decode cX8_submit 51 = .ok (.iaload, 1) := by decide +kernel
theorem dX8_submit_52 : decode cX8_submit 52 = .ok (.bipush 8, 2) := by decide +kernel
theorem dX8_submit_54 : decode cX8_submit 54 = .ok (.if_icmp .ne 7, 3) := by decide +kernel
theorem dX8_submit_57 : decode cX8_submit 57 = .ok (.iconst 1, 1) := by decide +kernel
theorem dX8_submit_58 : decode cX8_submit 58 = .ok (.goto 4, 3) := by decide +kernel
theorem dX8_submit_61 : decode cX8_submit 61 = .ok (.iconst 0, 1) := by decide +kernel
theorem dX8_submit_62 : decode cX8_submit 62 = .ok (.iconst 2, 1) := by decide +kernel
theorem dX8_submit_63 : decode cX8_submit 63 = .ok (.invokevirtual 203, 3) := by decide +kernel
theorem dX8_submit_66 : decode cX8_submit 66 = .ok (.ifCond .eq 5, 3) := by decide +kernel
theorem dX8_submit_69 : decode cX8_submit 69 = .ok (.iconst 0, 1) := by decide +kernel
theorem dX8_submit_70 : decode cX8_submit 70 = .ok (.ireturn, 1) := by decide +kernel
theorem dX8_submit_71 : decode cX8_submit 71 = .ok (.aload_n 0, 1) := by decide +kernel
theorem dX8_submit_72 : decode cX8_submit 72 = .ok (.getfield 40, 3) := by decide +kernel
theorem dX8_submit_75 : decode cX8_submit 75 = .ok (.bipush 8, 2) := by decide +kernel
theorem dX8_submit_77 : decode cX8_submit 77 = .ok (.iload_n 1, 1) := by decide +kernel
theorem dX8_submit_78 : decode cX8_submit 78 = .ok (.imul, 1) := by decide +kernel
theorem dX8_submit_79 : decode cX8_submit 79 = .ok (.aload_n 0, 1) := by decide +kernel
theorem dX8_submit_80 : decode cX8_submit 80 = .ok (.getfield 37, 3) := by decide +kernel
theorem dX8_submit_83 : decode cX8_submit 83 = .ok (.iload_n 1, 1) := by decide +kernel
theorem dX8_submit_84 : decode cX8_submit 84 = .ok (.iaload, 1) := by decide +kernel
theorem dX8_submit_85 : decode cX8_submit 85 = .ok (.iadd, 1) := by decide +kernel
theorem dX8_submit_86 : decode cX8_submit 86 = .ok (.iload_n 2, 1) := by decide +kernel
theorem dX8_submit_87 : decode cX8_submit 87 = .ok (.iastore, 1) := by decide +kernel
theorem dX8_submit_88 : decode cX8_submit 88 = .ok (.aload_n 0, 1) := by decide +kernel
theorem dX8_submit_89 : decode cX8_submit 89 = .ok (.getfield 43, 3) := by decide +kernel
theorem dX8_submit_92 : decode cX8_submit 92 = .ok (.bipush 8, 2) := by decide +kernel
theorem dX8_submit_94 : decode cX8_submit 94 = .ok (.iload_n 1, 1) := by decide +kernel
theorem dX8_submit_95 : decode cX8_submit 95 = .ok (.imul, 1) := by decide +kernel
theorem dX8_submit_96 : decode cX8_submit 96 = .ok (.aload_n 0, 1) := by decide +kernel
theorem dX8_submit_97 : decode cX8_submit 97 = .ok (.getfield 37, 3) := by decide +kernel
theorem dX8_submit_100 : decode cX8_submit 100 = .ok (.iload_n 1, 1) := by decide +kernel
theorem dX8_submit_101 : decode cX8_submit 101 = .ok (.iaload, 1) := by decide +kernel
theorem dX8_submit_102 : decode cX8_submit 102 = .ok (.iadd, 1) := by decide +kernel
theorem dX8_submit_103 : decode cX8_submit 103 = .ok (.iload_n 3, 1) := by decide +kernel
theorem dX8_submit_104 : decode cX8_submit 104 = .ok (.iastore, 1) := by decide +kernel
theorem dX8_submit_105 : decode cX8_submit 105 = .ok (.aload_n 0, 1) := by decide +kernel
theorem dX8_submit_106 : decode cX8_submit 106 = .ok (.getfield 37, 3) := by decide +kernel
theorem dX8_submit_109 : decode cX8_submit 109 = .ok (.iload_n 1, 1) := by decide +kernel
theorem dX8_submit_110 : decode cX8_submit 110 = .ok (.dup2, 1) := by decide +kernel
theorem dX8_submit_111 : decode cX8_submit 111 = .ok (.iaload, 1) := by decide +kernel
theorem dX8_submit_112 : decode cX8_submit 112 = .ok (.iconst 1, 1) := by decide +kernel
theorem dX8_submit_113 : decode cX8_submit 113 = .ok (.iadd, 1) := by decide +kernel
theorem dX8_submit_114 : decode cX8_submit 114 = .ok (.dup_x2, 1) := by decide +kernel
theorem dX8_submit_115 : decode cX8_submit 115 = .ok (.iastore, 1) := by decide +kernel
theorem dX8_submit_116 : decode cX8_submit 116 = .ok (.ireturn, 1) := by decide +kernel
theorem dX8_sync_0 : decode cX8_sync 0 = .ok (.aload_n 0, 1) := by decide +kernel
theorem dX8_sync_1 : decode cX8_sync 1 = .ok (.iconst 0, 1) := by decide +kernel
theorem dX8_sync_2 : decode cX8_sync 2 = .ok (.putfield 190, 3) := by decide +kernel
theorem dX8_sync_5 : decode cX8_sync 5 = .ok (.aload_n 0, 1) := by decide +kernel
theorem dX8_sync_6 : decode cX8_sync 6 = .ok (.aload_n 0, 1) := by decide +kernel
theorem dX8_sync_7 : decode cX8_sync 7 = .ok (.iload_n 1, 1) := by decide +kernel
theorem dX8_sync_8 : decode cX8_sync 8 = .ok (.invokevirtual 259, 3) := by decide +kernel
theorem dX8_sync_11 : decode cX8_sync 11 = .ok (.ifCond .eq 16, 3) := by decide +kernel
theorem dX8_sync_14 : decode cX8_sync 14 = .ok (.aload_n 0, 1) := by decide +kernel
theorem dX8_sync_15 : decode cX8_sync 15 = .ok (.iload_n 2, 1) := by decide +kernel
theorem dX8_sync_16 : decode cX8_sync 16 = .ok (.invokevirtual 259, 3) := by decide +kernel
theorem dX8_sync_19 : decode cX8_sync 19 = .ok (.ifCond .eq 8, 3) := by decide +kernel
theorem dX8_sync_22 : decode cX8_sync 22 = .ok (.iload_n 1, 1) := by decide +kernel
theorem dX8_sync_23 : decode cX8_sync 23 = .ok (.iload_n 2, 1) := by decide +kernel
theorem dX8_sync_24 : decode cX8_sync 24 = .ok (.if_icmp .ne 7, 3) := by decide +kernel
theorem dX8_sync_27 : decode cX8_sync 27 = .ok (.iconst 1, 1) := by decide +kernel
theorem dX8_sync_28 : decode cX8_sync 28 = .ok (.goto 4, 3) := by decide +kernel
theorem dX8_sync_31 : decode cX8_sync 31 = .ok (.iconst 0, 1) := by decide +kernel
theorem dX8_sync_32 : decode cX8_sync 32 = .ok (.iconst 1, 1) := by decide +kernel
theorem dX8_sync_33 : decode cX8_sync 33 = .ok (.invokevirtual 203, 3) := by decide +kernel
theorem dX8_sync_36 : decode cX8_sync 36 = .ok (.ifCond .ne 26, 3) := by decide +kernel
theorem dX8_sync_39 : decode cX8_sync 39 = .ok (.aload_n 0, 1) := by decide +kernel
theorem dX8_sync_40 : decode cX8_sync 40 = .ok (.aload_n 0, 1) := by decide +kernel
theorem dX8_sync_41 : decode cX8_sync 41 = .ok (.getfield 200, 3) := by decide +kernel
theorem dX8_sync_44 : decode cX8_sync 44 = .ok (.sipush 240, 3) := by decide +kernel
theorem dX8_sync_47 : decode cX8_sync 47 = .ok (.if_icmp .ne 7, 3) := by decide +kernel
theorem dX8_sync_50 : decode cX8_sync 50 = .ok (.iconst 1, 1) := by decide +kernel
theorem dX8_sync_51 : decode cX8_sync 51 = .ok (.goto 4, 3) := by decide +kernel
theorem dX8_sync_54 : decode cX8_sync 54 = .ok (.iconst 0, 1) := by decide +kernel
theorem dX8_sync_55 : decode cX8_sync 55 = .ok (.iconst 2, 1) := by decide +kernel
theorem dX8_sync_56 : decode cX8_sync 56 = .ok (.invokevirtual 203, 3) := by decide +kernel
theorem dX8_sync_59 : decode cX8_sync 59 = .ok (.ifCond .eq 5, 3) := by decide +kernel
theorem dX8_sync_62 : decode cX8_sync 62 = .ok (.iconst 0, 1) := by decide +kernel
theorem dX8_sync_63 : decode cX8_sync 63 = .ok (.ireturn, 1) := by decide +kernel
theorem dX8_sync_64 : decode cX8_sync 64 = .ok (.iconst 0, 1) := by decide +kernel
theorem dX8_sync_65 : decode cX8_sync 65 = .ok (.istore 5, 2) := by decide +kernel
theorem dX8_sync_67 : decode cX8_sync 67 = .ok (.iload 5, 2) := by decide +kernel
theorem dX8_sync_69 : decode cX8_sync 69 = .ok (.aload_n 0, 1) := by decide +kernel
theorem dX8_sync_70 : decode cX8_sync 70 = .ok (.getfield 200, 3) := by decide +kernel
theorem dX8_sync_73 : decode cX8_sync 73 = .ok (.if_icmp .ge 39, 3) := by decide +kernel
theorem dX8_sync_76 : decode cX8_sync 76 = .ok (.aload_n 0, 1) := by decide +kernel
theorem dX8_sync_77 : decode cX8_sync 77 = .ok (.getfield 55, 3) := by decide +kernel
theorem dX8_sync_80 : decode cX8_sync 80 = .ok (.sipush 240, 3) := by decide +kernel
theorem dX8_sync_83 : decode cX8_sync 83 = .ok (.iload_n 1, 1) := by decide +kernel
theorem dX8_sync_84 : decode cX8_sync 84 = .ok (.imul, 1) := by decide +kernel
theorem dX8_sync_85 : decode cX8_sync 85 = .ok (.iload 5, 2) := by decide +kernel
theorem dX8_sync_87 : decode cX8_sync 87 = .ok (.iadd, 1) := by decide +kernel
theorem dX8_sync_88 : decode cX8_sync 88 = .ok (.baload, 1) := by decide +kernel
theorem dX8_sync_89 : decode cX8_sync 89 = .ok (.ifCond .eq 17, 3) := by decide +kernel
theorem dX8_sync_92 : decode cX8_sync 92 = .ok (.aload_n 0, 1) := by decide +kernel
theorem dX8_sync_93 : decode cX8_sync 93 = .ok (.getfield 55, 3) := by decide +kernel
theorem dX8_sync_96 : decode cX8_sync 96 = .ok (.sipush 240, 3) := by decide +kernel
theorem dX8_sync_99 : decode cX8_sync 99 = .ok (.iload_n 2, 1) := by decide +kernel
theorem dX8_sync_100 : decode cX8_sync 100 = .ok (.imul, 1) := by decide +kernel
theorem dX8_sync_101 : decode cX8_sync 101 = .ok (.iload 5, 2) := by decide +kernel
theorem dX8_sync_103 : decode cX8_sync 103 = .ok (.iadd, 1) := by decide +kernel
theorem dX8_sync_104 : decode cX8_sync 104 = .ok (.iconst 1, 1) := by decide +kernel
theorem dX8_sync_105 : decode cX8_sync 105 = .ok (.bastore, 1) := by decide +kernel
theorem dX8_sync_106 : decode cX8_sync 106 = .ok (.iinc 5 1, 3) := by decide +kernel
theorem dX8_sync_109 : decode cX8_sync 109 = .ok (.goto (-42), 3) := by decide +kernel
theorem dX8_sync_112 : decode cX8_sync 112 = .ok (.aload_n 0, 1) := by decide +kernel
theorem dX8_sync_113 : decode cX8_sync 113 = .ok (.getfield 37, 3) := by decide +kernel
theorem dX8_sync_116 : decode cX8_sync 116 = .ok (.iload_n 2, 1) := by decide +kernel
theorem dX8_sync_117 : decode cX8_sync 117 = .ok (.iaload, 1) := by decide +kernel
theorem dX8_sync_118 : decode cX8_sync 118 = .ok (.iconst 3, 1) := by decide +kernel
theorem dX8_sync_119 : decode cX8_sync 119 = .ok (.if_icmp .ge 12, 3) := by decide +kernel
theorem dX8_sync_122 : decode cX8_sync 122 = .ok (.aload_n 0, 1) := by decide +kernel
theorem dX8_sync_123 : decode cX8_sync 123 = .ok (.getfield 37, 3) := by decide +kernel
theorem dX8_sync_126 : decode cX8_sync 126 = .ok (.iload_n 2, 1) := by decide +kernel
theorem dX8_sync_127 : decode cX8_sync 127 = .ok (.iaload, 1) := by decide +kernel
theorem dX8_sync_128 : decode cX8_sync 128 = .ok (.goto 4, 3) := by decide +kernel
theorem dX8_sync_131 : decode cX8_sync 131 = .ok (.iconst 3, 1) := by decide +kernel
theorem dX8_sync_132 : decode cX8_sync 132 = .ok (.istore 5, 2) := by decide +kernel
theorem dX8_sync_134 : decode cX8_sync 134 = .ok (.aload_n 0, 1) := by decide +kernel
theorem dX8_sync_135 : decode cX8_sync 135 = .ok (.getfield 19, 3) := by decide +kernel
theorem dX8_sync_138 : decode cX8_sync 138 = .ok (.aload_n 0, 1) := by decide +kernel
theorem dX8_sync_139 : decode cX8_sync 139 = .ok (.getfield 200, 3) := by decide +kernel
theorem dX8_sync_142 : decode cX8_sync 142 = .ok (.iload 5, 2) := by decide +kernel
theorem dX8_sync_144 : decode cX8_sync 144 = .ok (.iastore, 1) := by decide +kernel
theorem dX8_sync_145 : decode cX8_sync 145 = .ok (.iconst 0, 1) := by decide +kernel
theorem dX8_sync_146 : decode cX8_sync 146 = .ok (.istore 6, 2) := by decide +kernel
theorem dX8_sync_148 : decode cX8_sync 148 = .ok (.iload 6, 2) := by decide +kernel
theorem dX8_sync_150 : decode cX8_sync 150 = .ok (.iload 5, 2) := by decide +kernel
theorem dX8_sync_152 : decode cX8_sync 152 = .ok (.if_icmp .ge 61, 3) := by decide +kernel
theorem dX8_sync_155 : decode cX8_sync 155 = .ok (.aload_n 0, 1) := by decide +kernel
theorem dX8_sync_156 : decode cX8_sync 156 = .ok (.getfield 22, 3) := by decide +kernel
theorem dX8_sync_159 : decode cX8_sync 159 = .ok (.iconst 3, 1) := by decide +kernel
theorem dX8_sync_160 : decode cX8_sync 160 = .ok (.aload_n 0, 1) := by decide +kernel
theorem dX8_sync_161 : decode cX8_sync 161 = .ok (.getfield 200, 3) := by decide +kernel
theorem dX8_sync_164 : decode cX8_sync 164 = .ok (.imul, 1) := by decide +kernel
theorem dX8_sync_165 : decode cX8_sync 165 = .ok (.iload 6, 2) := by decide +kernel
theorem dX8_sync_167 : decode cX8_sync 167 = .ok (.iadd, 1) := by decide +kernel
theorem dX8_sync_168 : decode cX8_sync 168 = .ok (.aload_n 0, 1) := by decide +kernel
theorem dX8_sync_169 : decode cX8_sync 169 = .ok (.getfield 40, 3) := by decide +kernel
theorem dX8_sync_172 : decode cX8_sync 172 = .ok (.bipush 8, 2) := by decide +kernel
theorem dX8_sync_174 : decode cX8_sync 174 = .ok (.iload_n 2, 1) := by decide +kernel
theorem dX8_sync_175 : decode cX8_sync 175 = .ok (.imul, 1) := by decide +kernel
theorem dX8_sync_176 : decode cX8_sync 176 = .ok (.iload 6, 2) := by decide +kernel
theorem dX8_sync_178 : decode cX8_sync 178 = .ok (.iadd, 1) := by decide +kernel
theorem dX8_sync_179 : decode cX8_sync 179 = .ok (.iaload, 1) := by decide +kernel
theorem dX8_sync_180 : decode cX8_sync 180 = .ok (.iastore, 1) := by decide +kernel
theorem dX8_sync_181 : decode cX8_sync 181 = .ok (.aload_n 0, 1) := by decide +kernel
theorem dX8_sync_182 : decode cX8_sync 182 = .ok (.getfield 25, 3) := by decide +kernel
theorem dX8_sync_185 : decode cX8_sync 185 = .ok (.iconst 3, 1) := by decide +kernel
theorem dX8_sync_186 : decode cX8_sync 186 = .ok (.aload_n 0, 1) := by decide +kernel
theorem dX8_sync_187 : decode cX8_sync 187 = .ok (.getfield 200, 3) := by decide +kernel
theorem dX8_sync_190 : decode cX8_sync 190 = .ok (.imul, 1) := by decide +kernel
theorem dX8_sync_191 : decode cX8_sync 191 = .ok (.iload 6, 2) := by decide +kernel
theorem dX8_sync_193 : decode cX8_sync 193 = .ok (.iadd, 1) := by decide +kernel
theorem dX8_sync_194 : decode cX8_sync 194 = .ok (.aload_n 0, 1) := by decide +kernel
theorem dX8_sync_195 : decode cX8_sync 195 = .ok (.getfield 43, 3) := by decide +kernel
theorem dX8_sync_198 : decode cX8_sync 198 = .ok (.bipush 8, 2) := by decide +kernel
theorem dX8_sync_200 : decode cX8_sync 200 = .ok (.iload_n 2, 1) := by decide +kernel
theorem dX8_sync_201 : decode cX8_sync 201 = .ok (.imul, 1) := by decide +kernel
theorem dX8_sync_202 : decode cX8_sync 202 = .ok (.iload 6, 2) := by decide +kernel
theorem dX8_sync_204 : decode cX8_sync 204 = .ok (.iadd, 1) := by decide +kernel
theorem dX8_sync_205 : decode cX8_sync 205 = .ok (.iaload, 1) := by decide +kernel
theorem dX8_sync_206 : decode cX8_sync 206 = .ok (.iastore, 1) := by decide +kernel
theorem dX8_sync_207 : decode cX8_sync 207 = .ok (.iinc 6 1, 3) := by decide +kernel
theorem dX8_sync_210 : decode cX8_sync 210 = .ok (.goto (-62), 3) := by decide +kernel
theorem dX8_sync_213 : decode cX8_sync 213 = .ok (.iload 5, 2) := by decide +kernel
theorem dX8_sync_215 : decode cX8_sync 215 = .ok (.istore 6, 2) := by decide +kernel
theorem dX8_sync_217 : decode cX8_sync 217 = .ok (.iload 6, 2) := by decide +kernel
theorem dX8_sync_219 : decode cX8_sync 219 = .ok (.aload_n 0, 1) := by decide +kernel
theorem dX8_sync_220 : decode cX8_sync 220 = .ok (.getfield 37, 3) := by decide +kernel
theorem dX8_sync_223 : decode cX8_sync 223 = .ok (.iload_n 2, 1) := by decide +kernel
theorem dX8_sync_224 : decode cX8_sync 224 = .ok (.iaload, 1) := by decide +kernel
theorem dX8_sync_225 : decode cX8_sync 225 = .ok (.if_icmp .ge 63, 3) := by decide +kernel
theorem dX8_sync_228 : decode cX8_sync 228 = .ok (.aload_n 0, 1) := by decide +kernel
theorem dX8_sync_229 : decode cX8_sync 229 = .ok (.getfield 40, 3) := by decide +kernel
theorem dX8_sync_232 : decode cX8_sync 232 = .ok (.bipush 8, 2) := by decide +kernel
theorem dX8_sync_234 : decode cX8_sync 234 = .ok (.iload_n 2, 1) := by decide +kernel
theorem dX8_sync_235 : decode cX8_sync 235 = .ok (.imul, 1) := by decide +kernel
theorem dX8_sync_236 : decode cX8_sync 236 = .ok (.iload 6, 2) := by decide +kernel
theorem dX8_sync_238 : decode cX8_sync 238 = .ok (.iadd, 1) := by decide +kernel
theorem dX8_sync_239 : decode cX8_sync 239 = .ok (.iload 5, 2) := by decide +kernel
theorem dX8_sync_241 : decode cX8_sync 241 = .ok (.isub, 1) := by decide +kernel
theorem dX8_sync_242 : decode cX8_sync 242 = .ok (.aload_n 0, 1) := by decide +kernel
theorem dX8_sync_243 : decode cX8_sync 243 = .ok (.getfield 40, 3) := by decide +kernel
theorem dX8_sync_246 : decode cX8_sync 246 = .ok (.bipush 8, 2) := by decide +kernel
theorem dX8_sync_248 : decode cX8_sync 248 = .ok (.iload_n 2, 1) := by decide +kernel
theorem dX8_sync_249 : decode cX8_sync 249 = .ok (.imul, 1) := by decide +kernel
theorem dX8_sync_250 : decode cX8_sync 250 = .ok (.iload 6, 2) := by decide +kernel
theorem dX8_sync_252 : decode cX8_sync 252 = .ok (.iadd, 1) := by decide +kernel
theorem dX8_sync_253 : decode cX8_sync 253 = .ok (.iaload, 1) := by decide +kernel
theorem dX8_sync_254 : decode cX8_sync 254 = .ok (.iastore, 1) := by decide +kernel
theorem dX8_sync_255 : decode cX8_sync 255 = .ok (.aload_n 0, 1) := by decide +kernel
theorem dX8_sync_256 : decode cX8_sync 256 = .ok (.getfield 43, 3) := by decide +kernel
theorem dX8_sync_259 : decode cX8_sync 259 = .ok (.bipush 8, 2) := by decide +kernel
theorem dX8_sync_261 : decode cX8_sync 261 = .ok (.iload_n 2, 1) := by decide +kernel
theorem dX8_sync_262 : decode cX8_sync 262 = .ok (.imul, 1) := by decide +kernel
theorem dX8_sync_263 : decode cX8_sync 263 = .ok (.iload 6, 2) := by decide +kernel
theorem dX8_sync_265 : decode cX8_sync 265 = .ok (.iadd, 1) := by decide +kernel
theorem dX8_sync_266 : decode cX8_sync 266 = .ok (.iload 5, 2) := by decide +kernel
theorem dX8_sync_268 : decode cX8_sync 268 = .ok (.isub, 1) := by decide +kernel
theorem dX8_sync_269 : decode cX8_sync 269 = .ok (.aload_n 0, 1) := by decide +kernel
theorem dX8_sync_270 : decode cX8_sync 270 = .ok (.getfield 43, 3) := by decide +kernel
theorem dX8_sync_273 : decode cX8_sync 273 = .ok (.bipush 8, 2) := by decide +kernel
theorem dX8_sync_275 : decode cX8_sync 275 = .ok (.iload_n 2, 1) := by decide +kernel
theorem dX8_sync_276 : decode cX8_sync 276 = .ok (.imul, 1) := by decide +kernel
theorem dX8_sync_277 : decode cX8_sync 277 = .ok (.iload 6, 2) := by decide +kernel
theorem dX8_sync_279 : decode cX8_sync 279 = .ok (.iadd, 1) := by decide +kernel
theorem dX8_sync_280 : decode cX8_sync 280 = .ok (.iaload, 1) := by decide +kernel
theorem dX8_sync_281 : decode cX8_sync 281 = .ok (.iastore, 1) := by decide +kernel
theorem dX8_sync_282 : decode cX8_sync 282 = .ok (.iinc 6 1, 3) := by decide +kernel
theorem dX8_sync_285 : decode cX8_sync 285 = .ok (.goto (-68), 3) := by decide +kernel
theorem dX8_sync_288 : decode cX8_sync 288 = .ok (.aload_n 0, 1) := by decide +kernel
theorem dX8_sync_289 : decode cX8_sync 289 = .ok (.getfield 37, 3) := by decide +kernel
theorem dX8_sync_292 : decode cX8_sync 292 = .ok (.iload_n 2, 1) := by decide +kernel
theorem dX8_sync_293 : decode cX8_sync 293 = .ok (.dup2, 1) := by decide +kernel
theorem dX8_sync_294 : decode cX8_sync 294 = .ok (.iaload, 1) := by decide +kernel
theorem dX8_sync_295 : decode cX8_sync 295 = .ok (.iload 5, 2) := by decide +kernel
theorem dX8_sync_297 : decode cX8_sync 297 = .ok (.isub, 1) := by decide +kernel
theorem dX8_sync_298 : decode cX8_sync 298 = .ok (.iastore, 1) := by decide +kernel
theorem dX8_sync_299 : decode cX8_sync 299 = .ok (.aload_n 0, 1) := by decide +kernel
theorem dX8_sync_300 : decode cX8_sync 300 = .ok (.iload_n 2, 1) := by decide +kernel
theorem dX8_sync_301 : decode cX8_sync 301 = .ok (.aload_n 0, 1) := by decide +kernel
theorem dX8_sync_302 : decode cX8_sync 302 = .ok (.getfield 34, 3) := by decide +kernel
theorem dX8_sync_305 : decode cX8_sync 305 = .ok (.iload_n 2, 1) := by decide +kernel
theorem dX8_sync_306 : decode cX8_sync 306 = .ok (.iaload, 1) := by decide +kernel
theorem dX8_sync_307 : decode cX8_sync 307 = .ok (.aload_n 0, 1) := by decide +kernel
theorem dX8_sync_308 : decode cX8_sync 308 = .ok (.getfield 34, 3) := by decide +kernel
theorem dX8_sync_311 : decode cX8_sync 311 = .ok (.iload_n 1, 1) := by decide +kernel
theorem dX8_sync_312 : decode cX8_sync 312 = .ok (.iaload, 1) := by decide +kernel
theorem dX8_sync_313 : decode cX8_sync 313 = .ok (.lload_n 3, 1) := by decide +kernel
theorem dX8_sync_314 : decode cX8_sync 314 = .ok (.invokevirtual 207, 3) := by decide +kernel
theorem dX8_sync_317 : decode cX8_sync 317 = .ok (.istore 6, 2) := by decide +kernel
theorem dX8_sync_319 : decode cX8_sync 319 = .ok (.aload_n 0, 1) := by decide +kernel
theorem dX8_sync_320 : decode cX8_sync 320 = .ok (.getfield 34, 3) := by decide +kernel
theorem dX8_sync_323 : decode cX8_sync 323 = .ok (.iload_n 2, 1) := by decide +kernel
theorem dX8_sync_324 : decode cX8_sync 324 = .ok (.iload 6, 2) := by decide +kernel
theorem dX8_sync_326 : decode cX8_sync 326 = .ok (.iastore, 1) := by decide +kernel
theorem dX8_sync_327 : decode cX8_sync 327 = .ok (.aload_n 0, 1) := by decide +kernel
theorem dX8_sync_328 : decode cX8_sync 328 = .ok (.getfield 55, 3) := by decide +kernel
theorem dX8_sync_331 : decode cX8_sync 331 = .ok (.sipush 240, 3) := by decide +kernel
theorem dX8_sync_334 : decode cX8_sync 334 = .ok (.iload_n 2, 1) := by decide +kernel
theorem dX8_sync_335 : decode cX8_sync 335 = .ok (.imul, 1) := by decide +kernel
theorem dX8_sync_336 : decode cX8_sync 336 = .ok (.iload 6, 2) := by decide +kernel
theorem dX8_sync_338 : decode cX8_sync 338 = .ok (.iadd, 1) := by decide +kernel
theorem dX8_sync_339 : decode cX8_sync 339 = .ok (.iconst 1, 1) := by decide +kernel
theorem dX8_sync_340 : decode cX8_sync 340 = .ok (.bastore, 1) := by decide +kernel
theorem dX8_sync_341 : decode cX8_sync 341 = .ok (.iload 6, 2) := by decide +kernel
theorem dX8_sync_343 : decode cX8_sync 343 = .ok (.ireturn, 1) := by decide +kernel
theorem dX8_holds_0 : decode cX8_holds 0 = .ok (.aload_n 0, 1) := by decide +kernel
theorem dX8_holds_1 : decode cX8_holds 1 = .ok (.iload_n 2, 1) := by decide +kernel
theorem dX8_holds_2 : decode cX8_holds 2 = .ok (.invokevirtual 263, 3) := by decide +kernel
theorem dX8_holds_5 : decode cX8_holds 5 = .ok (.ifCond .eq 22, 3) := by decide +kernel
theorem dX8_holds_8 : decode cX8_holds 8 = .ok (.aload_n 0, 1) := by decide +kernel
theorem dX8_holds_9 : decode cX8_holds 9 = .ok (.getfield 55, 3) := by decide +kernel
theorem dX8_holds_12 : decode cX8_holds 12 = .ok (.sipush 240, 3) := by decide +kernel
theorem dX8_holds_15 : decode cX8_holds 15 = .ok (.iload_n 1, 1) := by decide +kernel
theorem dX8_holds_16 : decode cX8_holds 16 = .ok (.imul, 1) := by decide +kernel
theorem dX8_holds_17 : decode cX8_holds 17 = .ok (.iload_n 2, 1) := by decide +kernel
theorem dX8_holds_18 : decode cX8_holds 18 = .ok (.iadd, 1) := by decide +kernel
theorem dX8_holds_19 : decode cX8_holds 19 = .ok (.baload, 1) := by decide +kernel
theorem dX8_holds_20 : decode cX8_holds 20 = .ok (.ifCond .eq 7, 3) := by decide +kernel
theorem dX8_holds_23 : decode cX8_holds 23 = .ok (.iconst 1, 1) := by decide +kernel
theorem dX8_holds_24 : decode cX8_holds 24 = .ok (.goto 4, 3) := by decide +kernel
theorem dX8_holds_27 : decode cX8_holds 27 = .ok (.iconst 0, 1) := by decide +kernel
theorem dX8_holds_28 : decode cX8_holds 28 = .ok (.ireturn, 1) := by decide +kernel
theorem dX8_inject_0 : decode cX8_inject 0 = .ok (.aload_n 0, 1) := by decide +kernel
theorem dX8_inject_1 : decode cX8_inject 1 = .ok (.iconst 0, 1) := by decide +kernel
theorem dX8_inject_2 : decode cX8_inject 2 = .ok (.putfield 190, 3) := by decide +kernel
theorem dX8_inject_5 : decode cX8_inject 5 = .ok (.aload_n 0, 1) := by decide +kernel
theorem dX8_inject_6 : decode cX8_inject 6 = .ok (.aload_n 0, 1) := by decide +kernel
theorem dX8_inject_7 : decode cX8_inject 7 = .ok (.iload_n 1, 1) := by decide +kernel
theorem dX8_inject_8 : decode cX8_inject 8 = .ok (.invokevirtual 259, 3) := by decide +kernel
theorem dX8_inject_11 : decode cX8_inject 11 = .ok (.ifCond .eq 62, 3) := by decide +kernel
theorem dX8_inject_14 : decode cX8_inject 14 = .ok (.aload_n 0, 1) := by decide +kernel
theorem dX8_inject_15 : decode cX8_inject 15 = .ok (.iload_n 2, 1) := by decide +kernel
theorem dX8_inject_16 : decode cX8_inject 16 = .ok (.invokevirtual 259, 3) := by decide +kernel
theorem dX8_inject_19 : decode cX8_inject 19 = .ok (.ifCond .eq 54, 3) := by decide +kernel
theorem dX8_inject_22 : decode cX8_inject 22 = .ok (.iload_n 1, 1) := by decide +kernel
theorem dX8_inject_23 : decode cX8_inject 23 = .ok (.iload_n 2, 1) := by decide +kernel
theorem dX8_inject_24 : decode cX8_inject 24 = .ok (.if_icmp .eq 49, 3) := by decide +kernel
theorem dX8_inject_27 : decode cX8_inject 27 = .ok (.aload_n 0, 1) := by decide +kernel
theorem dX8_inject_28 : decode cX8_inject 28 = .ok (.iload_n 1, 1) := by decide +kernel
theorem dX8_inject_29 : decode cX8_inject 29 = .ok (.iload_n 3, 1) := by decide +kernel
theorem dX8_inject_30 : decode cX8_inject 30 = .ok (.invokevirtual 266, 3) := by decide +kernel
theorem dX8_inject_33 : decode cX8_inject 33 = .ok (.ifCond .eq 40, 3) := by decide +kernel
theorem dX8_inject_36 : decode cX8_inject 36 = .ok (.aload_n 0, 1) := by decide +kernel
theorem dX8_inject_37 : decode cX8_inject 37 = .ok (.getfield 9, 3) := by decide +kernel
theorem dX8_inject_40 : decode cX8_inject 40 = .ok (.iload_n 3, 1) := by decide +kernel
theorem dX8_inject_41 : decode cX8_inject 41 = .ok (.iaload, 1) := by decide +kernel
theorem dX8_inject_42 : decode cX8_inject 42 = .ok (.iload_n 2, 1) := by decide +kernel
theorem dX8_inject_43 : decode cX8_inject 43 = .ok (.if_icmp .ne 30, 3) := by decide +kernel
theorem dX8_inject_46 : decode cX8_inject 46 = .ok (.iload 4, 2) := by decide +kernel
theorem dX8_inject_48 : decode cX8_inject 48 = .ok (.iconst (-1), 1) := by decide +kernel
theorem dX8_inject_49 : decode cX8_inject 49 = .ok (.if_icmp .eq 28, 3) := by decide +kernel
theorem dX8_inject_52 : decode cX8_inject 52 = .ok (.aload_n 0, 1) := by decide +kernel
theorem dX8_inject_53 : decode cX8_inject 53 = .ok (.iload_n 1, 1) := by decide +kernel
theorem dX8_inject_54 : decode cX8_inject 54 = .ok (.iload 4, 2) := by decide +kernel
theorem dX8_inject_56 : decode cX8_inject 56 = .ok (.invokevirtual 266, 3) := by decide +kernel
theorem dX8_inject_59 : decode cX8_inject 59 = .ok (.ifCond .eq 14, 3) := by decide +kernel
theorem dX8_inject_62 : decode cX8_inject 62 = .ok (.aload_n 0, 1) := by decide +kernel
theorem dX8_inject_63 : decode cX8_inject 63 = .ok (.getfield 9, 3) := by decide +kernel
theorem dX8_inject_66 : decode cX8_inject 66 = .ok (.iload 4, 2) := by decide +kernel
theorem dX8_inject_68 : decode cX8_inject 68 = .ok (.iaload, 1) := by decide +kernel
theorem dX8_inject_69 : decode cX8_inject 69 = .ok (.iload_n 2, 1) := by decide +kernel
theorem dX8_inject_70 : decode cX8_inject 70 = .ok (.if_icmp .ne 7, 3) := by decide +kernel
theorem dX8_inject_73 : decode cX8_inject 73 = .ok (.iconst 1, 1) := by decide +kernel
theorem dX8_inject_74 : decode cX8_inject 74 = .ok (.goto 4, 3) := by decide +kernel
theorem dX8_inject_77 : decode cX8_inject 77 = .ok (.iconst 0, 1) := by decide +kernel
theorem dX8_inject_78 : decode cX8_inject 78 = .ok (.iconst 1, 1) := by decide +kernel
theorem dX8_inject_79 : decode cX8_inject 79 = .ok (.invokevirtual 203, 3) := by decide +kernel
theorem dX8_inject_82 : decode cX8_inject 82 = .ok (.ifCond .eq 5, 3) := by decide +kernel
theorem dX8_inject_85 : decode cX8_inject 85 = .ok (.iconst 0, 1) := by decide +kernel
theorem dX8_inject_86 : decode cX8_inject 86 = .ok (.ireturn, 1) := by decide +kernel
theorem dX8_inject_87 : decode cX8_inject 87 = .ok (.iconst 0, 1) := by decide +kernel
theorem dX8_inject_88 : decode cX8_inject 88 = .ok (.istore 7, 2) := by decide +kernel
theorem dX8_inject_90 : decode cX8_inject 90 = .ok (.iload 7, 2) := by decide +kernel
theorem dX8_inject_92 : decode cX8_inject 92 = .ok (.aload_n 0, 1) := by decide +kernel
theorem dX8_inject_93 : decode cX8_inject 93 = .ok (.getfield 200, 3) := by decide +kernel
theorem dX8_inject_96 : decode cX8_inject 96 = .ok (.if_icmp .ge 81, 3) := by decide +kernel
theorem dX8_inject_99 : decode cX8_inject 99 = .ok (.aload_n 0, 1) := by decide +kernel
theorem dX8_inject_100 : decode cX8_inject 100 = .ok (.aload_n 0, 1) := by decide +kernel
theorem dX8_inject_101 : decode cX8_inject 101 = .ok (.getfield 9, 3) := by decide +kernel
theorem dX8_inject_104 : decode cX8_inject 104 = .ok (.iload 7, 2) := by decide +kernel
theorem dX8_inject_106 : decode cX8_inject 106 = .ok (.iaload, 1) := by decide +kernel
theorem dX8_inject_107 : decode cX8_inject 107 = .ok (.iload_n 2, 1) := by decide +kernel
theorem dX8_inject_108 : decode cX8_inject 108 = .ok (.if_icmp .ne 53, 3) := by decide +kernel
theorem dX8_inject_111 : decode cX8_inject 111 = .ok (.aload_n 0, 1) := by decide +kernel
theorem dX8_inject_112 : decode cX8_inject 112 = .ok (.getfield 13, 3) := by decide +kernel
theorem dX8_inject_115 : decode cX8_inject 115 = .ok (.iload 7, 2) := by decide +kernel
theorem dX8_inject_117 : decode cX8_inject 117 = .ok (.iaload, 1) := by decide +kernel
theorem dX8_inject_118 : decode cX8_inject 118 = .ok (.iload_n 3, 1) := by decide +kernel
theorem dX8_inject_119 : decode cX8_inject 119 = .ok (.if_icmp .ne 42, 3) := by decide +kernel
theorem dX8_inject_122 : decode cX8_inject 122 = .ok (.aload_n 0, 1) := by decide +kernel
theorem dX8_inject_123 : decode cX8_inject 123 = .ok (.getfield 16, 3) := by decide +kernel
theorem dX8_inject_126 : decode cX8_inject 126 = .ok (.iload 7, 2) := by decide +kernel
theorem dX8_inject_128 : decode cX8_inject 128 = .ok (.iaload, 1) := by decide +kernel
theorem dX8_inject_129 : decode cX8_inject 129 = .ok (.iload 4, 2) := by decide +kernel
theorem dX8_inject_131 : decode cX8_inject 131 = .ok (.if_icmp .ne 30, 3) := by decide +kernel
theorem dX8_inject_134 : decode cX8_inject 134 = .ok (.aload_n 0, 1) := by decide +kernel
theorem dX8_inject_135 : decode cX8_inject 135 = .ok (.getfield 46, 3) := by decide +kernel
theorem dX8_inject_138 : decode cX8_inject 138 = .ok (.iload 7, 2) := by decide +kernel
theorem dX8_inject_140 : decode cX8_inject 140 = .ok (.laload, 1) := by decide +kernel
theorem dX8_inject_141 : decode cX8_inject 141 = .ok (.lload 5, 2) := by decide +kernel
theorem dX8_inject_143 : decode cX8_inject 143 = .ok (.lcmp, 1) := by decide +kernel
theorem dX8_inject_144 : decode cX8_inject 144 = .ok (.ifCond .ne 17, 3) := by decide +kernel
theorem dX8_inject_147 : decode cX8_inject 147 = .ok (.aload_n 0, 1) := by decide +kernel
theorem dX8_inject_148 : decode cX8_inject 148 = .ok (.getfield 19, 3) := by decide +kernel
theorem dX8_inject_151 : decode cX8_inject 151 = .ok (.iload 7, 2) := by decide +kernel
theorem dX8_inject_153 : decode cX8_inject 153 = .ok (.iaload, 1) := by decide +kernel
theorem dX8_inject_154 : decode cX8_inject 154 = .ok (.ifCond .ne 7, 3) := by decide +kernel
theorem dX8_inject_157 : decode cX8_inject 157 = .ok (.iconst 1, 1) := by decide +kernel
theorem dX8_inject_158 : decode cX8_inject 158 = .ok (.goto 4, 3) := by decide +kernel
theorem dX8_inject_161 : decode cX8_inject 161 = .ok (.iconst 0, 1) := by decide +kernel
theorem dX8_inject_162 : decode cX8_inject 162 = .ok (.iconst 2, 1) := by decide +kernel
theorem dX8_inject_163 : decode cX8_inject 163 = .ok (.invokevirtual 203, 3) := by decide +kernel
theorem dX8_inject_166 : decode cX8_inject 166 = .ok (.ifCond .eq 5, 3) := by decide +kernel
theorem dX8_inject_169 : decode cX8_inject 169 = .ok (.iconst 0, 1) := by decide +kernel
theorem dX8_inject_170 : decode cX8_inject 170 = .ok (.ireturn, 1) := by decide +kernel
theorem dX8_inject_171 : decode cX8_inject 171 = .ok (.iinc 7 1, 3) := by decide +kernel
theorem dX8_inject_174 : decode cX8_inject 174 = .ok (.goto (-84), 3) := by decide +kernel
theorem dX8_inject_177 : decode cX8_inject 177 = .ok (.aload_n 0, 1) := by decide +kernel
theorem dX8_inject_178 : decode cX8_inject 178 = .ok (.aload_n 0, 1) := by decide +kernel
theorem dX8_inject_179 : decode cX8_inject 179 = .ok (.getfield 200, 3) := by decide +kernel
theorem dX8_inject_182 : decode cX8_inject 182 = .ok (.sipush 240, 3) := by decide +kernel
theorem dX8_inject_185 : decode cX8_inject 185 = .ok (.if_icmp .ne 7, 3) := by decide +kernel
theorem dX8_inject_188 : decode cX8_inject 188 = .ok (.iconst 1, 1) := by decide +kernel
theorem dX8_inject_189 : decode cX8_inject 189 = .ok (.goto 4, 3) := by decide +kernel
theorem dX8_inject_192 : decode cX8_inject 192 = .ok (.iconst 0, 1) := by decide +kernel
theorem dX8_inject_193 : decode cX8_inject 193 = .ok (.iconst 3, 1) := by decide +kernel
theorem dX8_inject_194 : decode cX8_inject 194 = .ok (.invokevirtual 203, 3) := by decide +kernel
theorem dX8_inject_197 : decode cX8_inject 197 = .ok (.ifCond .eq 5, 3) := by decide +kernel
theorem dX8_inject_200 : decode cX8_inject 200 = .ok (.iconst 0, 1) := by decide +kernel
theorem dX8_inject_201 : decode cX8_inject 201 = .ok (.ireturn, 1) := by decide +kernel
theorem dX8_inject_202 : decode cX8_inject 202 = .ok (.aload_n 0, 1) := by decide +kernel
theorem dX8_inject_203 : decode cX8_inject 203 = .ok (.getfield 19, 3) := by decide +kernel
theorem dX8_inject_206 : decode cX8_inject 206 = .ok (.aload_n 0, 1) := by decide +kernel
theorem dX8_inject_207 : decode cX8_inject 207 = .ok (.getfield 200, 3) := by decide +kernel
theorem dX8_inject_210 : decode cX8_inject 210 = .ok (.iconst 0, 1) := by decide +kernel
theorem dX8_inject_211 : decode cX8_inject 211 = .ok (.iastore, 1) := by decide +kernel
theorem dX8_inject_212 : decode cX8_inject 212 = .ok (.aload_n 0, 1) := by decide +kernel
theorem dX8_inject_213 : decode cX8_inject 213 = .ok (.iload_n 2, 1) := by decide +kernel
theorem dX8_inject_214 : decode cX8_inject 214 = .ok (.iload_n 3, 1) := by decide +kernel
theorem dX8_inject_215 : decode cX8_inject 215 = .ok (.iload 4, 2) := by decide +kernel
theorem dX8_inject_217 : decode cX8_inject 217 = .ok (.lload 5, 2) := by decide +kernel
theorem dX8_inject_219 : decode cX8_inject 219 = .ok (.invokevirtual 207, 3) := by decide +kernel
theorem dX8_inject_222 : decode cX8_inject 222 = .ok (.istore 7, 2) := by decide +kernel
theorem dX8_inject_224 : decode cX8_inject 224 = .ok (.aload_n 0, 1) := by decide +kernel
theorem dX8_inject_225 : decode cX8_inject 225 = .ok (.getfield 55, 3) := by decide +kernel
theorem dX8_inject_228 : decode cX8_inject 228 = .ok (.sipush 240, 3) := by decide +kernel
theorem dX8_inject_231 : decode cX8_inject 231 = .ok (.iload_n 1, 1) := by decide +kernel
theorem dX8_inject_232 : decode cX8_inject 232 = .ok (.imul, 1) := by decide +kernel
theorem dX8_inject_233 : decode cX8_inject 233 = .ok (.iload 7, 2) := by decide +kernel
theorem dX8_inject_235 : decode cX8_inject 235 = .ok (.iadd, 1) := by decide +kernel
theorem dX8_inject_236 : decode cX8_inject 236 = .ok (.iconst 1, 1) := by decide +kernel
theorem dX8_inject_237 : decode cX8_inject 237 = .ok (.bastore, 1) := by decide +kernel
theorem dX8_inject_238 : decode cX8_inject 238 = .ok (.iload 7, 2) := by decide +kernel
theorem dX8_inject_240 : decode cX8_inject 240 = .ok (.ireturn, 1) := by decide +kernel
theorem dX8_event_0 : decode cX8_event 0 = .ok (.aload_n 0, 1) := by decide +kernel
theorem dX8_event_1 : decode cX8_event 1 = .ok (.iconst 0, 1) := by decide +kernel
theorem dX8_event_2 : decode cX8_event 2 = .ok (.putfield 190, 3) := by decide +kernel
theorem dX8_event_5 : decode cX8_event 5 = .ok (.aload_n 0, 1) := by decide +kernel
theorem dX8_event_6 : decode cX8_event 6 = .ok (.iload_n 2, 1) := by decide +kernel
theorem dX8_event_7 : decode cX8_event 7 = .ok (.iconst 0, 1) := by decide +kernel
theorem dX8_event_8 : decode cX8_event 8 = .ok (.bipush 7, 2) := by decide +kernel
theorem dX8_event_10 : decode cX8_event 10 = .ok (.invokestatic 196, 3) := by decide +kernel
theorem dX8_event_13 : decode cX8_event 13 = .ok (.ifCond .ne 7, 3) := by decide +kernel
theorem dX8_event_16 : decode cX8_event 16 = .ok (.iconst 1, 1) := by decide +kernel
theorem dX8_event_17 : decode cX8_event 17 = .ok (.goto 4, 3) := by decide +kernel
theorem dX8_event_20 : decode cX8_event 20 = .ok (.iconst 0, 1) := by decide +kernel
theorem dX8_event_21 : decode cX8_event 21 = .ok (.iconst 1, 1) := by decide +kernel
theorem dX8_event_22 : decode cX8_event 22 = .ok (.invokevirtual 203, 3) := by decide +kernel
theorem dX8_event_25 : decode cX8_event 25 = .ok (.ifCond .ne 24, 3) := by decide +kernel
theorem dX8_event_28 : decode cX8_event 28 = .ok (.aload_n 0, 1) := by decide +kernel
theorem dX8_event_29 : decode cX8_event 29 = .ok (.aload_n 0, 1) := by decide +kernel
theorem dX8_event_30 : decode cX8_event 30 = .ok (.iload_n 1, 1) := by decide +kernel
theorem dX8_event_31 : decode cX8_event 31 = .ok (.invokevirtual 263, 3) := by decide +kernel
theorem dX8_event_34 : decode cX8_event 34 = .ok (.ifCond .ne 7, 3) := by decide +kernel
theorem dX8_event_37 : decode cX8_event 37 = .ok (.iconst 1, 1) := by decide +kernel
theorem dX8_event_38 : decode cX8_event 38 = .ok (.goto 4, 3) := by decide +kernel
theorem dX8_event_41 : decode cX8_event 41 = .ok (.iconst 0, 1) := by decide +kernel
theorem dX8_event_42 : decode cX8_event 42 = .ok (.iconst 2, 1) := by decide +kernel
theorem dX8_event_43 : decode cX8_event 43 = .ok (.invokevirtual 203, 3) := by decide +kernel
theorem dX8_event_46 : decode cX8_event 46 = .ok (.ifCond .eq 5, 3) := by decide +kernel
theorem dX8_event_49 : decode cX8_event 49 = .ok (.iconst 0, 1) := by decide +kernel
theorem dX8_event_50 : decode cX8_event 50 = .ok (.ireturn, 1) := by decide +kernel
theorem dX8_event_51 : decode cX8_event 51 = .ok (.iconst 0, 1) := by decide +kernel
theorem dX8_event_52 : decode cX8_event 52 = .ok (.istore_n 3, 1) := by decide +kernel
theorem dX8_event_53 : decode cX8_event 53 = .ok (.iload_n 2, 1) := by decide +kernel
theorem dX8_event_54 : decode cX8_event 54 = .ok (.tableswitch 131 0 6 #[42, 49, 56, 63, 70, 85, 92], 42) := by decide +kernel
theorem dX8_event_96 : decode cX8_event 96 = .ok (.aload_n 0, 1) := by decide +kernel
theorem dX8_event_97 : decode cX8_event 97 = .ok (.getfield 9, 3) := by decide +kernel
theorem dX8_event_100 : decode cX8_event 100 = .ok (.iload_n 1, 1) := by decide +kernel
theorem dX8_event_101 : decode cX8_event 101 = .ok (.iaload, 1) := by decide +kernel
theorem dX8_event_102 : decode cX8_event 102 = .ok (.ireturn, 1) := by decide +kernel
theorem dX8_event_103 : decode cX8_event 103 = .ok (.aload_n 0, 1) := by decide +kernel
theorem dX8_event_104 : decode cX8_event 104 = .ok (.getfield 13, 3) := by decide +kernel
theorem dX8_event_107 : decode cX8_event 107 = .ok (.iload_n 1, 1) := by decide +kernel
theorem dX8_event_108 : decode cX8_event 108 = .ok (.iaload, 1) := by decide +kernel
theorem dX8_event_109 : decode cX8_event 109 = .ok (.ireturn, 1) := by decide +kernel
theorem dX8_event_110 : decode cX8_event 110 = .ok (.aload_n 0, 1) := by decide +kernel
theorem dX8_event_111 : decode cX8_event 111 = .ok (.getfield 16, 3) := by decide +kernel
theorem dX8_event_114 : decode cX8_event 114 = .ok (.iload_n 1, 1) := by decide +kernel
theorem dX8_event_115 : decode cX8_event 115 = .ok (.iaload, 1) := by decide +kernel
theorem dX8_event_116 : decode cX8_event 116 = .ok (.ireturn, 1) := by decide +kernel
theorem dX8_event_117 : decode cX8_event 117 = .ok (.aload_n 0, 1) := by decide +kernel
theorem dX8_event_118 : decode cX8_event 118 = .ok (.getfield 28, 3) := by decide +kernel
theorem dX8_event_121 : decode cX8_event 121 = .ok (.iload_n 1, 1) := by decide +kernel
theorem dX8_event_122 : decode cX8_event 122 = .ok (.iaload, 1) := by decide +kernel
theorem dX8_event_123 : decode cX8_event 123 = .ok (.ireturn, 1) := by decide +kernel
theorem dX8_event_124 : decode cX8_event 124 = .ok (.aload_n 0, 1) := by decide +kernel
theorem dX8_event_125 : decode cX8_event 125 = .ok (.getfield 61, 3) := by decide +kernel
theorem dX8_event_128 : decode cX8_event 128 = .ok (.iload_n 1, 1) := by decide +kernel
theorem dX8_event_129 : decode cX8_event 129 = .ok (.baload, 1) := by decide +kernel
theorem dX8_event_130 : decode cX8_event 130 = .ok (.ifCond .eq 7, 3) := by decide +kernel
theorem dX8_event_133 : decode cX8_event 133 = .ok (.iconst 1, 1) := by decide +kernel
theorem dX8_event_134 : decode cX8_event 134 = .ok (.goto 4, 3) := by decide +kernel
theorem dX8_event_137 : decode cX8_event 137 = .ok (.iconst 0, 1) := by decide +kernel
theorem dX8_event_138 : decode cX8_event 138 = .ok (.ireturn, 1) := by decide +kernel
theorem dX8_event_139 : decode cX8_event 139 = .ok (.aload_n 0, 1) := by decide +kernel
theorem dX8_event_140 : decode cX8_event 140 = .ok (.getfield 19, 3) := by decide +kernel
theorem dX8_event_143 : decode cX8_event 143 = .ok (.iload_n 1, 1) := by decide +kernel
theorem dX8_event_144 : decode cX8_event 144 = .ok (.iaload, 1) := by decide +kernel
theorem dX8_event_145 : decode cX8_event 145 = .ok (.ireturn, 1) := by decide +kernel
theorem dX8_event_146 : decode cX8_event 146 = .ok (.iconst 0, 1) := by decide +kernel
theorem dX8_event_147 : decode cX8_event 147 = .ok (.istore 4, 2) := by decide +kernel
theorem dX8_event_149 : decode cX8_event 149 = .ok (.iload 4, 2) := by decide +kernel
theorem dX8_event_151 : decode cX8_event 151 = .ok (.aload_n 0, 1) := by decide +kernel
theorem dX8_event_152 : decode cX8_event 152 = .ok (.getfield 193, 3) := by decide +kernel
theorem dX8_event_155 : decode cX8_event 155 = .ok (.if_icmp .ge 28, 3) := by decide +kernel
theorem dX8_event_158 : decode cX8_event 158 = .ok (.aload_n 0, 1) := by decide +kernel
theorem dX8_event_159 : decode cX8_event 159 = .ok (.getfield 55, 3) := by decide +kernel
theorem dX8_event_162 : decode cX8_event 162 = .ok (.sipush 240, 3) := by decide +kernel
theorem dX8_event_165 : decode cX8_event 165 = .ok (.iload 4, 2) := by decide +kernel
theorem dX8_event_167 : decode cX8_event 167 = .ok (.imul, 1) := by decide +kernel
theorem dX8_event_168 : decode cX8_event 168 = .ok (.iload_n 1, 1) := by decide +kernel
theorem dX8_event_169 : decode cX8_event 169 = .ok (.iadd, 1) := by decide +kernel
theorem dX8_event_170 : decode cX8_event 170 = .ok (.baload, 1) := by decide +kernel
theorem dX8_event_171 : decode cX8_event 171 = .ok (.ifCond .eq 6, 3) := by decide +kernel
theorem dX8_event_174 : decode cX8_event 174 = .ok (.iinc 3 1, 3) := by decide +kernel
theorem dX8_event_177 : decode cX8_event 177 = .ok (.iinc 4 1, 3) := by decide +kernel
theorem dX8_event_180 : decode cX8_event 180 = .ok (.goto (-31), 3) := by decide +kernel
theorem dX8_event_183 : decode cX8_event 183 = .ok (.iload_n 3, 1) := by decide +kernel
theorem dX8_event_184 : decode cX8_event 184 = .ok (.ireturn, 1) := by decide +kernel
theorem dX8_event_185 : decode cX8_event 185 = .ok (.iconst 0, 1) := by decide +kernel
theorem dX8_event_186 : decode cX8_event 186 = .ok (.istore 4, 2) := by decide +kernel
theorem dX8_event_188 : decode cX8_event 188 = .ok (.iload 4, 2) := by decide +kernel
theorem dX8_event_190 : decode cX8_event 190 = .ok (.iload_n 1, 1) := by decide +kernel
theorem dX8_event_191 : decode cX8_event 191 = .ok (.if_icmp .gt 28, 3) := by decide +kernel
theorem dX8_event_194 : decode cX8_event 194 = .ok (.aload_n 0, 1) := by decide +kernel
theorem dX8_event_195 : decode cX8_event 195 = .ok (.getfield 51, 3) := by decide +kernel
theorem dX8_event_198 : decode cX8_event 198 = .ok (.sipush 240, 3) := by decide +kernel
theorem dX8_event_201 : decode cX8_event 201 = .ok (.iload_n 1, 1) := by decide +kernel
theorem dX8_event_202 : decode cX8_event 202 = .ok (.imul, 1) := by decide +kernel
theorem dX8_event_203 : decode cX8_event 203 = .ok (.iload 4, 2) := by decide +kernel
theorem dX8_event_205 : decode cX8_event 205 = .ok (.iadd, 1) := by decide +kernel
theorem dX8_event_206 : decode cX8_event 206 = .ok (.baload, 1) := by decide +kernel
theorem dX8_event_207 : decode cX8_event 207 = .ok (.ifCond .eq 6, 3) := by decide +kernel
theorem dX8_event_210 : decode cX8_event 210 = .ok (.iinc 3 1, 3) := by decide +kernel
theorem dX8_event_213 : decode cX8_event 213 = .ok (.iinc 4 1, 3) := by decide +kernel
theorem dX8_event_216 : decode cX8_event 216 = .ok (.goto (-28), 3) := by decide +kernel
theorem dX8_event_219 : decode cX8_event 219 = .ok (.iload_n 3, 1) := by decide +kernel
theorem dX8_event_220 : decode cX8_event 220 = .ok (.ireturn, 1) := by decide +kernel
theorem dX8_hash__0 : decode cX8_hash_ 0 = .ok (.aload_n 0, 1) := by decide +kernel
theorem dX8_hash__1 : decode cX8_hash_ 1 = .ok (.iconst 0, 1) := by decide +kernel
theorem dX8_hash__2 : decode cX8_hash_ 2 = .ok (.putfield 190, 3) := by decide +kernel
theorem dX8_hash__5 : decode cX8_hash_ 5 = .ok (.aload_n 0, 1) := by decide +kernel
theorem dX8_hash__6 : decode cX8_hash_ 6 = .ok (.aload_n 0, 1) := by decide +kernel
theorem dX8_hash__7 : decode cX8_hash_ 7 = .ok (.iload_n 1, 1) := by decide +kernel
theorem dX8_hash__8 : decode cX8_hash_ 8 = .ok (.invokevirtual 263, 3) := by decide +kernel
theorem dX8_hash__11 : decode cX8_hash_ 11 = .ok (.ifCond .eq 13, 3) := by decide +kernel
theorem dX8_hash__14 : decode cX8_hash_ 14 = .ok (.iload_n 2, 1) := by decide +kernel
theorem dX8_hash__15 : decode cX8_hash_ 15 = .ok (.iconst 0, 1) := by decide +kernel
theorem dX8_hash__16 : decode cX8_hash_ 16 = .ok (.bipush 7, 2) := by decide +kernel
theorem dX8_hash__18 : decode cX8_hash_ 18 = .ok (.invokestatic 196, 3) := by decide +kernel
theorem dX8_hash__21 : decode cX8_hash_ 21 = .ok (.ifCond .ne 7, 3) := by decide +kernel
theorem dX8_hash__24 : decode cX8_hash_ 24 = .ok (.iconst 1, 1) := by decide +kernel
theorem dX8_hash__25 : decode cX8_hash_ 25 = .ok (.goto 4, 3) := by decide +kernel
theorem dX8_hash__28 : decode cX8_hash_ 28 = .ok (.iconst 0, 1) := by decide +kernel
theorem dX8_hash__29 : decode cX8_hash_ 29 = .ok (.iconst 1, 1) := by decide +kernel
theorem dX8_hash__30 : decode cX8_hash_ 30 = .ok (.invokevirtual 203, 3) := by decide +kernel
theorem dX8_hash__33 : decode cX8_hash_ 33 = .ok (.ifCond .eq 7, 3) := by decide +kernel
theorem dX8_hash__36 : decode cX8_hash_ 36 = .ok (.iconst 0, 1) := by decide +kernel
theorem dX8_hash__37 : decode cX8_hash_ 37 = .ok (.goto 14, 3) := by decide +kernel
theorem dX8_hash__40 : decode cX8_hash_ 40 = .ok (.aload_n 0, 1) := by decide +kernel
theorem dX8_hash__41 : decode cX8_hash_ 41 = .ok (.getfield 31, 3) := by decide +kernel
theorem dX8_hash__44 : decode cX8_hash_ 44 = .ok (.bipush 8, 2) := by decide +kernel
theorem dX8_hash__46 : decode cX8_hash_ 46 = .ok (.iload_n 1, 1) := by decide +kernel
theorem dX8_hash__47 : decode cX8_hash_ 47 = .ok (.imul, 1) := by decide +kernel
theorem dX8_hash__48 : decode cX8_hash_ 48 = .ok (.iload_n 2, 1) := by decide +kernel
theorem dX8_hash__49 : decode cX8_hash_ 49 = .ok (.iadd, 1) := by decide +kernel
theorem dX8_hash__50 : decode cX8_hash_ 50 = .ok (.iaload, 1) := by decide +kernel
theorem dX8_hash__51 : decode cX8_hash_ 51 = .ok (.ireturn, 1) := by decide +kernel
theorem dX8_sees__0 : decode cX8_sees_ 0 = .ok (.aload_n 0, 1) := by decide +kernel
theorem dX8_sees__1 : decode cX8_sees_ 1 = .ok (.iconst 0, 1) := by decide +kernel
theorem dX8_sees__2 : decode cX8_sees_ 2 = .ok (.putfield 190, 3) := by decide +kernel
theorem dX8_sees__5 : decode cX8_sees_ 5 = .ok (.aload_n 0, 1) := by decide +kernel
theorem dX8_sees__6 : decode cX8_sees_ 6 = .ok (.aload_n 0, 1) := by decide +kernel
theorem dX8_sees__7 : decode cX8_sees_ 7 = .ok (.iload_n 1, 1) := by decide +kernel
theorem dX8_sees__8 : decode cX8_sees_ 8 = .ok (.invokevirtual 263, 3) := by decide +kernel
theorem dX8_sees__11 : decode cX8_sees_ 11 = .ok (.ifCond .eq 11, 3) := by decide +kernel
theorem dX8_sees__14 : decode cX8_sees_ 14 = .ok (.aload_n 0, 1) := by decide +kernel
theorem dX8_sees__15 : decode cX8_sees_ 15 = .ok (.iload_n 2, 1) := by decide +kernel
theorem dX8_sees__16 : decode cX8_sees_ 16 = .ok (.invokevirtual 263, 3) := by decide +kernel
theorem dX8_sees__19 : decode cX8_sees_ 19 = .ok (.ifCond .ne 7, 3) := by decide +kernel
theorem dX8_sees__22 : decode cX8_sees_ 22 = .ok (.iconst 1, 1) := by decide +kernel
theorem dX8_sees__23 : decode cX8_sees_ 23 = .ok (.goto 4, 3) := by decide +kernel
theorem dX8_sees__26 : decode cX8_sees_ 26 = .ok (.iconst 0, 1) := by decide +kernel
theorem dX8_sees__27 : decode cX8_sees_ 27 = .ok (.iconst 1, 1) := by decide +kernel
theorem dX8_sees__28 : decode cX8_sees_ 28 = .ok (.invokevirtual 203, 3) := by decide +kernel
theorem dX8_sees__31 : decode cX8_sees_ 31 = .ok (.ifCond .eq 5, 3) := by decide +kernel
theorem dX8_sees__34 : decode cX8_sees_ 34 = .ok (.iconst 0, 1) := by decide +kernel
theorem dX8_sees__35 : decode cX8_sees_ 35 = .ok (.ireturn, 1) := by decide +kernel
theorem dX8_sees__36 : decode cX8_sees_ 36 = .ok (.iload_n 3, 1) := by decide +kernel
theorem dX8_sees__37 : decode cX8_sees_ 37 = .ok (.ifCond .eq 12, 3) := by decide +kernel
theorem dX8_sees__40 : decode cX8_sees_ 40 = .ok (.aload_n 0, 1) := by decide +kernel
theorem dX8_sees__41 : decode cX8_sees_ 41 = .ok (.iload_n 1, 1) := by decide +kernel
theorem dX8_sees__42 : decode cX8_sees_ 42 = .ok (.iload_n 2, 1) := by decide +kernel
theorem dX8_sees__43 : decode cX8_sees_ 43 = .ok (.invokevirtual 218, 3) := by decide +kernel
theorem dX8_sees__46 : decode cX8_sees_ 46 = .ok (.goto 9, 3) := by decide +kernel
theorem dX8_sees__49 : decode cX8_sees_ 49 = .ok (.aload_n 0, 1) := by decide +kernel
theorem dX8_sees__50 : decode cX8_sees_ 50 = .ok (.iload_n 1, 1) := by decide +kernel
theorem dX8_sees__51 : decode cX8_sees_ 51 = .ok (.iload_n 2, 1) := by decide +kernel
theorem dX8_sees__52 : decode cX8_sees_ 52 = .ok (.invokevirtual 237, 3) := by decide +kernel
theorem dX8_sees__55 : decode cX8_sees_ 55 = .ok (.ireturn, 1) := by decide +kernel
theorem dX8_vote_0 : decode cX8_vote 0 = .ok (.aload_n 0, 1) := by decide +kernel
theorem dX8_vote_1 : decode cX8_vote 1 = .ok (.iconst 0, 1) := by decide +kernel
theorem dX8_vote_2 : decode cX8_vote 2 = .ok (.putfield 190, 3) := by decide +kernel
theorem dX8_vote_5 : decode cX8_vote 5 = .ok (.aload_n 0, 1) := by decide +kernel
theorem dX8_vote_6 : decode cX8_vote 6 = .ok (.aload_n 0, 1) := by decide +kernel
theorem dX8_vote_7 : decode cX8_vote 7 = .ok (.iload_n 2, 1) := by decide +kernel
theorem dX8_vote_8 : decode cX8_vote 8 = .ok (.invokevirtual 263, 3) := by decide +kernel
theorem dX8_vote_11 : decode cX8_vote 11 = .ok (.ifCond .eq 11, 3) := by decide +kernel
theorem dX8_vote_14 : decode cX8_vote 14 = .ok (.aload_n 0, 1) := by decide +kernel
theorem dX8_vote_15 : decode cX8_vote 15 = .ok (.iload_n 1, 1) := by decide +kernel
theorem dX8_vote_16 : decode cX8_vote 16 = .ok (.invokevirtual 263, 3) := by decide +kernel
theorem dX8_vote_19 : decode cX8_vote 19 = .ok (.ifCond .ne 7, 3) := by decide +kernel
theorem dX8_vote_22 : decode cX8_vote 22 = .ok (.iconst 1, 1) := by decide +kernel
theorem dX8_vote_23 : decode cX8_vote 23 = .ok (.goto 4, 3) := by decide +kernel
theorem dX8_vote_26 : decode cX8_vote 26 = .ok (.iconst 0, 1) := by decide +kernel
theorem dX8_vote_27 : decode cX8_vote 27 = .ok (.iconst 1, 1) := by decide +kernel
theorem dX8_vote_28 : decode cX8_vote 28 = .ok (.invokevirtual 203, 3) := by decide +kernel
theorem dX8_vote_31 : decode cX8_vote 31 = .ok (.ifCond .ne 49, 3) := by decide +kernel
theorem dX8_vote_34 : decode cX8_vote 34 = .ok (.aload_n 0, 1) := by decide +kernel
theorem dX8_vote_35 : decode cX8_vote 35 = .ok (.aload_n 0, 1) := by decide +kernel
theorem dX8_vote_36 : decode cX8_vote 36 = .ok (.getfield 61, 3) := by decide +kernel
theorem dX8_vote_39 : decode cX8_vote 39 = .ok (.iload_n 2, 1) := by decide +kernel
theorem dX8_vote_40 : decode cX8_vote 40 = .ok (.baload, 1) := by decide +kernel
theorem dX8_vote_41 : decode cX8_vote 41 = .ok (.ifCond .eq 27, 3) := by decide +kernel
theorem dX8_vote_44 : decode cX8_vote 44 = .ok (.aload_n 0, 1) := by decide +kernel
theorem dX8_vote_45 : decode cX8_vote 45 = .ok (.getfield 61, 3) := by decide +kernel
theorem dX8_vote_48 : decode cX8_vote 48 = .ok (.iload_n 1, 1) := by decide +kernel
theorem dX8_vote_49 : decode cX8_vote 49 = .ok (.baload, 1) := by decide +kernel
theorem dX8_vote_50 : decode cX8_vote 50 = .ok (.ifCond .eq 18, 3) := by decide +kernel
theorem dX8_vote_53 : decode cX8_vote 53 = .ok (.aload_n 0, 1) := by decide +kernel
theorem dX8_vote_54 : decode cX8_vote 54 = .ok (.getfield 28, 3) := by decide +kernel
theorem dX8_vote_57 : decode cX8_vote 57 = .ok (.iload_n 1, 1) := by decide +kernel
theorem dX8_vote_58 : decode cX8_vote 58 = .ok (.iaload, 1) := by decide +kernel
theorem dX8_vote_59 : decode cX8_vote 59 = .ok (.aload_n 0, 1) := by decide +kernel
theorem dX8_vote_60 : decode cX8_vote 60 = .ok (.getfield 28, 3) := by decide +kernel
theorem dX8_vote_63 : decode cX8_vote 63 = .ok (.iload_n 2, 1) := by decide +kernel
theorem dX8_vote_64 : decode cX8_vote 64 = .ok (.iaload, 1) := by decide +kernel
theorem dX8_vote_65 : decode cX8_vote 65 = .ok (.if_icmp .gt 7, 3) := by decide +kernel
theorem dX8_vote_68 : decode cX8_vote 68 = .ok (.iconst 1, 1) := by decide +kernel
theorem dX8_vote_69 : decode cX8_vote 69 = .ok (.goto 4, 3) := by decide +kernel
theorem dX8_vote_72 : decode cX8_vote 72 = .ok (.iconst 0, 1) := by decide +kernel
theorem dX8_vote_73 : decode cX8_vote 73 = .ok (.iconst 2, 1) := by decide +kernel
theorem dX8_vote_74 : decode cX8_vote 74 = .ok (.invokevirtual 203, 3) := by decide +kernel
theorem dX8_vote_77 : decode cX8_vote 77 = .ok (.ifCond .eq 5, 3) := by decide +kernel
theorem dX8_vote_80 : decode cX8_vote 80 = .ok (.iconst 0, 1) := by decide +kernel
theorem dX8_vote_81 : decode cX8_vote 81 = .ok (.ireturn, 1) := by decide +kernel
theorem dX8_vote_82 : decode cX8_vote 82 = .ok (.aload_n 0, 1) := by decide +kernel
theorem dX8_vote_83 : decode cX8_vote 83 = .ok (.iload_n 1, 1) := by decide +kernel
theorem dX8_vote_84 : decode cX8_vote 84 = .ok (.iload_n 2, 1) := by decide +kernel
theorem dX8_vote_85 : decode cX8_vote 85 = .ok (.invokevirtual 240, 3) := by decide +kernel
theorem dX8_vote_88 : decode cX8_vote 88 = .ok (.ireturn, 1) := by decide +kernel
theorem dX8_find_0 : decode cX8_find 0 = .ok (.aload_n 0, 1) := by decide +kernel
theorem dX8_find_1 : decode cX8_find 1 = .ok (.getfield 71, 3) := by decide +kernel
theorem dX8_find_4 : decode cX8_find 4 = .ok (.iload_n 1, 1) := by decide +kernel
theorem dX8_find_5 : decode cX8_find 5 = .ok (.if_icmp .ne 4, 3) := by decide +kernel
theorem dX8_find_8 : decode cX8_find 8 = .ok (.return_, 1) := by decide +kernel
theorem dX8_find_9 : decode cX8_find 9 = .ok (.aload_n 0, 1) := by decide +kernel
theorem dX8_find_10 : decode cX8_find 10 = .ok (.iload_n 1, 1) := by decide +kernel
theorem dX8_find_11 : decode cX8_find 11 = .ok (.putfield 71, 3) := by decide +kernel
theorem dX8_find_14 : decode cX8_find 14 = .ok (.iconst 0, 1) := by decide +kernel
theorem dX8_find_15 : decode cX8_find 15 = .ok (.istore_n 2, 1) := by decide +kernel
theorem dX8_find_16 : decode cX8_find 16 = .ok (.sipush 240, 3) := by decide +kernel
theorem dX8_find_19 : decode cX8_find 19 = .ok (.iload_n 1, 1) := by decide +kernel
theorem dX8_find_20 : decode cX8_find 20 = .ok (.imul, 1) := by decide +kernel
theorem dX8_find_21 : decode cX8_find 21 = .ok (.istore_n 3, 1) := by decide +kernel
theorem dX8_find_22 : decode cX8_find 22 = .ok (.iconst 0, 1) := by decide +kernel
theorem dX8_find_23 : decode cX8_find 23 = .ok (.istore 4, 2) := by decide +kernel
theorem dX8_find_25 : decode cX8_find 25 = .ok (.iload 4, 2) := by decide +kernel
theorem dX8_find_27 : decode cX8_find 27 = .ok (.aload_n 0, 1) := by decide +kernel
theorem dX8_find_28 : decode cX8_find 28 = .ok (.getfield 200, 3) := by decide +kernel
theorem dX8_find_31 : decode cX8_find 31 = .ok (.if_icmp .ge 204, 3) := by decide +kernel
theorem dX8_find_34 : decode cX8_find 34 = .ok (.aload_n 0, 1) := by decide +kernel
theorem dX8_find_35 : decode cX8_find 35 = .ok (.getfield 75, 3) := by decide +kernel
theorem dX8_find_38 : decode cX8_find 38 = .ok (.iload 4, 2) := by decide +kernel
theorem dX8_find_40 : decode cX8_find 40 = .ok (.iconst 0, 1) := by decide +kernel
theorem dX8_find_41 : decode cX8_find 41 = .ok (.iastore, 1) := by decide +kernel
theorem dX8_find_42 : decode cX8_find 42 = .ok (.aload_n 0, 1) := by decide +kernel
theorem dX8_find_43 : decode cX8_find 43 = .ok (.getfield 78, 3) := by decide +kernel
theorem dX8_find_46 : decode cX8_find 46 = .ok (.iload 4, 2) := by decide +kernel
theorem dX8_find_48 : decode cX8_find 48 = .ok (.iconst 0, 1) := by decide +kernel
theorem dX8_find_49 : decode cX8_find 49 = .ok (.iastore, 1) := by decide +kernel
theorem dX8_find_50 : decode cX8_find 50 = .ok (.aload_n 0, 1) := by decide +kernel
theorem dX8_find_51 : decode cX8_find 51 = .ok (.getfield 81, 3) := by decide +kernel
theorem dX8_find_54 : decode cX8_find 54 = .ok (.iload 4, 2) := by decide +kernel
theorem dX8_find_56 : decode cX8_find 56 = .ok (.iconst (-1), 1) := by decide +kernel
theorem dX8_find_57 : decode cX8_find 57 = .ok (.iastore, 1) := by decide +kernel
theorem dX8_find_58 : decode cX8_find 58 = .ok (.aload_n 0, 1) := by decide +kernel
theorem dX8_find_59 : decode cX8_find 59 = .ok (.getfield 55, 3) := by decide +kernel
theorem dX8_find_62 : decode cX8_find 62 = .ok (.iload_n 3, 1) := by decide +kernel
theorem dX8_find_63 : decode cX8_find 63 = .ok (.iload 4, 2) := by decide +kernel
theorem dX8_find_65 : decode cX8_find 65 = .ok (.iadd, 1) := by decide +kernel
theorem dX8_find_66 : decode cX8_find 66 = .ok (.baload, 1) := by decide +kernel
theorem dX8_find_67 : decode cX8_find 67 = .ok (.ifCond .eq 162, 3) := by decide +kernel
theorem dX8_find_70 : decode cX8_find 70 = .ok (.aload_n 0, 1) := by decide +kernel
theorem dX8_find_71 : decode cX8_find 71 = .ok (.getfield 61, 3) := by decide +kernel
theorem dX8_find_74 : decode cX8_find 74 = .ok (.iload 4, 2) := by decide +kernel
theorem dX8_find_76 : decode cX8_find 76 = .ok (.baload, 1) := by decide +kernel
theorem dX8_find_77 : decode cX8_find 77 = .ok (.ifCond .ne 6, 3) := by decide +kernel
theorem dX8_find_80 : decode cX8_find 80 = .ok (.goto 149, 3) := by decide +kernel
theorem dX8_find_83 : decode cX8_find 83 = .ok (.aload_n 0, 1) := by decide +kernel
theorem dX8_find_84 : decode cX8_find 84 = .ok (.getfield 28, 3) := by decide +kernel
theorem dX8_find_87 : decode cX8_find 87 = .ok (.iload 4, 2) := by decide +kernel
theorem dX8_find_89 : decode cX8_find 89 = .ok (.iaload, 1) := by decide +kernel
theorem dX8_find_90 : decode cX8_find 90 = .ok (.iload_n 2, 1) := by decide +kernel
theorem dX8_find_91 : decode cX8_find 91 = .ok (.if_icmp .le 11, 3) := by decide +kernel
theorem dX8_find_94 : decode cX8_find 94 = .ok (.aload_n 0, 1) := by decide +kernel
theorem dX8_find_95 : decode cX8_find 95 = .ok (.getfield 28, 3) := by decide +kernel
theorem dX8_find_98 : decode cX8_find 98 = .ok (.iload 4, 2) := by decide +kernel
theorem dX8_find_100 : decode cX8_find 100 = .ok (.iaload, 1) := by decide +kernel
theorem dX8_find_101 : decode cX8_find 101 = .ok (.istore_n 2, 1) := by decide +kernel
theorem dX8_find_102 : decode cX8_find 102 = .ok (.iconst (-1), 1) := by decide +kernel
theorem dX8_find_103 : decode cX8_find 103 = .ok (.istore 5, 2) := by decide +kernel
theorem dX8_find_105 : decode cX8_find 105 = .ok (.iconst 0, 1) := by decide +kernel
theorem dX8_find_106 : decode cX8_find 106 = .ok (.istore 6, 2) := by decide +kernel
theorem dX8_find_108 : decode cX8_find 108 = .ok (.iload 6, 2) := by decide +kernel
theorem dX8_find_110 : decode cX8_find 110 = .ok (.aload_n 0, 1) := by decide +kernel
theorem dX8_find_111 : decode cX8_find 111 = .ok (.getfield 200, 3) := by decide +kernel
theorem dX8_find_114 : decode cX8_find 114 = .ok (.if_icmp .ge 86, 3) := by decide +kernel
theorem dX8_find_117 : decode cX8_find 117 = .ok (.aload_n 0, 1) := by decide +kernel
theorem dX8_find_118 : decode cX8_find 118 = .ok (.getfield 55, 3) := by decide +kernel
theorem dX8_find_121 : decode cX8_find 121 = .ok (.iload_n 3, 1) := by decide +kernel
theorem dX8_find_122 : decode cX8_find 122 = .ok (.iload 6, 2) := by decide +kernel
theorem dX8_find_124 : decode cX8_find 124 = .ok (.iadd, 1) := by decide +kernel
theorem dX8_find_125 : decode cX8_find 125 = .ok (.baload, 1) := by decide +kernel
theorem dX8_find_126 : decode cX8_find 126 = .ok (.ifCond .eq 68, 3) := by decide +kernel
theorem dX8_find_129 : decode cX8_find 129 = .ok (.aload_n 0, 1) := by decide +kernel
theorem dX8_find_130 : decode cX8_find 130 = .ok (.getfield 61, 3) := by decide +kernel
theorem dX8_find_133 : decode cX8_find 133 = .ok (.iload 6, 2) := by decide +kernel
theorem dX8_find_135 : decode cX8_find 135 = .ok (.baload, 1) := by decide +kernel
theorem dX8_find_136 : decode cX8_find 136 = .ok (.ifCond .eq 58, 3) := by decide +kernel
theorem dX8_find_139 : decode cX8_find 139 = .ok (.aload_n 0, 1) := by decide +kernel
theorem dX8_find_140 : decode cX8_find 140 = .ok (.getfield 28, 3) := by decide +kernel
theorem dX8_find_143 : decode cX8_find 143 = .ok (.iload 6, 2) := by decide +kernel
theorem dX8_find_145 : decode cX8_find 145 = .ok (.iaload, 1) := by decide +kernel
theorem dX8_find_146 : decode cX8_find 146 = .ok (.aload_n 0, 1) := by decide +kernel
theorem dX8_find_147 : decode cX8_find 147 = .ok (.getfield 28, 3) := by decide +kernel
theorem dX8_find_150 : decode cX8_find 150 = .ok (.iload 4, 2) := by decide +kernel
theorem dX8_find_152 : decode cX8_find 152 = .ok (.iaload, 1) := by decide +kernel
theorem dX8_find_153 : decode cX8_find 153 = .ok (.if_icmp .le 41, 3) := by decide +kernel
theorem dX8_find_156 : decode cX8_find 156 = .ok (.aload_n 0, 1) := by decide +kernel
theorem dX8_find_157 : decode cX8_find 157 = .ok (.iload 6, 2) := by decide +kernel
theorem dX8_find_159 : decode cX8_find 159 = .ok (.iload 4, 2) := by decide +kernel
theorem dX8_find_161 : decode cX8_find 161 = .ok (.invokevirtual 240, 3) := by decide +kernel
theorem dX8_find_164 : decode cX8_find 164 = .ok (.iconst 1, 1) := by decide +kernel
theorem dX8_find_165 : decode cX8_find 165 = .ok (.if_icmp .le 29, 3) := by decide +kernel
theorem dX8_find_168 : decode cX8_find 168 = .ok (.iload 5, 2) := by decide +kernel
theorem dX8_find_170 : decode cX8_find 170 = .ok (.ifCond .lt 20, 3) := by decide +kernel
theorem dX8_find_173 : decode cX8_find 173 = .ok (.aload_n 0, 1) := by decide +kernel
theorem dX8_find_174 : decode cX8_find 174 = .ok (.getfield 28, 3) := by decide +kernel
theorem dX8_find_177 : decode cX8_find 177 = .ok (.iload 6, 2) := by decide +kernel
theorem dX8_find_179 : decode cX8_find 179 = .ok (.iaload, 1) := by decide +kernel
theorem dX8_find_180 : decode cX8_find 180 = .ok (.aload_n 0, 1) := by decide +kernel
theorem dX8_find_181 : decode cX8_find 181 = .ok (.getfield 28, 3) := by decide +kernel
theorem dX8_find_184 : decode cX8_find 184 = .ok (.iload 5, 2) := by decide +kernel
theorem dX8_find_186 : decode cX8_find 186 = .ok (.iaload, 1) := by decide +kernel
theorem dX8_find_187 : decode cX8_find 187 = .ok (.if_icmp .ge 7, 3) := by decide +kernel
theorem dX8_find_190 : decode cX8_find 190 = .ok (.iload 6, 2) := by decide +kernel
theorem dX8_find_192 : decode cX8_find 192 = .ok (.istore 5, 2) := by decide +kernel
theorem dX8_find_194 : decode cX8_find 194 = .ok (.iinc 6 1, 3) := by decide +kernel
theorem dX8_find_197 : decode cX8_find 197 = .ok (.goto (-89), 3) := by decide +kernel
theorem dX8_find_200 : decode cX8_find 200 = .ok (.iload 5, 2) := by decide +kernel
theorem dX8_find_202 : decode cX8_find 202 = .ok (.ifCond .lt 27, 3) := by decide +kernel
theorem dX8_find_205 : decode cX8_find 205 = .ok (.aload_n 0, 1) := by decide +kernel
theorem dX8_find_206 : decode cX8_find 206 = .ok (.getfield 75, 3) := by decide +kernel
theorem dX8_find_209 : decode cX8_find 209 = .ok (.iload 4, 2) := by decide +kernel
theorem dX8_find_211 : decode cX8_find 211 = .ok (.aload_n 0, 1) := by decide +kernel
theorem dX8_find_212 : decode cX8_find 212 = .ok (.iload 5, 2) := by decide +kernel
theorem dX8_find_214 : decode cX8_find 214 = .ok (.iload 4, 2) := by decide +kernel
theorem dX8_find_216 : decode cX8_find 216 = .ok (.invokevirtual 240, 3) := by decide +kernel
theorem dX8_find_219 : decode cX8_find 219 = .ok (.iconst 3, 1) := by decide +kernel
theorem dX8_find_220 : decode cX8_find 220 = .ok (.if_icmp .ne 7, 3) := by decide +kernel
theorem dX8_find_223 : decode cX8_find 223 = .ok (.iconst 2, 1) := by decide +kernel
theorem dX8_find_224 : decode cX8_find 224 = .ok (.goto 4, 3) := by decide +kernel
theorem dX8_find_227 : decode cX8_find 227 = .ok (.iconst 1, 1) := by decide +kernel
theorem dX8_find_228 : decode cX8_find 228 = .ok (.iastore, 1) := by decide +kernel
theorem dX8_find_229 : decode cX8_find 229 = .ok (.iinc 4 1, 3) := by decide +kernel
theorem dX8_find_232 : decode cX8_find 232 = .ok (.goto (-207), 3) := by decide +kernel
theorem dX8_find_235 : decode cX8_find 235 = .ok (.iconst 0, 1) := by decide +kernel
theorem dX8_find_236 : decode cX8_find 236 = .ok (.istore 4, 2) := by decide +kernel
theorem dX8_find_238 : decode cX8_find 238 = .ok (.iload 4, 2) := by decide +kernel
theorem dX8_find_240 : decode cX8_find 240 = .ok (.aload_n 0, 1) := by decide +kernel
theorem dX8_find_241 : decode cX8_find 241 = .ok (.getfield 200, 3) := by decide +kernel
theorem dX8_find_244 : decode cX8_find 244 = .ok (.if_icmp .ge 112, 3) := by decide +kernel
theorem dX8_find_247 : decode cX8_find 247 = .ok (.aload_n 0, 1) := by decide +kernel
theorem dX8_find_248 : decode cX8_find 248 = .ok (.getfield 75, 3) := by decide +kernel
theorem dX8_find_251 : decode cX8_find 251 = .ok (.iload 4, 2) := by decide +kernel
theorem dX8_find_253 : decode cX8_find 253 = .ok (.iaload, 1) := by decide +kernel
theorem dX8_find_254 : decode cX8_find 254 = .ok (.iconst 2, 1) := by decide +kernel
theorem dX8_find_255 : decode cX8_find 255 = .ok (.if_icmp .eq 6, 3) := by decide +kernel
theorem dX8_find_258 : decode cX8_find 258 = .ok (.goto 92, 3) := by decide +kernel
theorem dX8_find_261 : decode cX8_find 261 = .ok (.iconst 1, 1) := by decide +kernel
theorem dX8_find_262 : decode cX8_find 262 = .ok (.istore 5, 2) := by decide +kernel
theorem dX8_find_264 : decode cX8_find 264 = .ok (.iconst 0, 1) := by decide +kernel
theorem dX8_find_265 : decode cX8_find 265 = .ok (.istore 6, 2) := by decide +kernel
theorem dX8_find_267 : decode cX8_find 267 = .ok (.iload 6, 2) := by decide +kernel
theorem dX8_find_269 : decode cX8_find 269 = .ok (.aload_n 0, 1) := by decide +kernel
theorem dX8_find_270 : decode cX8_find 270 = .ok (.getfield 200, 3) := by decide +kernel
theorem dX8_find_273 : decode cX8_find 273 = .ok (.if_icmp .ge 64, 3) := by decide +kernel
theorem dX8_find_276 : decode cX8_find 276 = .ok (.iload 6, 2) := by decide +kernel
theorem dX8_find_278 : decode cX8_find 278 = .ok (.iload 4, 2) := by decide +kernel
theorem dX8_find_280 : decode cX8_find 280 = .ok (.if_icmp .eq 51, 3) := by decide +kernel
theorem dX8_find_283 : decode cX8_find 283 = .ok (.aload_n 0, 1) := by decide +kernel
theorem dX8_find_284 : decode cX8_find 284 = .ok (.getfield 75, 3) := by decide +kernel
theorem dX8_find_287 : decode cX8_find 287 = .ok (.iload 6, 2) := by decide +kernel
theorem dX8_find_289 : decode cX8_find 289 = .ok (.iaload, 1) := by decide +kernel
theorem dX8_find_290 : decode cX8_find 290 = .ok (.iconst 2, 1) := by decide +kernel
theorem dX8_find_291 : decode cX8_find 291 = .ok (.if_icmp .lt 40, 3) := by decide +kernel
theorem dX8_find_294 : decode cX8_find 294 = .ok (.aload_n 0, 1) := by decide +kernel
theorem dX8_find_295 : decode cX8_find 295 = .ok (.getfield 9, 3) := by decide +kernel
theorem dX8_find_298 : decode cX8_find 298 = .ok (.iload 6, 2) := by decide +kernel
theorem dX8_find_300 : decode cX8_find 300 = .ok (.iaload, 1) := by decide +kernel
theorem dX8_find_301 : decode cX8_find 301 = .ok (.aload_n 0, 1) := by decide +kernel
theorem dX8_find_302 : decode cX8_find 302 = .ok (.getfield 9, 3) := by decide +kernel
theorem dX8_find_305 : decode cX8_find 305 = .ok (.iload 4, 2) := by decide +kernel
theorem dX8_find_307 : decode cX8_find 307 = .ok (.iaload, 1) := by decide +kernel
theorem dX8_find_308 : decode cX8_find 308 = .ok (.if_icmp .ne 23, 3) := by decide +kernel
theorem dX8_find_311 : decode cX8_find 311 = .ok (.aload_n 0, 1) := by decide +kernel
theorem dX8_find_312 : decode cX8_find 312 = .ok (.getfield 28, 3) := by decide +kernel
theorem dX8_find_315 : decode cX8_find 315 = .ok (.iload 6, 2) := by decide +kernel
theorem dX8_find_317 : decode cX8_find 317 = .ok (.iaload, 1) := by decide +kernel
theorem dX8_find_318 : decode cX8_find 318 = .ok (.aload_n 0, 1) := by decide +kernel
theorem dX8_find_319 : decode cX8_find 319 = .ok (.getfield 28, 3) := by decide +kernel
theorem dX8_find_322 : decode cX8_find 322 = .ok (.iload 4, 2) := by decide +kernel
theorem dX8_find_324 : decode cX8_find 324 = .ok (.iaload, 1) := by decide +kernel
theorem dX8_find_325 : decode cX8_find 325 = .ok (.if_icmp .ne 6, 3) := by decide +kernel
theorem dX8_find_328 : decode cX8_find 328 = .ok (.iconst 0, 1) := by decide +kernel
theorem dX8_find_329 : decode cX8_find 329 = .ok (.istore 5, 2) := by decide +kernel
theorem dX8_find_331 : decode cX8_find 331 = .ok (.iinc 6 1, 3) := by decide +kernel
theorem dX8_find_334 : decode cX8_find 334 = .ok (.goto (-67), 3) := by decide +kernel
theorem dX8_find_337 : decode cX8_find 337 = .ok (.iload 5, 2) := by decide +kernel
theorem dX8_find_339 : decode cX8_find 339 = .ok (.ifCond .eq 11, 3) := by decide +kernel
theorem dX8_find_342 : decode cX8_find 342 = .ok (.aload_n 0, 1) := by decide +kernel
theorem dX8_find_343 : decode cX8_find 343 = .ok (.getfield 75, 3) := by decide +kernel
theorem dX8_find_346 : decode cX8_find 346 = .ok (.iload 4, 2) := by decide +kernel
theorem dX8_find_348 : decode cX8_find 348 = .ok (.iconst 3, 1) := by decide +kernel
theorem dX8_find_349 : decode cX8_find 349 = .ok (.iastore, 1) := by decide +kernel
theorem dX8_find_350 : decode cX8_find 350 = .ok (.iinc 4 1, 3) := by decide +kernel
theorem dX8_find_353 : decode cX8_find 353 = .ok (.goto (-115), 3) := by decide +kernel
theorem dX8_find_356 : decode cX8_find 356 = .ok (.aload_n 0, 1) := by decide +kernel
theorem dX8_find_357 : decode cX8_find 357 = .ok (.iconst 0, 1) := by decide +kernel
theorem dX8_find_358 : decode cX8_find 358 = .ok (.putfield 269, 3) := by decide +kernel
theorem dX8_find_361 : decode cX8_find 361 = .ok (.aload_n 0, 1) := by decide +kernel
theorem dX8_find_362 : decode cX8_find 362 = .ok (.iconst 0, 1) := by decide +kernel
theorem dX8_find_363 : decode cX8_find 363 = .ok (.putfield 272, 3) := by decide +kernel
theorem dX8_find_366 : decode cX8_find 366 = .ok (.iconst 1, 1) := by decide +kernel
theorem dX8_find_367 : decode cX8_find 367 = .ok (.istore 4, 2) := by decide +kernel
theorem dX8_find_369 : decode cX8_find 369 = .ok (.iconst 1, 1) := by decide +kernel
theorem dX8_find_370 : decode cX8_find 370 = .ok (.istore 5, 2) := by decide +kernel
theorem dX8_find_372 : decode cX8_find 372 = .ok (.iload 5, 2) := by decide +kernel
theorem dX8_find_374 : decode cX8_find 374 = .ok (.iload_n 2, 1) := by decide +kernel
theorem dX8_find_375 : decode cX8_find 375 = .ok (.if_icmp .gt 138, 3) := by decide +kernel
theorem dX8_find_378 : decode cX8_find 378 = .ok (.iconst 0, 1) := by decide +kernel
theorem dX8_find_379 : decode cX8_find 379 = .ok (.istore 6, 2) := by decide +kernel
theorem dX8_find_381 : decode cX8_find 381 = .ok (.iconst 0, 1) := by decide +kernel
theorem dX8_find_382 : decode cX8_find 382 = .ok (.istore 7, 2) := by decide +kernel
theorem dX8_find_384 : decode cX8_find 384 = .ok (.iload 7, 2) := by decide +kernel
theorem dX8_find_386 : decode cX8_find 386 = .ok (.aload_n 0, 1) := by decide +kernel
theorem dX8_find_387 : decode cX8_find 387 = .ok (.getfield 200, 3) := by decide +kernel
theorem dX8_find_390 : decode cX8_find 390 = .ok (.if_icmp .ge 87, 3) := by decide +kernel
theorem dX8_find_393 : decode cX8_find 393 = .ok (.aload_n 0, 1) := by decide +kernel
theorem dX8_find_394 : decode cX8_find 394 = .ok (.getfield 55, 3) := by decide +kernel
theorem dX8_find_397 : decode cX8_find 397 = .ok (.iload_n 3, 1) := by decide +kernel
theorem dX8_find_398 : decode cX8_find 398 = .ok (.iload 7, 2) := by decide +kernel
theorem dX8_find_400 : decode cX8_find 400 = .ok (.iadd, 1) := by decide +kernel
theorem dX8_find_401 : decode cX8_find 401 = .ok (.baload, 1) := by decide +kernel
theorem dX8_find_402 : decode cX8_find 402 = .ok (.ifCond .eq 69, 3) := by decide +kernel
theorem dX8_find_405 : decode cX8_find 405 = .ok (.aload_n 0, 1) := by decide +kernel
theorem dX8_find_406 : decode cX8_find 406 = .ok (.getfield 61, 3) := by decide +kernel
theorem dX8_find_409 : decode cX8_find 409 = .ok (.iload 7, 2) := by decide +kernel
theorem dX8_find_411 : decode cX8_find 411 = .ok (.baload, 1) := by decide +kernel
theorem dX8_find_412 : decode cX8_find 412 = .ok (.ifCond .eq 59, 3) := by decide +kernel
theorem dX8_find_415 : decode cX8_find 415 = .ok (.aload_n 0, 1) := by decide +kernel
theorem dX8_find_416 : decode cX8_find 416 = .ok (.getfield 28, 3) := by decide +kernel
theorem dX8_find_419 : decode cX8_find 419 = .ok (.iload 7, 2) := by decide +kernel
theorem dX8_find_421 : decode cX8_find 421 = .ok (.iaload, 1) := by decide +kernel
theorem dX8_find_422 : decode cX8_find 422 = .ok (.iload 5, 2) := by decide +kernel
theorem dX8_find_424 : decode cX8_find 424 = .ok (.if_icmp .eq 6, 3) := by decide +kernel
theorem dX8_find_427 : decode cX8_find 427 = .ok (.goto 44, 3) := by decide +kernel
theorem dX8_find_430 : decode cX8_find 430 = .ok (.iload 4, 2) := by decide +kernel
theorem dX8_find_432 : decode cX8_find 432 = .ok (.aload_n 0, 1) := by decide +kernel
theorem dX8_find_433 : decode cX8_find 433 = .ok (.getfield 75, 3) := by decide +kernel
theorem dX8_find_436 : decode cX8_find 436 = .ok (.iload 7, 2) := by decide +kernel
theorem dX8_find_438 : decode cX8_find 438 = .ok (.iaload, 1) := by decide +kernel
theorem dX8_find_439 : decode cX8_find 439 = .ok (.ifCond .eq 7, 3) := by decide +kernel
theorem dX8_find_442 : decode cX8_find 442 = .ok (.iconst 1, 1) := by decide +kernel
theorem dX8_find_443 : decode cX8_find 443 = .ok (.goto 4, 3) := by decide +kernel
theorem dX8_find_446 : decode cX8_find 446 = .ok (.iconst 0, 1) := by decide +kernel
theorem dX8_find_447 : decode cX8_find 447 = .ok (.iand, 1) := by decide +kernel
theorem dX8_find_448 : decode cX8_find 448 = .ok (.istore 4, 2) := by decide +kernel
theorem dX8_find_450 : decode cX8_find 450 = .ok (.iload 6, 2) := by decide +kernel
theorem dX8_find_452 : decode cX8_find 452 = .ok (.aload_n 0, 1) := by decide +kernel
theorem dX8_find_453 : decode cX8_find 453 = .ok (.getfield 75, 3) := by decide +kernel
theorem dX8_find_456 : decode cX8_find 456 = .ok (.iload 7, 2) := by decide +kernel
theorem dX8_find_458 : decode cX8_find 458 = .ok (.iaload, 1) := by decide +kernel
theorem dX8_find_459 : decode cX8_find 459 = .ok (.iconst 3, 1) := by decide +kernel
theorem dX8_find_460 : decode cX8_find 460 = .ok (.if_icmp .ne 7, 3) := by decide +kernel
theorem dX8_find_463 : decode cX8_find 463 = .ok (.iconst 1, 1) := by decide +kernel
theorem dX8_find_464 : decode cX8_find 464 = .ok (.goto 4, 3) := by decide +kernel
theorem dX8_find_467 : decode cX8_find 467 = .ok (.iconst 0, 1) := by decide +kernel
theorem dX8_find_468 : decode cX8_find 468 = .ok (.ior, 1) := by decide +kernel
theorem dX8_find_469 : decode cX8_find 469 = .ok (.istore 6, 2) := by decide +kernel
theorem dX8_find_471 : decode cX8_find 471 = .ok (.iinc 7 1, 3) := by decide +kernel
theorem dX8_find_474 : decode cX8_find 474 = .ok (.goto (-90), 3) := by decide +kernel
theorem dX8_find_477 : decode cX8_find 477 = .ok (.iload 4, 2) := by decide +kernel
theorem dX8_find_479 : decode cX8_find 479 = .ok (.ifCond .eq 28, 3) := by decide +kernel
theorem dX8_find_482 : decode cX8_find 482 = .ok (.iload 6, 2) := by decide +kernel
theorem dX8_find_484 : decode cX8_find 484 = .ok (.ifCond .ne 6, 3) := by decide +kernel
theorem dX8_find_487 : decode cX8_find 487 = .ok (.goto 20, 3) := by decide +kernel
theorem dX8_find_490 : decode cX8_find 490 = .ok (.aload_n 0, 1) := by decide +kernel
theorem dX8_find_491 : decode cX8_find 491 = .ok (.dup, 1) := by decide +kernel
theorem dX8_find_492 : decode cX8_find 492 = .ok (.getfield 272, 3) := by decide +kernel
theorem dX8_find_495 : decode cX8_find 495 = .ok (.iconst 1, 1) := by decide +kernel
theorem dX8_find_496 : decode cX8_find 496 = .ok (.iadd, 1) := by decide +kernel
theorem dX8_find_497 : decode cX8_find 497 = .ok (.putfield 272, 3) := by decide +kernel
theorem dX8_find_500 : decode cX8_find 500 = .ok (.aload_n 0, 1) := by decide +kernel
theorem dX8_find_501 : decode cX8_find 501 = .ok (.iload_n 1, 1) := by decide +kernel
theorem dX8_find_502 : decode cX8_find 502 = .ok (.iload 5, 2) := by decide +kernel
theorem dX8_find_504 : decode cX8_find 504 = .ok (.invokevirtual 275, 3) := by decide +kernel
theorem dX8_find_507 : decode cX8_find 507 = .ok (.iinc 5 1, 3) := by decide +kernel
theorem dX8_find_510 : decode cX8_find 510 = .ok (.goto (-138), 3) := by decide +kernel
theorem dX8_find_513 : decode cX8_find 513 = .ok (.iconst 0, 1) := by decide +kernel
theorem dX8_find_514 : decode cX8_find 514 = .ok (.istore 5, 2) := by decide +kernel
theorem dX8_find_516 : decode cX8_find 516 = .ok (.iload 5, 2) := by decide +kernel
theorem dX8_find_518 : decode cX8_find 518 = .ok (.aload_n 0, 1) := by decide +kernel
theorem dX8_find_519 : decode cX8_find 519 = .ok (.getfield 193, 3) := by decide +kernel
theorem dX8_find_522 : decode cX8_find 522 = .ok (.if_icmp .ge 19, 3) := by decide +kernel
theorem dX8_find_525 : decode cX8_find 525 = .ok (.aload_n 0, 1) := by decide +kernel
theorem dX8_find_526 : decode cX8_find 526 = .ok (.getfield 87, 3) := by decide +kernel
theorem dX8_find_529 : decode cX8_find 529 = .ok (.iload 5, 2) := by decide +kernel
theorem dX8_find_531 : decode cX8_find 531 = .ok (.ldc_w 262, 3) := by decide +kernel
theorem dX8_find_534 : decode cX8_find 534 = .ok (.iastore, 1) := by decide +kernel
theorem dX8_find_535 : decode cX8_find 535 = .ok (.iinc 5 1, 3) := by decide +kernel
theorem dX8_find_538 : decode cX8_find 538 = .ok (.goto (-22), 3) := by decide +kernel
theorem dX8_find_541 : decode cX8_find 541 = .ok (.iconst 0, 1) := by decide +kernel
theorem dX8_find_542 : decode cX8_find 542 = .ok (.istore 5, 2) := by decide +kernel
theorem dX8_find_544 : decode cX8_find 544 = .ok (.iload 5, 2) := by decide +kernel
theorem dX8_find_546 : decode cX8_find 546 = .ok (.aload_n 0, 1) := by decide +kernel
theorem dX8_find_547 : decode cX8_find 547 = .ok (.getfield 269, 3) := by decide +kernel
theorem dX8_find_550 : decode cX8_find 550 = .ok (.if_icmp .ge 121, 3) := by decide +kernel
theorem dX8_find_553 : decode cX8_find 553 = .ok (.aload_n 0, 1) := by decide +kernel
theorem dX8_find_554 : decode cX8_find 554 = .ok (.getfield 84, 3) := by decide +kernel
theorem dX8_find_557 : decode cX8_find 557 = .ok (.iload 5, 2) := by decide +kernel
theorem dX8_find_559 : decode cX8_find 559 = .ok (.iaload, 1) := by decide +kernel
theorem dX8_find_560 : decode cX8_find 560 = .ok (.istore 6, 2) := by decide +kernel
theorem dX8_find_562 : decode cX8_find 562 = .ok (.aload_n 0, 1) := by decide +kernel
theorem dX8_find_563 : decode cX8_find 563 = .ok (.getfield 81, 3) := by decide +kernel
theorem dX8_find_566 : decode cX8_find 566 = .ok (.iload 6, 2) := by decide +kernel
theorem dX8_find_568 : decode cX8_find 568 = .ok (.iload 5, 2) := by decide +kernel
theorem dX8_find_570 : decode cX8_find 570 = .ok (.iastore, 1) := by decide +kernel
theorem dX8_find_571 : decode cX8_find 571 = .ok (.iconst 0, 1) := by decide +kernel
theorem dX8_find_572 : decode cX8_find 572 = .ok (.istore 7, 2) := by decide +kernel
theorem dX8_find_574 : decode cX8_find 574 = .ok (.iload 7, 2) := by decide +kernel
theorem dX8_find_576 : decode cX8_find 576 = .ok (.aload_n 0, 1) := by decide +kernel
theorem dX8_find_577 : decode cX8_find 577 = .ok (.getfield 19, 3) := by decide +kernel
theorem dX8_find_580 : decode cX8_find 580 = .ok (.iload 6, 2) := by decide +kernel
theorem dX8_find_582 : decode cX8_find 582 = .ok (.iaload, 1) := by decide +kernel
theorem dX8_find_583 : decode cX8_find 583 = .ok (.if_icmp .ge 82, 3) := by decide +kernel
theorem dX8_find_586 : decode cX8_find 586 = .ok (.aload_n 0, 1) := by decide +kernel
theorem dX8_find_587 : decode cX8_find 587 = .ok (.getfield 25, 3) := by decide +kernel
theorem dX8_find_590 : decode cX8_find 590 = .ok (.iconst 3, 1) := by decide +kernel
theorem dX8_find_591 : decode cX8_find 591 = .ok (.iload 6, 2) := by decide +kernel
theorem dX8_find_593 : decode cX8_find 593 = .ok (.imul, 1) := by decide +kernel
theorem dX8_find_594 : decode cX8_find 594 = .ok (.iload 7, 2) := by decide +kernel
theorem dX8_find_596 : decode cX8_find 596 = .ok (.iadd, 1) := by decide +kernel
theorem dX8_find_597 : decode cX8_find 597 = .ok (.iaload, 1) := by decide +kernel
theorem dX8_find_598 : decode cX8_find 598 = .ok (.istore 8, 2) := by decide +kernel
theorem dX8_find_600 : decode cX8_find 600 = .ok (.aload_n 0, 1) := by decide +kernel
theorem dX8_find_601 : decode cX8_find 601 = .ok (.getfield 87, 3) := by decide +kernel
theorem dX8_find_604 : decode cX8_find 604 = .ok (.aload_n 0, 1) := by decide +kernel
theorem dX8_find_605 : decode cX8_find 605 = .ok (.getfield 9, 3) := by decide +kernel
theorem dX8_find_608 : decode cX8_find 608 = .ok (.iload 6, 2) := by decide +kernel
theorem dX8_find_610 : decode cX8_find 610 = .ok (.iaload, 1) := by decide +kernel
theorem dX8_find_611 : decode cX8_find 611 = .ok (.iaload, 1) := by decide +kernel
theorem dX8_find_612 : decode cX8_find 612 = .ok (.iload 8, 2) := by decide +kernel
theorem dX8_find_614 : decode cX8_find 614 = .ok (.if_icmp .ge 6, 3) := by decide +kernel
theorem dX8_find_617 : decode cX8_find 617 = .ok (.goto 42, 3) := by decide +kernel
theorem dX8_find_620 : decode cX8_find 620 = .ok (.aload_n 0, 1) := by decide +kernel
theorem dX8_find_621 : decode cX8_find 621 = .ok (.getfield 87, 3) := by decide +kernel
theorem dX8_find_624 : decode cX8_find 624 = .ok (.aload_n 0, 1) := by decide +kernel
theorem dX8_find_625 : decode cX8_find 625 = .ok (.getfield 9, 3) := by decide +kernel
theorem dX8_find_628 : decode cX8_find 628 = .ok (.iload 6, 2) := by decide +kernel
theorem dX8_find_630 : decode cX8_find 630 = .ok (.iaload, 1) := by decide +kernel
theorem dX8_find_631 : decode cX8_find 631 = .ok (.dup2, 1) := by decide +kernel
theorem dX8_find_632 : decode cX8_find 632 = .ok (.iaload, 1) := by decide +kernel
theorem dX8_find_633 : decode cX8_find 633 = .ok (.iload 8, 2) := by decide +kernel
theorem dX8_find_635 : decode cX8_find 635 = .ok (.isub, 1) := by decide +kernel
theorem dX8_find_636 : decode cX8_find 636 = .ok (.iastore, 1) := by decide +kernel
theorem dX8_find_637 : decode cX8_find 637 = .ok (.aload_n 0, 1) := by decide +kernel
theorem dX8_find_638 : decode cX8_find 638 = .ok (.getfield 87, 3) := by decide +kernel
theorem dX8_find_641 : decode cX8_find 641 = .ok (.aload_n 0, 1) := by decide +kernel
theorem dX8_find_642 : decode cX8_find 642 = .ok (.getfield 22, 3) := by decide +kernel
theorem dX8_find_645 : decode cX8_find 645 = .ok (.iconst 3, 1) := by decide +kernel
theorem dX8_find_646 : decode cX8_find 646 = .ok (.iload 6, 2) := by decide +kernel
theorem dX8_find_648 : decode cX8_find 648 = .ok (.imul, 1) := by decide +kernel
theorem dX8_find_649 : decode cX8_find 649 = .ok (.iload 7, 2) := by decide +kernel
theorem dX8_find_651 : decode cX8_find 651 = .ok (.iadd, 1) := by decide +kernel
theorem dX8_find_652 : decode cX8_find 652 = .ok (.iaload, 1) := by decide +kernel
theorem dX8_find_653 : decode cX8_find 653 = .ok (.dup2, 1) := by decide +kernel
theorem dX8_find_654 : decode cX8_find 654 = .ok (.iaload, 1) := by decide +kernel
theorem dX8_find_655 : decode cX8_find 655 = .ok (.iload 8, 2) := by decide +kernel
theorem dX8_find_657 : decode cX8_find 657 = .ok (.iadd, 1) := by decide +kernel
theorem dX8_find_658 : decode cX8_find 658 = .ok (.iastore, 1) := by decide +kernel
theorem dX8_find_659 : decode cX8_find 659 = .ok (.iinc 7 1, 3) := by decide +kernel
theorem dX8_find_662 : decode cX8_find 662 = .ok (.goto (-88), 3) := by decide +kernel
theorem dX8_find_665 : decode cX8_find 665 = .ok (.iinc 5 1, 3) := by decide +kernel
theorem dX8_find_668 : decode cX8_find 668 = .ok (.goto (-124), 3) := by decide +kernel
theorem dX8_find_671 : decode cX8_find 671 = .ok (.return_, 1) := by decide +kernel
theorem dX8_isUnique_0 : decode cX8_isUnique 0 = .ok (.aload_n 0, 1) := by decide +kernel
theorem dX8_isUnique_1 : decode cX8_isUnique 1 = .ok (.getfield 75, 3) := by decide +kernel
theorem dX8_isUnique_4 : decode cX8_isUnique 4 = .ok (.iload_n 1, 1) := by decide +kernel
theorem dX8_isUnique_5 : decode cX8_isUnique 5 = .ok (.iaload, 1) := by decide +kernel
theorem dX8_isUnique_6 : decode cX8_isUnique 6 = .ok (.iconst 3, 1) := by decide +kernel
theorem dX8_isUnique_7 : decode cX8_isUnique 7 = .ok (.if_icmp .ne 17, 3) := by decide +kernel
theorem dX8_isUnique_10 : decode cX8_isUnique 10 = .ok (.aload_n 0, 1) := by decide +kernel
theorem dX8_isUnique_11 : decode cX8_isUnique 11 = .ok (.getfield 28, 3) := by decide +kernel
theorem dX8_isUnique_14 : decode cX8_isUnique 14 = .ok (.iload_n 1, 1) := by decide +kernel
theorem dX8_isUnique_15 : decode cX8_isUnique 15 = .ok (.iaload, 1) := by decide +kernel
theorem dX8_isUnique_16 : decode cX8_isUnique 16 = .ok (.iload_n 2, 1) := by decide +kernel
theorem dX8_isUnique_17 : decode cX8_isUnique 17 = .ok (.if_icmp .ne 7, 3) := by decide +kernel
theorem dX8_isUnique_20 : decode cX8_isUnique 20 = .ok (.iconst 1, 1) := by decide +kernel
theorem dX8_isUnique_21 : decode cX8_isUnique 21 = .ok (.goto 4, 3) := by decide +kernel
theorem dX8_isUnique_24 : decode cX8_isUnique 24 = .ok (.iconst 0, 1) := by decide +kernel
theorem dX8_isUnique_25 : decode cX8_isUnique 25 = .ok (.ireturn, 1) := by decide +kernel
theorem dX8_receive_0 : decode cX8_receive 0 = .ok (.aload_n 0, 1) := by decide +kernel
theorem dX8_receive_1 : decode cX8_receive 1 = .ok (.getfield 269, 3) := by decide +kernel
theorem dX8_receive_4 : decode cX8_receive 4 = .ok (.istore_n 3, 1) := by decide +kernel
theorem dX8_receive_5 : decode cX8_receive 5 = .ok (.iconst 0, 1) := by decide +kernel
theorem dX8_receive_6 : decode cX8_receive 6 = .ok (.istore 4, 2) := by decide +kernel
theorem dX8_receive_8 : decode cX8_receive 8 = .ok (.iload 4, 2) := by decide +kernel
theorem dX8_receive_10 : decode cX8_receive 10 = .ok (.bipush 8, 2) := by decide +kernel
theorem dX8_receive_12 : decode cX8_receive 12 = .ok (.if_icmp .ge 17, 3) := by decide +kernel
theorem dX8_receive_15 : decode cX8_receive 15 = .ok (.aload_n 0, 1) := by decide +kernel
theorem dX8_receive_16 : decode cX8_receive 16 = .ok (.getfield 90, 3) := by decide +kernel
theorem dX8_receive_19 : decode cX8_receive 19 = .ok (.iload 4, 2) := by decide +kernel
theorem dX8_receive_21 : decode cX8_receive 21 = .ok (.iconst 0, 1) := by decide +kernel
theorem dX8_receive_22 : decode cX8_receive 22 = .ok (.iastore, 1) := by decide +kernel
theorem dX8_receive_23 : decode cX8_receive 23 = .ok (.iinc 4 1, 3) := by decide +kernel
theorem dX8_receive_26 : decode cX8_receive 26 = .ok (.goto (-18), 3) := by decide +kernel
theorem dX8_receive_29 : decode cX8_receive 29 = .ok (.iconst 0, 1) := by decide +kernel
theorem dX8_receive_30 : decode cX8_receive 30 = .ok (.istore 4, 2) := by decide +kernel
theorem dX8_receive_32 : decode cX8_receive 32 = .ok (.iload 4, 2) := by decide +kernel
theorem dX8_receive_34 : decode cX8_receive 34 = .ok (.aload_n 0, 1) := by decide +kernel
theorem dX8_receive_35 : decode cX8_receive 35 = .ok (.getfield 200, 3) := by decide +kernel
theorem dX8_receive_38 : decode cX8_receive 38 = .ok (.if_icmp .ge 58, 3) := by decide +kernel
theorem dX8_receive_41 : decode cX8_receive 41 = .ok (.aload_n 0, 1) := by decide +kernel
theorem dX8_receive_42 : decode cX8_receive 42 = .ok (.iload 4, 2) := by decide +kernel
theorem dX8_receive_44 : decode cX8_receive 44 = .ok (.iload_n 2, 1) := by decide +kernel
theorem dX8_receive_45 : decode cX8_receive 45 = .ok (.invokevirtual 279, 3) := by decide +kernel
theorem dX8_receive_48 : decode cX8_receive 48 = .ok (.ifCond .eq 42, 3) := by decide +kernel
theorem dX8_receive_51 : decode cX8_receive 51 = .ok (.iconst 0, 1) := by decide +kernel
theorem dX8_receive_52 : decode cX8_receive 52 = .ok (.istore 5, 2) := by decide +kernel
theorem dX8_receive_54 : decode cX8_receive 54 = .ok (.iload 5, 2) := by decide +kernel
theorem dX8_receive_56 : decode cX8_receive 56 = .ok (.bipush 8, 2) := by decide +kernel
theorem dX8_receive_58 : decode cX8_receive 58 = .ok (.if_icmp .ge 32, 3) := by decide +kernel
theorem dX8_receive_61 : decode cX8_receive 61 = .ok (.aload_n 0, 1) := by decide +kernel
theorem dX8_receive_62 : decode cX8_receive 62 = .ok (.getfield 90, 3) := by decide +kernel
theorem dX8_receive_65 : decode cX8_receive 65 = .ok (.iload 5, 2) := by decide +kernel
theorem dX8_receive_67 : decode cX8_receive 67 = .ok (.dup2, 1) := by decide +kernel
theorem dX8_receive_68 : decode cX8_receive 68 = .ok (.iaload, 1) := by decide +kernel
theorem dX8_receive_69 : decode cX8_receive 69 = .ok (.aload_n 0, 1) := by decide +kernel
theorem dX8_receive_70 : decode cX8_receive 70 = .ok (.getfield 31, 3) := by decide +kernel
theorem dX8_receive_73 : decode cX8_receive 73 = .ok (.bipush 8, 2) := by decide +kernel
theorem dX8_receive_75 : decode cX8_receive 75 = .ok (.iload 4, 2) := by decide +kernel
theorem dX8_receive_77 : decode cX8_receive 77 = .ok (.imul, 1) := by decide +kernel
theorem dX8_receive_78 : decode cX8_receive 78 = .ok (.iload 5, 2) := by decide +kernel
theorem dX8_receive_80 : decode cX8_receive 80 = .ok (.iadd, 1) := by decide +kernel
theorem dX8_receive_81 : decode cX8_receive 81 = .ok (.iaload, 1) := by decide +kernel
theorem dX8_receive_82 : decode cX8_receive 82 = .ok (.ixor, 1) := by decide +kernel
theorem dX8_receive_83 : decode cX8_receive 83 = .ok (.iastore, 1) := by decide +kernel
theorem dX8_receive_84 : decode cX8_receive 84 = .ok (.iinc 5 1, 3) := by decide +kernel
theorem dX8_receive_87 : decode cX8_receive 87 = .ok (.goto (-33), 3) := by decide +kernel
theorem dX8_receive_90 : decode cX8_receive 90 = .ok (.iinc 4 1, 3) := by decide +kernel
theorem dX8_receive_93 : decode cX8_receive 93 = .ok (.goto (-61), 3) := by decide +kernel
theorem dX8_receive_96 : decode cX8_receive 96 = .ok (.iconst 0, 1) := by decide +kernel
theorem dX8_receive_97 : decode cX8_receive 97 = .ok (.istore 4, 2) := by decide +kernel
theorem dX8_receive_99 : decode cX8_receive 99 = .ok (.iload 4, 2) := by decide +kernel
theorem dX8_receive_101 : decode cX8_receive 101 = .ok (.aload_n 0, 1) := by decide +kernel
theorem dX8_receive_102 : decode cX8_receive 102 = .ok (.getfield 200, 3) := by decide +kernel
theorem dX8_receive_105 : decode cX8_receive 105 = .ok (.if_icmp .ge 314, 3) := by decide +kernel
theorem dX8_receive_108 : decode cX8_receive 108 = .ok (.aload_n 0, 1) := by decide +kernel
theorem dX8_receive_109 : decode cX8_receive 109 = .ok (.getfield 55, 3) := by decide +kernel
theorem dX8_receive_112 : decode cX8_receive 112 = .ok (.sipush 240, 3) := by decide +kernel
theorem dX8_receive_115 : decode cX8_receive 115 = .ok (.iload_n 1, 1) := by decide +kernel
theorem dX8_receive_116 : decode cX8_receive 116 = .ok (.imul, 1) := by decide +kernel
theorem dX8_receive_117 : decode cX8_receive 117 = .ok (.iload 4, 2) := by decide +kernel
theorem dX8_receive_119 : decode cX8_receive 119 = .ok (.iadd, 1) := by decide +kernel
theorem dX8_receive_120 : decode cX8_receive 120 = .ok (.baload, 1) := by decide +kernel
theorem dX8_receive_121 : decode cX8_receive 121 = .ok (.ifCond .eq 292, 3) := by decide +kernel
theorem dX8_receive_124 : decode cX8_receive 124 = .ok (.aload_n 0, 1) := by decide +kernel
theorem dX8_receive_125 : decode cX8_receive 125 = .ok (.getfield 78, 3) := by decide +kernel
theorem dX8_receive_128 : decode cX8_receive 128 = .ok (.iload 4, 2) := by decide +kernel
theorem dX8_receive_130 : decode cX8_receive 130 = .ok (.iaload, 1) := by decide +kernel
theorem dX8_receive_131 : decode cX8_receive 131 = .ok (.ifCond .eq 6, 3) := by decide +kernel
theorem dX8_receive_134 : decode cX8_receive 134 = .ok (.goto 279, 3) := by decide +kernel
theorem dX8_receive_137 : decode cX8_receive 137 = .ok (.iconst 0, 1) := by decide +kernel
theorem dX8_receive_138 : decode cX8_receive 138 = .ok (.istore 5, 2) := by decide +kernel
theorem dX8_receive_140 : decode cX8_receive 140 = .ok (.iconst 1, 1) := by decide +kernel
theorem dX8_receive_141 : decode cX8_receive 141 = .ok (.istore 6, 2) := by decide +kernel
theorem dX8_receive_143 : decode cX8_receive 143 = .ok (.iconst 0, 1) := by decide +kernel
theorem dX8_receive_144 : decode cX8_receive 144 = .ok (.istore 7, 2) := by decide +kernel
theorem dX8_receive_146 : decode cX8_receive 146 = .ok (.iload 7, 2) := by decide +kernel
theorem dX8_receive_148 : decode cX8_receive 148 = .ok (.aload_n 0, 1) := by decide +kernel
theorem dX8_receive_149 : decode cX8_receive 149 = .ok (.getfield 200, 3) := by decide +kernel
theorem dX8_receive_152 : decode cX8_receive 152 = .ok (.if_icmp .ge 161, 3) := by decide +kernel
theorem dX8_receive_155 : decode cX8_receive 155 = .ok (.aload_n 0, 1) := by decide +kernel
theorem dX8_receive_156 : decode cX8_receive 156 = .ok (.iload 7, 2) := by decide +kernel
theorem dX8_receive_158 : decode cX8_receive 158 = .ok (.iload_n 2, 1) := by decide +kernel
theorem dX8_receive_159 : decode cX8_receive 159 = .ok (.invokevirtual 279, 3) := by decide +kernel
theorem dX8_receive_162 : decode cX8_receive 162 = .ok (.ifCond .ne 6, 3) := by decide +kernel
theorem dX8_receive_165 : decode cX8_receive 165 = .ok (.goto 142, 3) := by decide +kernel
theorem dX8_receive_168 : decode cX8_receive 168 = .ok (.aload_n 0, 1) := by decide +kernel
theorem dX8_receive_169 : decode cX8_receive 169 = .ok (.getfield 51, 3) := by decide +kernel
theorem dX8_receive_172 : decode cX8_receive 172 = .ok (.sipush 240, 3) := by decide +kernel
theorem dX8_receive_175 : decode cX8_receive 175 = .ok (.iload 7, 2) := by decide +kernel
theorem dX8_receive_177 : decode cX8_receive 177 = .ok (.imul, 1) := by decide +kernel
theorem dX8_receive_178 : decode cX8_receive 178 = .ok (.iload 4, 2) := by decide +kernel
theorem dX8_receive_180 : decode cX8_receive 180 = .ok (.iadd, 1) := by decide +kernel
theorem dX8_receive_181 : decode cX8_receive 181 = .ok (.baload, 1) := by decide +kernel
theorem dX8_receive_182 : decode cX8_receive 182 = .ok (.ifCond .ne 9, 3) := by decide +kernel
theorem dX8_receive_185 : decode cX8_receive 185 = .ok (.iconst 0, 1) := by decide +kernel
theorem dX8_receive_186 : decode cX8_receive 186 = .ok (.istore 6, 2) := by decide +kernel
theorem dX8_receive_188 : decode cX8_receive 188 = .ok (.goto 119, 3) := by decide +kernel
theorem dX8_receive_191 : decode cX8_receive 191 = .ok (.iload 7, 2) := by decide +kernel
theorem dX8_receive_193 : decode cX8_receive 193 = .ok (.istore 8, 2) := by decide +kernel
theorem dX8_receive_195 : decode cX8_receive 195 = .ok (.aload_n 0, 1) := by decide +kernel
theorem dX8_receive_196 : decode cX8_receive 196 = .ok (.getfield 13, 3) := by decide +kernel
theorem dX8_receive_199 : decode cX8_receive 199 = .ok (.iload 8, 2) := by decide +kernel
theorem dX8_receive_201 : decode cX8_receive 201 = .ok (.iaload, 1) := by decide +kernel
theorem dX8_receive_202 : decode cX8_receive 202 = .ok (.ifCond .lt 37, 3) := by decide +kernel
theorem dX8_receive_205 : decode cX8_receive 205 = .ok (.aload_n 0, 1) := by decide +kernel
theorem dX8_receive_206 : decode cX8_receive 206 = .ok (.getfield 51, 3) := by decide +kernel
theorem dX8_receive_209 : decode cX8_receive 209 = .ok (.sipush 240, 3) := by decide +kernel
theorem dX8_receive_212 : decode cX8_receive 212 = .ok (.aload_n 0, 1) := by decide +kernel
theorem dX8_receive_213 : decode cX8_receive 213 = .ok (.getfield 13, 3) := by decide +kernel
theorem dX8_receive_216 : decode cX8_receive 216 = .ok (.iload 8, 2) := by decide +kernel
theorem dX8_receive_218 : decode cX8_receive 218 = .ok (.iaload, 1) := by decide +kernel
theorem dX8_receive_219 : decode cX8_receive 219 = .ok (.imul, 1) := by decide +kernel
theorem dX8_receive_220 : decode cX8_receive 220 = .ok (.iload 4, 2) := by decide +kernel
theorem dX8_receive_222 : decode cX8_receive 222 = .ok (.iadd, 1) := by decide +kernel
theorem dX8_receive_223 : decode cX8_receive 223 = .ok (.baload, 1) := by decide +kernel
theorem dX8_receive_224 : decode cX8_receive 224 = .ok (.ifCond .eq 15, 3) := by decide +kernel
theorem dX8_receive_227 : decode cX8_receive 227 = .ok (.aload_n 0, 1) := by decide +kernel
theorem dX8_receive_228 : decode cX8_receive 228 = .ok (.getfield 13, 3) := by decide +kernel
theorem dX8_receive_231 : decode cX8_receive 231 = .ok (.iload 8, 2) := by decide +kernel
theorem dX8_receive_233 : decode cX8_receive 233 = .ok (.iaload, 1) := by decide +kernel
theorem dX8_receive_234 : decode cX8_receive 234 = .ok (.istore 8, 2) := by decide +kernel
theorem dX8_receive_236 : decode cX8_receive 236 = .ok (.goto (-41), 3) := by decide +kernel
theorem dX8_receive_239 : decode cX8_receive 239 = .ok (.iload 5, 2) := by decide +kernel
theorem dX8_receive_241 : decode cX8_receive 241 = .ok (.iinc 5 1, 3) := by decide +kernel
theorem dX8_receive_244 : decode cX8_receive 244 = .ok (.istore 9, 2) := by decide +kernel
theorem dX8_receive_246 : decode cX8_receive 246 = .ok (.iload 9, 2) := by decide +kernel
theorem dX8_receive_248 : decode cX8_receive 248 = .ok (.ifCond .le 45, 3) := by decide +kernel
theorem dX8_receive_251 : decode cX8_receive 251 = .ok (.aload_n 0, 1) := by decide +kernel
theorem dX8_receive_252 : decode cX8_receive 252 = .ok (.getfield 96, 3) := by decide +kernel
theorem dX8_receive_255 : decode cX8_receive 255 = .ok (.iload 9, 2) := by decide +kernel
theorem dX8_receive_257 : decode cX8_receive 257 = .ok (.iconst 1, 1) := by decide +kernel
theorem dX8_receive_258 : decode cX8_receive 258 = .ok (.isub, 1) := by decide +kernel
theorem dX8_receive_259 : decode cX8_receive 259 = .ok (.laload, 1) := by decide +kernel
theorem dX8_receive_260 : decode cX8_receive 260 = .ok (.aload_n 0, 1) := by decide +kernel
theorem dX8_receive_261 : decode cX8_receive 261 = .ok (.getfield 46, 3) := by decide +kernel
theorem dX8_receive_264 : decode cX8_receive 264 = .ok (.iload 8, 2) := by decide +kernel
theorem dX8_receive_266 : decode cX8_receive 266 = .ok (.laload, 1) := by decide +kernel
theorem dX8_receive_267 : decode cX8_receive 267 = .ok (.lcmp, 1) := by decide +kernel
theorem dX8_receive_268 : decode cX8_receive 268 = .ok (.ifCond .le 25, 3) := by decide +kernel
theorem dX8_receive_271 : decode cX8_receive 271 = .ok (.aload_n 0, 1) := by decide +kernel
theorem dX8_receive_272 : decode cX8_receive 272 = .ok (.getfield 96, 3) := by decide +kernel
theorem dX8_receive_275 : decode cX8_receive 275 = .ok (.iload 9, 2) := by decide +kernel
theorem dX8_receive_277 : decode cX8_receive 277 = .ok (.aload_n 0, 1) := by decide +kernel
theorem dX8_receive_278 : decode cX8_receive 278 = .ok (.getfield 96, 3) := by decide +kernel
theorem dX8_receive_281 : decode cX8_receive 281 = .ok (.iload 9, 2) := by decide +kernel
theorem dX8_receive_283 : decode cX8_receive 283 = .ok (.iconst 1, 1) := by decide +kernel
theorem dX8_receive_284 : decode cX8_receive 284 = .ok (.isub, 1) := by decide +kernel
theorem dX8_receive_285 : decode cX8_receive 285 = .ok (.laload, 1) := by decide +kernel
theorem dX8_receive_286 : decode cX8_receive 286 = .ok (.lastore, 1) := by decide +kernel
theorem dX8_receive_287 : decode cX8_receive 287 = .ok (.iinc 9 (-1), 3) := by decide +kernel
theorem dX8_receive_290 : decode cX8_receive 290 = .ok (.goto (-44), 3) := by decide +kernel
theorem dX8_receive_293 : decode cX8_receive 293 = .ok (.aload_n 0, 1) := by decide +kernel
theorem dX8_receive_294 : decode cX8_receive 294 = .ok (.getfield 96, 3) := by decide +kernel
theorem dX8_receive_297 : decode cX8_receive 297 = .ok (.iload 9, 2) := by decide +kernel
theorem dX8_receive_299 : decode cX8_receive 299 = .ok (.aload_n 0, 1) := by decide +kernel
theorem dX8_receive_300 : decode cX8_receive 300 = .ok (.getfield 46, 3) := by decide +kernel
theorem dX8_receive_303 : decode cX8_receive 303 = .ok (.iload 8, 2) := by decide +kernel
theorem dX8_receive_305 : decode cX8_receive 305 = .ok (.laload, 1) := by decide +kernel
theorem dX8_receive_306 : decode cX8_receive 306 = .ok (.lastore, 1) := by decide +kernel
theorem dX8_receive_307 : decode cX8_receive 307 = .ok (.iinc 7 1, 3) := by decide +kernel
theorem dX8_receive_310 : decode cX8_receive 310 = .ok (.goto (-164), 3) := by decide +kernel
theorem dX8_receive_313 : decode cX8_receive 313 = .ok (.iload 6, 2) := by decide +kernel
theorem dX8_receive_315 : decode cX8_receive 315 = .ok (.ifCond .ne 6, 3) := by decide +kernel
theorem dX8_receive_318 : decode cX8_receive 318 = .ok (.goto 95, 3) := by decide +kernel
theorem dX8_receive_321 : decode cX8_receive 321 = .ok (.aload_n 0, 1) := by decide +kernel
theorem dX8_receive_322 : decode cX8_receive 322 = .ok (.getfield 78, 3) := by decide +kernel
theorem dX8_receive_325 : decode cX8_receive 325 = .ok (.iload 4, 2) := by decide +kernel
theorem dX8_receive_327 : decode cX8_receive 327 = .ok (.iload_n 2, 1) := by decide +kernel
theorem dX8_receive_328 : decode cX8_receive 328 = .ok (.iastore, 1) := by decide +kernel
theorem dX8_receive_329 : decode cX8_receive 329 = .ok (.aload_n 0, 1) := by decide +kernel
theorem dX8_receive_330 : decode cX8_receive 330 = .ok (.getfield 93, 3) := by decide +kernel
theorem dX8_receive_333 : decode cX8_receive 333 = .ok (.iload 4, 2) := by decide +kernel
theorem dX8_receive_335 : decode cX8_receive 335 = .ok (.aload_n 0, 1) := by decide +kernel
theorem dX8_receive_336 : decode cX8_receive 336 = .ok (.getfield 96, 3) := by decide +kernel
theorem dX8_receive_339 : decode cX8_receive 339 = .ok (.iload 5, 2) := by decide +kernel
theorem dX8_receive_341 : decode cX8_receive 341 = .ok (.iconst 2, 1) := by decide +kernel
theorem dX8_receive_342 : decode cX8_receive 342 = .ok (.idiv, 1) := by decide +kernel
theorem dX8_receive_343 : decode cX8_receive 343 = .ok (.laload, 1) := by decide +kernel
theorem dX8_receive_344 : decode cX8_receive 344 = .ok (.lastore, 1) := by decide +kernel
theorem dX8_receive_345 : decode cX8_receive 345 = .ok (.aload_n 0, 1) := by decide +kernel
theorem dX8_receive_346 : decode cX8_receive 346 = .ok (.dup, 1) := by decide +kernel
theorem dX8_receive_347 : decode cX8_receive 347 = .ok (.getfield 269, 3) := by decide +kernel
theorem dX8_receive_350 : decode cX8_receive 350 = .ok (.dup_x1, 1) := by decide +kernel
theorem dX8_receive_351 : decode cX8_receive 351 = .ok (.iconst 1, 1) := by decide +kernel
theorem dX8_receive_352 : decode cX8_receive 352 = .ok (.iadd, 1) := by decide +kernel
theorem dX8_receive_353 : decode cX8_receive 353 = .ok (.putfield 269, 3) := by decide +kernel
theorem dX8_receive_356 : decode cX8_receive 356 = .ok (.istore 7, 2) := by decide +kernel
theorem dX8_receive_358 : decode cX8_receive 358 = .ok (.iload 7, 2) := by decide +kernel
theorem dX8_receive_360 : decode cX8_receive 360 = .ok (.iload_n 3, 1) := by decide +kernel
theorem dX8_receive_361 : decode cX8_receive 361 = .ok (.if_icmp .le 43, 3) := by decide +kernel
theorem dX8_receive_364 : decode cX8_receive 364 = .ok (.aload_n 0, 1) := by decide +kernel
theorem dX8_receive_365 : decode cX8_receive 365 = .ok (.iload 4, 2) := by decide +kernel
theorem dX8_receive_367 : decode cX8_receive 367 = .ok (.aload_n 0, 1) := by decide +kernel
theorem dX8_receive_368 : decode cX8_receive 368 = .ok (.getfield 84, 3) := by decide +kernel
theorem dX8_receive_371 : decode cX8_receive 371 = .ok (.iload 7, 2) := by decide +kernel
theorem dX8_receive_373 : decode cX8_receive 373 = .ok (.iconst 1, 1) := by decide +kernel
theorem dX8_receive_374 : decode cX8_receive 374 = .ok (.isub, 1) := by decide +kernel
theorem dX8_receive_375 : decode cX8_receive 375 = .ok (.iaload, 1) := by decide +kernel
theorem dX8_receive_376 : decode cX8_receive 376 = .ok (.invokevirtual 282, 3) := by decide +kernel
theorem dX8_receive_379 : decode cX8_receive 379 = .ok (.ifCond .eq 25, 3) := by decide +kernel
theorem dX8_receive_382 : decode cX8_receive 382 = .ok (.aload_n 0, 1) := by decide +kernel
theorem dX8_receive_383 : decode cX8_receive 383 = .ok (.getfield 84, 3) := by decide +kernel
theorem dX8_receive_386 : decode cX8_receive 386 = .ok (.iload 7, 2) := by decide +kernel
theorem dX8_receive_388 : decode cX8_receive 388 = .ok (.aload_n 0, 1) := by decide +kernel
theorem dX8_receive_389 : decode cX8_receive 389 = .ok (.getfield 84, 3) := by decide +kernel
theorem dX8_receive_392 : decode cX8_receive 392 = .ok (.iload 7, 2) := by decide +kernel
theorem dX8_receive_394 : decode cX8_receive 394 = .ok (.iconst 1, 1) := by decide +kernel
theorem dX8_receive_395 : decode cX8_receive 395 = .ok (.isub, 1) := by decide +kernel
theorem dX8_receive_396 : decode cX8_receive 396 = .ok (.iaload, 1) := by decide +kernel
theorem dX8_receive_397 : decode cX8_receive 397 = .ok (.iastore, 1) := by decide +kernel
theorem dX8_receive_398 : decode cX8_receive 398 = .ok (.iinc 7 (-1), 3) := by decide +kernel
theorem dX8_receive_401 : decode cX8_receive 401 = .ok (.goto (-43), 3) := by decide +kernel
theorem dX8_receive_404 : decode cX8_receive 404 = .ok (.aload_n 0, 1) := by decide +kernel
theorem dX8_receive_405 : decode cX8_receive 405 = .ok (.getfield 84, 3) := by decide +kernel
theorem dX8_receive_408 : decode cX8_receive 408 = .ok (.iload 7, 2) := by decide +kernel
theorem dX8_receive_410 : decode cX8_receive 410 = .ok (.iload 4, 2) := by decide +kernel
theorem dX8_receive_412 : decode cX8_receive 412 = .ok (.iastore, 1) := by decide +kernel
theorem dX8_receive_413 : decode cX8_receive 413 = .ok (.iinc 4 1, 3) := by decide +kernel
theorem dX8_receive_416 : decode cX8_receive 416 = .ok (.goto (-317), 3) := by decide +kernel
theorem dX8_receive_419 : decode cX8_receive 419 = .ok (.return_, 1) := by decide +kernel
theorem dX8_comesBefore_0 : decode cX8_comesBefore 0 = .ok (.aload_n 0, 1) := by decide +kernel
theorem dX8_comesBefore_1 : decode cX8_comesBefore 1 = .ok (.getfield 93, 3) := by decide +kernel
theorem dX8_comesBefore_4 : decode cX8_comesBefore 4 = .ok (.iload_n 1, 1) := by decide +kernel
theorem dX8_comesBefore_5 : decode cX8_comesBefore 5 = .ok (.laload, 1) := by decide +kernel
theorem dX8_comesBefore_6 : decode cX8_comesBefore 6 = .ok (.aload_n 0, 1) := by decide +kernel
theorem dX8_comesBefore_7 : decode cX8_comesBefore 7 = .ok (.getfield 93, 3) := by decide +kernel
theorem dX8_comesBefore_10 : decode cX8_comesBefore 10 = .ok (.iload_n 2, 1) := by decide +kernel
theorem dX8_comesBefore_11 : decode cX8_comesBefore 11 = .ok (.laload, 1) := by decide +kernel
theorem dX8_comesBefore_12 : decode cX8_comesBefore 12 = .ok (.lcmp, 1) := by decide +kernel
theorem dX8_comesBefore_13 : decode cX8_comesBefore 13 = .ok (.ifCond .eq 25, 3) := by decide +kernel
theorem dX8_comesBefore_16 : decode cX8_comesBefore 16 = .ok (.aload_n 0, 1) := by decide +kernel
theorem dX8_comesBefore_17 : decode cX8_comesBefore 17 = .ok (.getfield 93, 3) := by decide +kernel
theorem dX8_comesBefore_20 : decode cX8_comesBefore 20 = .ok (.iload_n 1, 1) := by decide +kernel
theorem dX8_comesBefore_21 : decode cX8_comesBefore 21 = .ok (.laload, 1) := by decide +kernel
theorem dX8_comesBefore_22 : decode cX8_comesBefore 22 = .ok (.aload_n 0, 1) := by decide +kernel
theorem dX8_comesBefore_23 : decode cX8_comesBefore 23 = .ok (.getfield 93, 3) := by decide +kernel
theorem dX8_comesBefore_26 : decode cX8_comesBefore 26 = .ok (.iload_n 2, 1) := by decide +kernel
theorem dX8_comesBefore_27 : decode cX8_comesBefore 27 = .ok (.laload, 1) := by decide +kernel
theorem dX8_comesBefore_28 : decode cX8_comesBefore 28 = .ok (.lcmp, 1) := by decide +kernel
theorem dX8_comesBefore_29 : decode cX8_comesBefore 29 = .ok (.ifCond .ge 7, 3) := by decide +kernel
theorem dX8_comesBefore_32 : decode cX8_comesBefore 32 = .ok (.iconst 1, 1) := by decide +kernel
theorem dX8_comesBefore_33 : decode cX8_comesBefore 33 = .ok (.goto 4, 3) := by decide +kernel
theorem dX8_comesBefore_36 : decode cX8_comesBefore 36 = .ok (.iconst 0, 1) := by decide +kernel
theorem dX8_comesBefore_37 : decode cX8_comesBefore 37 = .ok (.ireturn, 1) := by decide +kernel
theorem dX8_comesBefore_38 : decode cX8_comesBefore 38 = .ok (.iconst 0, 1) := by decide +kernel
theorem dX8_comesBefore_39 : decode cX8_comesBefore 39 = .ok (.istore_n 3, 1) := by decide +kernel
theorem dX8_comesBefore_40 : decode cX8_comesBefore 40 = .ok (.iload_n 3, 1) := by decide +kernel
theorem dX8_comesBefore_41 : decode cX8_comesBefore 41 = .ok (.bipush 8, 2) := by decide +kernel
theorem dX8_comesBefore_43 : decode cX8_comesBefore 43 = .ok (.if_icmp .ge 81, 3) := by decide +kernel
theorem dX8_comesBefore_46 : decode cX8_comesBefore 46 = .ok (.aload_n 0, 1) := by decide +kernel
theorem dX8_comesBefore_47 : decode cX8_comesBefore 47 = .ok (.getfield 31, 3) := by decide +kernel
theorem dX8_comesBefore_50 : decode cX8_comesBefore 50 = .ok (.bipush 8, 2) := by decide +kernel
theorem dX8_comesBefore_52 : decode cX8_comesBefore 52 = .ok (.iload_n 1, 1) := by decide +kernel
theorem dX8_comesBefore_53 : decode cX8_comesBefore 53 = .ok (.imul, 1) := by decide +kernel
theorem dX8_comesBefore_54 : decode cX8_comesBefore 54 = .ok (.iload_n 3, 1) := by decide +kernel
theorem dX8_comesBefore_55 : decode cX8_comesBefore 55 = .ok (.iadd, 1) := by decide +kernel
theorem dX8_comesBefore_56 : decode cX8_comesBefore 56 = .ok (.iaload, 1) := by decide +kernel
theorem dX8_comesBefore_57 : decode cX8_comesBefore 57 = .ok (.aload_n 0, 1) := by decide +kernel
theorem dX8_comesBefore_58 : decode cX8_comesBefore 58 = .ok (.getfield 90, 3) := by decide +kernel
theorem dX8_comesBefore_61 : decode cX8_comesBefore 61 = .ok (.iload_n 3, 1) := by decide +kernel
theorem dX8_comesBefore_62 : decode cX8_comesBefore 62 = .ok (.iaload, 1) := by decide +kernel
theorem dX8_comesBefore_63 : decode cX8_comesBefore 63 = .ok (.ixor, 1) := by decide +kernel
theorem dX8_comesBefore_64 : decode cX8_comesBefore 64 = .ok (.i2l, 1) := by decide +kernel
theorem dX8_comesBefore_65 : decode cX8_comesBefore 65 = .ok (.ldc2_w 285, 3) := by decide +kernel
theorem dX8_comesBefore_68 : decode cX8_comesBefore 68 = .ok (.land, 1) := by decide +kernel
theorem dX8_comesBefore_69 : decode cX8_comesBefore 69 = .ok (.lstore 4, 2) := by decide +kernel
theorem dX8_comesBefore_71 : decode cX8_comesBefore 71 = .ok (.aload_n 0, 1) := by decide +kernel
theorem dX8_comesBefore_72 : decode cX8_comesBefore 72 = .ok (.getfield 31, 3) := by decide +kernel
theorem dX8_comesBefore_75 : decode cX8_comesBefore 75 = .ok (.bipush 8, 2) := by decide +kernel
theorem dX8_comesBefore_77 : decode cX8_comesBefore 77 = .ok (.iload_n 2, 1) := by decide +kernel
theorem dX8_comesBefore_78 : decode cX8_comesBefore 78 = .ok (.imul, 1) := by decide +kernel
theorem dX8_comesBefore_79 : decode cX8_comesBefore 79 = .ok (.iload_n 3, 1) := by decide +kernel
theorem dX8_comesBefore_80 : decode cX8_comesBefore 80 = .ok (.iadd, 1) := by decide +kernel
theorem dX8_comesBefore_81 : decode cX8_comesBefore 81 = .ok (.iaload, 1) := by decide +kernel
theorem dX8_comesBefore_82 : decode cX8_comesBefore 82 = .ok (.aload_n 0, 1) := by decide +kernel
theorem dX8_comesBefore_83 : decode cX8_comesBefore 83 = .ok (.getfield 90, 3) := by decide +kernel
theorem dX8_comesBefore_86 : decode cX8_comesBefore 86 = .ok (.iload_n 3, 1) := by decide +kernel
theorem dX8_comesBefore_87 : decode cX8_comesBefore 87 = .ok (.iaload, 1) := by decide +kernel
theorem dX8_comesBefore_88 : decode cX8_comesBefore 88 = .ok (.ixor, 1) := by decide +kernel
theorem dX8_comesBefore_89 : decode cX8_comesBefore 89 = .ok (.i2l, 1) := by decide +kernel
theorem dX8_comesBefore_90 : decode cX8_comesBefore 90 = .ok (.ldc2_w 285, 3) := by decide +kernel
theorem dX8_comesBefore_93 : decode cX8_comesBefore 93 = .ok (.land, 1) := by decide +kernel
theorem dX8_comesBefore_94 : decode cX8_comesBefore 94 = .ok (.lstore 6, 2) := by decide +kernel
theorem dX8_comesBefore_96 : decode cX8_comesBefore 96 = .ok (.lload 4, 2) := by decide +kernel
theorem dX8_comesBefore_98 : decode cX8_comesBefore 98 = .ok (.lload 6, 2) := by decide +kernel
theorem dX8_comesBefore_100 : decode cX8_comesBefore 100 = .ok (.lcmp, 1) := by decide +kernel
theorem dX8_comesBefore_101 : decode cX8_comesBefore 101 = .ok (.ifCond .eq 17, 3) := by decide +kernel
theorem dX8_comesBefore_104 : decode cX8_comesBefore 104 = .ok (.lload 4, 2) := by decide +kernel
theorem dX8_comesBefore_106 : decode cX8_comesBefore 106 = .ok (.lload 6, 2) := by decide +kernel
theorem dX8_comesBefore_108 : decode cX8_comesBefore 108 = .ok (.lcmp, 1) := by decide +kernel
theorem dX8_comesBefore_109 : decode cX8_comesBefore 109 = .ok (.ifCond .ge 7, 3) := by decide +kernel
theorem dX8_comesBefore_112 : decode cX8_comesBefore 112 = .ok (.iconst 1, 1) := by decide +kernel
theorem dX8_comesBefore_113 : decode cX8_comesBefore 113 = .ok (.goto 4, 3) := by decide +kernel
theorem dX8_comesBefore_116 : decode cX8_comesBefore 116 = .ok (.iconst 0, 1) := by decide +kernel
theorem dX8_comesBefore_117 : decode cX8_comesBefore 117 = .ok (.ireturn, 1) := by decide +kernel
theorem dX8_comesBefore_118 : decode cX8_comesBefore 118 = .ok (.iinc 3 1, 3) := by decide +kernel
theorem dX8_comesBefore_121 : decode cX8_comesBefore 121 = .ok (.goto (-81), 3) := by decide +kernel
theorem dX8_comesBefore_124 : decode cX8_comesBefore 124 = .ok (.iload_n 1, 1) := by decide +kernel
theorem dX8_comesBefore_125 : decode cX8_comesBefore 125 = .ok (.iload_n 2, 1) := by decide +kernel
theorem dX8_comesBefore_126 : decode cX8_comesBefore 126 = .ok (.if_icmp .ge 7, 3) := by decide +kernel
theorem dX8_comesBefore_129 : decode cX8_comesBefore 129 = .ok (.iconst 1, 1) := by decide +kernel
theorem dX8_comesBefore_130 : decode cX8_comesBefore 130 = .ok (.goto 4, 3) := by decide +kernel
theorem dX8_comesBefore_133 : decode cX8_comesBefore 133 = .ok (.iconst 0, 1) := by decide +kernel
theorem dX8_comesBefore_134 : decode cX8_comesBefore 134 = .ok (.ireturn, 1) := by decide +kernel
theorem dX8_found_0 : decode cX8_found 0 = .ok (.aload_n 0, 1) := by decide +kernel
theorem dX8_found_1 : decode cX8_found 1 = .ok (.iconst 0, 1) := by decide +kernel
theorem dX8_found_2 : decode cX8_found 2 = .ok (.putfield 190, 3) := by decide +kernel
theorem dX8_found_5 : decode cX8_found 5 = .ok (.aload_n 0, 1) := by decide +kernel
theorem dX8_found_6 : decode cX8_found 6 = .ok (.aload_n 0, 1) := by decide +kernel
theorem dX8_found_7 : decode cX8_found 7 = .ok (.iload_n 1, 1) := by decide +kernel
theorem dX8_found_8 : decode cX8_found 8 = .ok (.invokevirtual 259, 3) := by decide +kernel
theorem dX8_found_11 : decode cX8_found 11 = .ok (.ifCond .eq 12, 3) := by decide +kernel
theorem dX8_found_14 : decode cX8_found 14 = .ok (.iload_n 3, 1) := by decide +kernel
theorem dX8_found_15 : decode cX8_found 15 = .ok (.iconst 0, 1) := by decide +kernel
theorem dX8_found_16 : decode cX8_found 16 = .ok (.iconst 3, 1) := by decide +kernel
theorem dX8_found_17 : decode cX8_found 17 = .ok (.invokestatic 196, 3) := by decide +kernel
theorem dX8_found_20 : decode cX8_found 20 = .ok (.ifCond .ne 7, 3) := by decide +kernel
theorem dX8_found_23 : decode cX8_found 23 = .ok (.iconst 1, 1) := by decide +kernel
theorem dX8_found_24 : decode cX8_found 24 = .ok (.goto 4, 3) := by decide +kernel
theorem dX8_found_27 : decode cX8_found 27 = .ok (.iconst 0, 1) := by decide +kernel
theorem dX8_found_28 : decode cX8_found 28 = .ok (.iconst 1, 1) := by decide +kernel
theorem dX8_found_29 : decode cX8_found 29 = .ok (.invokevirtual 203, 3) := by decide +kernel
theorem dX8_found_32 : decode cX8_found 32 = .ok (.ifCond .ne 24, 3) := by decide +kernel
theorem dX8_found_35 : decode cX8_found 35 = .ok (.aload_n 0, 1) := by decide +kernel
theorem dX8_found_36 : decode cX8_found 36 = .ok (.aload_n 0, 1) := by decide +kernel
theorem dX8_found_37 : decode cX8_found 37 = .ok (.iload_n 2, 1) := by decide +kernel
theorem dX8_found_38 : decode cX8_found 38 = .ok (.invokevirtual 263, 3) := by decide +kernel
theorem dX8_found_41 : decode cX8_found 41 = .ok (.ifCond .ne 7, 3) := by decide +kernel
theorem dX8_found_44 : decode cX8_found 44 = .ok (.iconst 1, 1) := by decide +kernel
theorem dX8_found_45 : decode cX8_found 45 = .ok (.goto 4, 3) := by decide +kernel
theorem dX8_found_48 : decode cX8_found 48 = .ok (.iconst 0, 1) := by decide +kernel
theorem dX8_found_49 : decode cX8_found 49 = .ok (.iconst 2, 1) := by decide +kernel
theorem dX8_found_50 : decode cX8_found 50 = .ok (.invokevirtual 203, 3) := by decide +kernel
theorem dX8_found_53 : decode cX8_found 53 = .ok (.ifCond .eq 5, 3) := by decide +kernel
theorem dX8_found_56 : decode cX8_found 56 = .ok (.iconst 0, 1) := by decide +kernel
theorem dX8_found_57 : decode cX8_found 57 = .ok (.ireturn, 1) := by decide +kernel
theorem dX8_found_58 : decode cX8_found 58 = .ok (.aload_n 0, 1) := by decide +kernel
theorem dX8_found_59 : decode cX8_found 59 = .ok (.getfield 55, 3) := by decide +kernel
theorem dX8_found_62 : decode cX8_found 62 = .ok (.sipush 240, 3) := by decide +kernel
theorem dX8_found_65 : decode cX8_found 65 = .ok (.iload_n 1, 1) := by decide +kernel
theorem dX8_found_66 : decode cX8_found 66 = .ok (.imul, 1) := by decide +kernel
theorem dX8_found_67 : decode cX8_found 67 = .ok (.iload_n 2, 1) := by decide +kernel
theorem dX8_found_68 : decode cX8_found 68 = .ok (.iadd, 1) := by decide +kernel
theorem dX8_found_69 : decode cX8_found 69 = .ok (.baload, 1) := by decide +kernel
theorem dX8_found_70 : decode cX8_found 70 = .ok (.istore 4, 2) := by decide +kernel
theorem dX8_found_72 : decode cX8_found 72 = .ok (.iload_n 3, 1) := by decide +kernel
theorem dX8_found_73 : decode cX8_found 73 = .ok (.ifCond .ne 14, 3) := by decide +kernel
theorem dX8_found_76 : decode cX8_found 76 = .ok (.iload 4, 2) := by decide +kernel
theorem dX8_found_78 : decode cX8_found 78 = .ok (.ifCond .eq 7, 3) := by decide +kernel
theorem dX8_found_81 : decode cX8_found 81 = .ok (.iconst 1, 1) := by decide +kernel
theorem dX8_found_82 : decode cX8_found 82 = .ok (.goto 4, 3) := by decide +kernel
theorem dX8_found_85 : decode cX8_found 85 = .ok (.iconst 0, 1) := by decide +kernel
theorem dX8_found_86 : decode cX8_found 86 = .ok (.ireturn, 1) := by decide +kernel
theorem dX8_found_87 : decode cX8_found 87 = .ok (.iload 4, 2) := by decide +kernel
theorem dX8_found_89 : decode cX8_found 89 = .ok (.ifCond .ne 14, 3) := by decide +kernel
theorem dX8_found_92 : decode cX8_found 92 = .ok (.iload_n 3, 1) := by decide +kernel
theorem dX8_found_93 : decode cX8_found 93 = .ok (.iconst 3, 1) := by decide +kernel
theorem dX8_found_94 : decode cX8_found 94 = .ok (.if_icmp .ne 7, 3) := by decide +kernel
theorem dX8_found_97 : decode cX8_found 97 = .ok (.iconst (-1), 1) := by decide +kernel
theorem dX8_found_98 : decode cX8_found 98 = .ok (.goto 4, 3) := by decide +kernel
theorem dX8_found_101 : decode cX8_found 101 = .ok (.iconst 0, 1) := by decide +kernel
theorem dX8_found_102 : decode cX8_found 102 = .ok (.ireturn, 1) := by decide +kernel
theorem dX8_found_103 : decode cX8_found 103 = .ok (.aload_n 0, 1) := by decide +kernel
theorem dX8_found_104 : decode cX8_found 104 = .ok (.iload_n 1, 1) := by decide +kernel
theorem dX8_found_105 : decode cX8_found 105 = .ok (.invokevirtual 287, 3) := by decide +kernel
theorem dX8_found_108 : decode cX8_found 108 = .ok (.iload_n 3, 1) := by decide +kernel
theorem dX8_found_109 : decode cX8_found 109 = .ok (.iconst 1, 1) := by decide +kernel
theorem dX8_found_110 : decode cX8_found 110 = .ok (.if_icmp .ne 12, 3) := by decide +kernel
theorem dX8_found_113 : decode cX8_found 113 = .ok (.aload_n 0, 1) := by decide +kernel
theorem dX8_found_114 : decode cX8_found 114 = .ok (.getfield 75, 3) := by decide +kernel
theorem dX8_found_117 : decode cX8_found 117 = .ok (.iload_n 2, 1) := by decide +kernel
theorem dX8_found_118 : decode cX8_found 118 = .ok (.iaload, 1) := by decide +kernel
theorem dX8_found_119 : decode cX8_found 119 = .ok (.goto 23, 3) := by decide +kernel
theorem dX8_found_122 : decode cX8_found 122 = .ok (.iload_n 3, 1) := by decide +kernel
theorem dX8_found_123 : decode cX8_found 123 = .ok (.iconst 2, 1) := by decide +kernel
theorem dX8_found_124 : decode cX8_found 124 = .ok (.if_icmp .ne 12, 3) := by decide +kernel
theorem dX8_found_127 : decode cX8_found 127 = .ok (.aload_n 0, 1) := by decide +kernel
theorem dX8_found_128 : decode cX8_found 128 = .ok (.getfield 78, 3) := by decide +kernel
theorem dX8_found_131 : decode cX8_found 131 = .ok (.iload_n 2, 1) := by decide +kernel
theorem dX8_found_132 : decode cX8_found 132 = .ok (.iaload, 1) := by decide +kernel
theorem dX8_found_133 : decode cX8_found 133 = .ok (.goto 9, 3) := by decide +kernel
theorem dX8_found_136 : decode cX8_found 136 = .ok (.aload_n 0, 1) := by decide +kernel
theorem dX8_found_137 : decode cX8_found 137 = .ok (.getfield 81, 3) := by decide +kernel
theorem dX8_found_140 : decode cX8_found 140 = .ok (.iload_n 2, 1) := by decide +kernel
theorem dX8_found_141 : decode cX8_found 141 = .ok (.iaload, 1) := by decide +kernel
theorem dX8_found_142 : decode cX8_found 142 = .ok (.ireturn, 1) := by decide +kernel
theorem dX8_stamp_0 : decode cX8_stamp 0 = .ok (.aload_n 0, 1) := by decide +kernel
theorem dX8_stamp_1 : decode cX8_stamp 1 = .ok (.iconst 0, 1) := by decide +kernel
theorem dX8_stamp_2 : decode cX8_stamp 2 = .ok (.putfield 190, 3) := by decide +kernel
theorem dX8_stamp_5 : decode cX8_stamp 5 = .ok (.aload_n 0, 1) := by decide +kernel
theorem dX8_stamp_6 : decode cX8_stamp 6 = .ok (.aload_n 0, 1) := by decide +kernel
theorem dX8_stamp_7 : decode cX8_stamp 7 = .ok (.iload_n 1, 1) := by decide +kernel
theorem dX8_stamp_8 : decode cX8_stamp 8 = .ok (.invokevirtual 259, 3) := by decide +kernel
theorem dX8_stamp_11 : decode cX8_stamp 11 = .ok (.ifCond .ne 7, 3) := by decide +kernel
theorem dX8_stamp_14 : decode cX8_stamp 14 = .ok (.iconst 1, 1) := by decide +kernel
theorem dX8_stamp_15 : decode cX8_stamp 15 = .ok (.goto 4, 3) := by decide +kernel
theorem dX8_stamp_18 : decode cX8_stamp 18 = .ok (.iconst 0, 1) := by decide +kernel
theorem dX8_stamp_19 : decode cX8_stamp 19 = .ok (.iconst 1, 1) := by decide +kernel
theorem dX8_stamp_20 : decode cX8_stamp 20 = .ok (.invokevirtual 203, 3) := by decide +kernel
theorem dX8_stamp_23 : decode cX8_stamp 23 = .ok (.ifCond .ne 24, 3) := by decide +kernel
theorem dX8_stamp_26 : decode cX8_stamp 26 = .ok (.aload_n 0, 1) := by decide +kernel
theorem dX8_stamp_27 : decode cX8_stamp 27 = .ok (.aload_n 0, 1) := by decide +kernel
theorem dX8_stamp_28 : decode cX8_stamp 28 = .ok (.iload_n 2, 1) := by decide +kernel
theorem dX8_stamp_29 : decode cX8_stamp 29 = .ok (.invokevirtual 263, 3) := by decide +kernel
theorem dX8_stamp_32 : decode cX8_stamp 32 = .ok (.ifCond .ne 7, 3) := by decide +kernel
theorem dX8_stamp_35 : decode cX8_stamp 35 = .ok (.iconst 1, 1) := by decide +kernel
theorem dX8_stamp_36 : decode cX8_stamp 36 = .ok (.goto 4, 3) := by decide +kernel
theorem dX8_stamp_39 : decode cX8_stamp 39 = .ok (.iconst 0, 1) := by decide +kernel
theorem dX8_stamp_40 : decode cX8_stamp 40 = .ok (.iconst 2, 1) := by decide +kernel
theorem dX8_stamp_41 : decode cX8_stamp 41 = .ok (.invokevirtual 203, 3) := by decide +kernel
theorem dX8_stamp_44 : decode cX8_stamp 44 = .ok (.ifCond .eq 5, 3) := by decide +kernel
theorem dX8_stamp_47 : decode cX8_stamp 47 = .ok (.lconst 0, 1) := by decide +kernel
theorem dX8_stamp_48 : decode cX8_stamp 48 = .ok (.lreturn, 1) := by decide +kernel
theorem dX8_stamp_49 : decode cX8_stamp 49 = .ok (.aload_n 0, 1) := by decide +kernel
theorem dX8_stamp_50 : decode cX8_stamp 50 = .ok (.iload_n 1, 1) := by decide +kernel
theorem dX8_stamp_51 : decode cX8_stamp 51 = .ok (.invokevirtual 287, 3) := by decide +kernel
theorem dX8_stamp_54 : decode cX8_stamp 54 = .ok (.aload_n 0, 1) := by decide +kernel
theorem dX8_stamp_55 : decode cX8_stamp 55 = .ok (.aload_n 0, 1) := by decide +kernel
theorem dX8_stamp_56 : decode cX8_stamp 56 = .ok (.getfield 55, 3) := by decide +kernel
theorem dX8_stamp_59 : decode cX8_stamp 59 = .ok (.sipush 240, 3) := by decide +kernel
theorem dX8_stamp_62 : decode cX8_stamp 62 = .ok (.iload_n 1, 1) := by decide +kernel
theorem dX8_stamp_63 : decode cX8_stamp 63 = .ok (.imul, 1) := by decide +kernel
theorem dX8_stamp_64 : decode cX8_stamp 64 = .ok (.iload_n 2, 1) := by decide +kernel
theorem dX8_stamp_65 : decode cX8_stamp 65 = .ok (.iadd, 1) := by decide +kernel
theorem dX8_stamp_66 : decode cX8_stamp 66 = .ok (.baload, 1) := by decide +kernel
theorem dX8_stamp_67 : decode cX8_stamp 67 = .ok (.ifCond .eq 12, 3) := by decide +kernel
theorem dX8_stamp_70 : decode cX8_stamp 70 = .ok (.aload_n 0, 1) := by decide +kernel
theorem dX8_stamp_71 : decode cX8_stamp 71 = .ok (.getfield 78, 3) := by decide +kernel
theorem dX8_stamp_74 : decode cX8_stamp 74 = .ok (.iload_n 2, 1) := by decide +kernel
theorem dX8_stamp_75 : decode cX8_stamp 75 = .ok (.iaload, 1) := by decide +kernel
theorem dX8_stamp_76 : decode cX8_stamp 76 = .ok (.ifCond .ne 7, 3) := by decide +kernel
theorem dX8_stamp_79 : decode cX8_stamp 79 = .ok (.iconst 1, 1) := by decide +kernel
theorem dX8_stamp_80 : decode cX8_stamp 80 = .ok (.goto 4, 3) := by decide +kernel
theorem dX8_stamp_83 : decode cX8_stamp 83 = .ok (.iconst 0, 1) := by decide +kernel
theorem dX8_stamp_84 : decode cX8_stamp 84 = .ok (.iconst 3, 1) := by decide +kernel
theorem dX8_stamp_85 : decode cX8_stamp 85 = .ok (.invokevirtual 203, 3) := by decide +kernel
theorem dX8_stamp_88 : decode cX8_stamp 88 = .ok (.ifCond .eq 7, 3) := by decide +kernel
theorem dX8_stamp_91 : decode cX8_stamp 91 = .ok (.lconst 0, 1) := by decide +kernel
theorem dX8_stamp_92 : decode cX8_stamp 92 = .ok (.goto 9, 3) := by decide +kernel
theorem dX8_stamp_95 : decode cX8_stamp 95 = .ok (.aload_n 0, 1) := by decide +kernel
theorem dX8_stamp_96 : decode cX8_stamp 96 = .ok (.getfield 93, 3) := by decide +kernel
theorem dX8_stamp_99 : decode cX8_stamp 99 = .ok (.iload_n 2, 1) := by decide +kernel
theorem dX8_stamp_100 : decode cX8_stamp 100 = .ok (.laload, 1) := by decide +kernel
theorem dX8_stamp_101 : decode cX8_stamp 101 = .ok (.lreturn, 1) := by decide +kernel
theorem dX8_order_0 : decode cX8_order 0 = .ok (.aload_n 0, 1) := by decide +kernel
theorem dX8_order_1 : decode cX8_order 1 = .ok (.iconst 0, 1) := by decide +kernel
theorem dX8_order_2 : decode cX8_order 2 = .ok (.putfield 190, 3) := by decide +kernel
theorem dX8_order_5 : decode cX8_order 5 = .ok (.aload_n 0, 1) := by decide +kernel
theorem dX8_order_6 : decode cX8_order 6 = .ok (.aload_n 0, 1) := by decide +kernel
theorem dX8_order_7 : decode cX8_order 7 = .ok (.iload_n 1, 1) := by decide +kernel
theorem dX8_order_8 : decode cX8_order 8 = .ok (.invokevirtual 259, 3) := by decide +kernel
theorem dX8_order_11 : decode cX8_order 11 = .ok (.ifCond .ne 7, 3) := by decide +kernel
theorem dX8_order_14 : decode cX8_order 14 = .ok (.iconst 1, 1) := by decide +kernel
theorem dX8_order_15 : decode cX8_order 15 = .ok (.goto 4, 3) := by decide +kernel
theorem dX8_order_18 : decode cX8_order 18 = .ok (.iconst 0, 1) := by decide +kernel
theorem dX8_order_19 : decode cX8_order 19 = .ok (.iconst 1, 1) := by decide +kernel
theorem dX8_order_20 : decode cX8_order 20 = .ok (.invokevirtual 203, 3) := by decide +kernel
theorem dX8_order_23 : decode cX8_order 23 = .ok (.ifCond .eq 5, 3) := by decide +kernel
theorem dX8_order_26 : decode cX8_order 26 = .ok (.iconst 0, 1) := by decide +kernel
theorem dX8_order_27 : decode cX8_order 27 = .ok (.ireturn, 1) := by decide +kernel
theorem dX8_order_28 : decode cX8_order 28 = .ok (.aload_n 0, 1) := by decide +kernel
theorem dX8_order_29 : decode cX8_order 29 = .ok (.iload_n 1, 1) := by decide +kernel
theorem dX8_order_30 : decode cX8_order 30 = .ok (.invokevirtual 287, 3) := by decide +kernel
theorem dX8_order_33 : decode cX8_order 33 = .ok (.aload_n 0, 1) := by decide +kernel
theorem dX8_order_34 : decode cX8_order 34 = .ok (.getfield 269, 3) := by decide +kernel
theorem dX8_order_37 : decode cX8_order 37 = .ok (.ireturn, 1) := by decide +kernel
theorem dX8_at_0 : decode cX8_at 0 = .ok (.aload_n 0, 1) := by decide +kernel
theorem dX8_at_1 : decode cX8_at 1 = .ok (.iconst 0, 1) := by decide +kernel
theorem dX8_at_2 : decode cX8_at 2 = .ok (.putfield 190, 3) := by decide +kernel
theorem dX8_at_5 : decode cX8_at 5 = .ok (.aload_n 0, 1) := by decide +kernel
theorem dX8_at_6 : decode cX8_at 6 = .ok (.aload_n 0, 1) := by decide +kernel
theorem dX8_at_7 : decode cX8_at 7 = .ok (.iload_n 1, 1) := by decide +kernel
theorem dX8_at_8 : decode cX8_at 8 = .ok (.invokevirtual 259, 3) := by decide +kernel
theorem dX8_at_11 : decode cX8_at 11 = .ok (.ifCond .ne 7, 3) := by decide +kernel
theorem dX8_at_14 : decode cX8_at 14 = .ok (.iconst 1, 1) := by decide +kernel
theorem dX8_at_15 : decode cX8_at 15 = .ok (.goto 4, 3) := by decide +kernel
theorem dX8_at_18 : decode cX8_at 18 = .ok (.iconst 0, 1) := by decide +kernel
theorem dX8_at_19 : decode cX8_at 19 = .ok (.iconst 1, 1) := by decide +kernel
theorem dX8_at_20 : decode cX8_at 20 = .ok (.invokevirtual 203, 3) := by decide +kernel
theorem dX8_at_23 : decode cX8_at 23 = .ok (.ifCond .eq 5, 3) := by decide +kernel
theorem dX8_at_26 : decode cX8_at 26 = .ok (.iconst 0, 1) := by decide +kernel
theorem dX8_at_27 : decode cX8_at 27 = .ok (.ireturn, 1) := by decide +kernel
theorem dX8_at_28 : decode cX8_at 28 = .ok (.aload_n 0, 1) := by decide +kernel
theorem dX8_at_29 : decode cX8_at 29 = .ok (.iload_n 1, 1) := by decide +kernel
theorem dX8_at_30 : decode cX8_at 30 = .ok (.invokevirtual 287, 3) := by decide +kernel
theorem dX8_at_33 : decode cX8_at 33 = .ok (.aload_n 0, 1) := by decide +kernel
theorem dX8_at_34 : decode cX8_at 34 = .ok (.iload_n 2, 1) := by decide +kernel
theorem dX8_at_35 : decode cX8_at 35 = .ok (.iconst 0, 1) := by decide +kernel
theorem dX8_at_36 : decode cX8_at 36 = .ok (.aload_n 0, 1) := by decide +kernel
theorem dX8_at_37 : decode cX8_at 37 = .ok (.getfield 269, 3) := by decide +kernel
theorem dX8_at_40 : decode cX8_at 40 = .ok (.iconst 1, 1) := by decide +kernel
theorem dX8_at_41 : decode cX8_at 41 = .ok (.isub, 1) := by decide +kernel
theorem dX8_at_42 : decode cX8_at 42 = .ok (.invokestatic 196, 3) := by decide +kernel
theorem dX8_at_45 : decode cX8_at 45 = .ok (.ifCond .ne 7, 3) := by decide +kernel
theorem dX8_at_48 : decode cX8_at 48 = .ok (.iconst 1, 1) := by decide +kernel
theorem dX8_at_49 : decode cX8_at 49 = .ok (.goto 4, 3) := by decide +kernel
theorem dX8_at_52 : decode cX8_at 52 = .ok (.iconst 0, 1) := by decide +kernel
theorem dX8_at_53 : decode cX8_at 53 = .ok (.iconst 2, 1) := by decide +kernel
theorem dX8_at_54 : decode cX8_at 54 = .ok (.invokevirtual 203, 3) := by decide +kernel
theorem dX8_at_57 : decode cX8_at 57 = .ok (.ifCond .eq 7, 3) := by decide +kernel
theorem dX8_at_60 : decode cX8_at 60 = .ok (.iconst 0, 1) := by decide +kernel
theorem dX8_at_61 : decode cX8_at 61 = .ok (.goto 9, 3) := by decide +kernel
theorem dX8_at_64 : decode cX8_at 64 = .ok (.aload_n 0, 1) := by decide +kernel
theorem dX8_at_65 : decode cX8_at 65 = .ok (.getfield 84, 3) := by decide +kernel
theorem dX8_at_68 : decode cX8_at 68 = .ok (.iload_n 2, 1) := by decide +kernel
theorem dX8_at_69 : decode cX8_at 69 = .ok (.iaload, 1) := by decide +kernel
theorem dX8_at_70 : decode cX8_at 70 = .ok (.ireturn, 1) := by decide +kernel
theorem dX8_balance_0 : decode cX8_balance 0 = .ok (.aload_n 0, 1) := by decide +kernel
theorem dX8_balance_1 : decode cX8_balance 1 = .ok (.iconst 0, 1) := by decide +kernel
theorem dX8_balance_2 : decode cX8_balance 2 = .ok (.putfield 190, 3) := by decide +kernel
theorem dX8_balance_5 : decode cX8_balance 5 = .ok (.aload_n 0, 1) := by decide +kernel
theorem dX8_balance_6 : decode cX8_balance 6 = .ok (.aload_n 0, 1) := by decide +kernel
theorem dX8_balance_7 : decode cX8_balance 7 = .ok (.iload_n 1, 1) := by decide +kernel
theorem dX8_balance_8 : decode cX8_balance 8 = .ok (.invokevirtual 259, 3) := by decide +kernel
theorem dX8_balance_11 : decode cX8_balance 11 = .ok (.ifCond .eq 11, 3) := by decide +kernel
theorem dX8_balance_14 : decode cX8_balance 14 = .ok (.aload_n 0, 1) := by decide +kernel
theorem dX8_balance_15 : decode cX8_balance 15 = .ok (.iload_n 2, 1) := by decide +kernel
theorem dX8_balance_16 : decode cX8_balance 16 = .ok (.invokevirtual 259, 3) := by decide +kernel
theorem dX8_balance_19 : decode cX8_balance 19 = .ok (.ifCond .ne 7, 3) := by decide +kernel
theorem dX8_balance_22 : decode cX8_balance 22 = .ok (.iconst 1, 1) := by decide +kernel
theorem dX8_balance_23 : decode cX8_balance 23 = .ok (.goto 4, 3) := by decide +kernel
theorem dX8_balance_26 : decode cX8_balance 26 = .ok (.iconst 0, 1) := by decide +kernel
theorem dX8_balance_27 : decode cX8_balance 27 = .ok (.iconst 1, 1) := by decide +kernel
theorem dX8_balance_28 : decode cX8_balance 28 = .ok (.invokevirtual 203, 3) := by decide +kernel
theorem dX8_balance_31 : decode cX8_balance 31 = .ok (.ifCond .eq 5, 3) := by decide +kernel
theorem dX8_balance_34 : decode cX8_balance 34 = .ok (.iconst 0, 1) := by decide +kernel
theorem dX8_balance_35 : decode cX8_balance 35 = .ok (.ireturn, 1) := by decide +kernel
theorem dX8_balance_36 : decode cX8_balance 36 = .ok (.aload_n 0, 1) := by decide +kernel
theorem dX8_balance_37 : decode cX8_balance 37 = .ok (.iload_n 1, 1) := by decide +kernel
theorem dX8_balance_38 : decode cX8_balance 38 = .ok (.invokevirtual 287, 3) := by decide +kernel
theorem dX8_balance_41 : decode cX8_balance 41 = .ok (.aload_n 0, 1) := by decide +kernel
theorem dX8_balance_42 : decode cX8_balance 42 = .ok (.getfield 87, 3) := by decide +kernel
theorem dX8_balance_45 : decode cX8_balance 45 = .ok (.iload_n 2, 1) := by decide +kernel
theorem dX8_balance_46 : decode cX8_balance 46 = .ok (.iaload, 1) := by decide +kernel
theorem dX8_balance_47 : decode cX8_balance 47 = .ok (.ireturn, 1) := by decide +kernel
theorem dX8_count_0 : decode cX8_count 0 = .ok (.aload_n 0, 1) := by decide +kernel
theorem dX8_count_1 : decode cX8_count 1 = .ok (.iconst 0, 1) := by decide +kernel
theorem dX8_count_2 : decode cX8_count 2 = .ok (.putfield 190, 3) := by decide +kernel
theorem dX8_count_5 : decode cX8_count 5 = .ok (.aload_n 0, 1) := by decide +kernel
theorem dX8_count_6 : decode cX8_count 6 = .ok (.iload_n 1, 1) := by decide +kernel
theorem dX8_count_7 : decode cX8_count 7 = .ok (.iconst 0, 1) := by decide +kernel
theorem dX8_count_8 : decode cX8_count 8 = .ok (.iconst 5, 1) := by decide +kernel
theorem dX8_count_9 : decode cX8_count 9 = .ok (.invokestatic 196, 3) := by decide +kernel
theorem dX8_count_12 : decode cX8_count 12 = .ok (.ifCond .ne 7, 3) := by decide +kernel
theorem dX8_count_15 : decode cX8_count 15 = .ok (.iconst 1, 1) := by decide +kernel
theorem dX8_count_16 : decode cX8_count 16 = .ok (.goto 4, 3) := by decide +kernel
theorem dX8_count_19 : decode cX8_count 19 = .ok (.iconst 0, 1) := by decide +kernel
theorem dX8_count_20 : decode cX8_count 20 = .ok (.iconst 1, 1) := by decide +kernel
theorem dX8_count_21 : decode cX8_count 21 = .ok (.invokevirtual 203, 3) := by decide +kernel
theorem dX8_count_24 : decode cX8_count 24 = .ok (.ifCond .eq 5, 3) := by decide +kernel
theorem dX8_count_27 : decode cX8_count 27 = .ok (.iconst 0, 1) := by decide +kernel
theorem dX8_count_28 : decode cX8_count 28 = .ok (.ireturn, 1) := by decide +kernel
theorem dX8_count_29 : decode cX8_count 29 = .ok (.iconst 0, 1) := by decide +kernel
theorem dX8_count_30 : decode cX8_count 30 = .ok (.istore_n 2, 1) := by decide +kernel
theorem dX8_count_31 : decode cX8_count 31 = .ok (.iload_n 1, 1) := by decide +kernel
theorem dX8_count_32 : decode cX8_count 32 = .ok (.tableswitch 137 0 4 #[36, 41, 46, 81, 127], 36) := by decide +kernel
theorem dX8_count_68 : decode cX8_count 68 = .ok (.aload_n 0, 1) := by decide +kernel
theorem dX8_count_69 : decode cX8_count 69 = .ok (.getfield 193, 3) := by decide +kernel
theorem dX8_count_72 : decode cX8_count 72 = .ok (.ireturn, 1) := by decide +kernel
theorem dX8_count_73 : decode cX8_count 73 = .ok (.aload_n 0, 1) := by decide +kernel
theorem dX8_count_74 : decode cX8_count 74 = .ok (.getfield 200, 3) := by decide +kernel
theorem dX8_count_77 : decode cX8_count 77 = .ok (.ireturn, 1) := by decide +kernel
theorem dX8_count_78 : decode cX8_count 78 = .ok (.iconst 0, 1) := by decide +kernel
theorem dX8_count_79 : decode cX8_count 79 = .ok (.istore_n 3, 1) := by decide +kernel
theorem dX8_count_80 : decode cX8_count 80 = .ok (.iload_n 3, 1) := by decide +kernel
theorem dX8_count_81 : decode cX8_count 81 = .ok (.aload_n 0, 1) := by decide +kernel
theorem dX8_count_82 : decode cX8_count 82 = .ok (.getfield 200, 3) := by decide +kernel
theorem dX8_count_85 : decode cX8_count 85 = .ok (.if_icmp .ge 26, 3) := by decide +kernel
theorem dX8_count_88 : decode cX8_count 88 = .ok (.aload_n 0, 1) := by decide +kernel
theorem dX8_count_89 : decode cX8_count 89 = .ok (.getfield 28, 3) := by decide +kernel
theorem dX8_count_92 : decode cX8_count 92 = .ok (.iload_n 3, 1) := by decide +kernel
theorem dX8_count_93 : decode cX8_count 93 = .ok (.iaload, 1) := by decide +kernel
theorem dX8_count_94 : decode cX8_count 94 = .ok (.iload_n 2, 1) := by decide +kernel
theorem dX8_count_95 : decode cX8_count 95 = .ok (.if_icmp .le 10, 3) := by decide +kernel
theorem dX8_count_98 : decode cX8_count 98 = .ok (.aload_n 0, 1) := by decide +kernel
theorem dX8_count_99 : decode cX8_count 99 = .ok (.getfield 28, 3) := by decide +kernel
theorem dX8_count_102 : decode cX8_count 102 = .ok (.iload_n 3, 1) := by decide +kernel
theorem dX8_count_103 : decode cX8_count 103 = .ok (.iaload, 1) := by decide +kernel
theorem dX8_count_104 : decode cX8_count 104 = .ok (.istore_n 2, 1) := by decide +kernel
theorem dX8_count_105 : decode cX8_count 105 = .ok (.iinc 3 1, 3) := by decide +kernel
theorem dX8_count_108 : decode cX8_count 108 = .ok (.goto (-28), 3) := by decide +kernel
theorem dX8_count_111 : decode cX8_count 111 = .ok (.iload_n 2, 1) := by decide +kernel
theorem dX8_count_112 : decode cX8_count 112 = .ok (.ireturn, 1) := by decide +kernel
theorem dX8_count_113 : decode cX8_count 113 = .ok (.iconst 0, 1) := by decide +kernel
theorem dX8_count_114 : decode cX8_count 114 = .ok (.istore_n 3, 1) := by decide +kernel
theorem dX8_count_115 : decode cX8_count 115 = .ok (.iload_n 3, 1) := by decide +kernel
theorem dX8_count_116 : decode cX8_count 116 = .ok (.aload_n 0, 1) := by decide +kernel
theorem dX8_count_117 : decode cX8_count 117 = .ok (.getfield 200, 3) := by decide +kernel
theorem dX8_count_120 : decode cX8_count 120 = .ok (.if_icmp .ge 37, 3) := by decide +kernel
theorem dX8_count_123 : decode cX8_count 123 = .ok (.iconst 0, 1) := by decide +kernel
theorem dX8_count_124 : decode cX8_count 124 = .ok (.istore 4, 2) := by decide +kernel
theorem dX8_count_126 : decode cX8_count 126 = .ok (.iload 4, 2) := by decide +kernel
theorem dX8_count_128 : decode cX8_count 128 = .ok (.iload_n 3, 1) := by decide +kernel
theorem dX8_count_129 : decode cX8_count 129 = .ok (.if_icmp .ge 22, 3) := by decide +kernel
theorem dX8_count_132 : decode cX8_count 132 = .ok (.aload_n 0, 1) := by decide +kernel
theorem dX8_count_133 : decode cX8_count 133 = .ok (.iload_n 3, 1) := by decide +kernel
theorem dX8_count_134 : decode cX8_count 134 = .ok (.iload 4, 2) := by decide +kernel
theorem dX8_count_136 : decode cX8_count 136 = .ok (.invokevirtual 234, 3) := by decide +kernel
theorem dX8_count_139 : decode cX8_count 139 = .ok (.ifCond .eq 6, 3) := by decide +kernel
theorem dX8_count_142 : decode cX8_count 142 = .ok (.iinc 2 1, 3) := by decide +kernel
theorem dX8_count_145 : decode cX8_count 145 = .ok (.iinc 4 1, 3) := by decide +kernel
theorem dX8_count_148 : decode cX8_count 148 = .ok (.goto (-22), 3) := by decide +kernel
theorem dX8_count_151 : decode cX8_count 151 = .ok (.iinc 3 1, 3) := by decide +kernel
theorem dX8_count_154 : decode cX8_count 154 = .ok (.goto (-39), 3) := by decide +kernel
theorem dX8_count_157 : decode cX8_count 157 = .ok (.iload_n 2, 1) := by decide +kernel
theorem dX8_count_158 : decode cX8_count 158 = .ok (.ireturn, 1) := by decide +kernel
theorem dX8_count_159 : decode cX8_count 159 = .ok (.aload_n 0, 1) := by decide +kernel
theorem dX8_count_160 : decode cX8_count 160 = .ok (.iconst 0, 1) := by decide +kernel
theorem dX8_count_161 : decode cX8_count 161 = .ok (.invokevirtual 287, 3) := by decide +kernel
theorem dX8_count_164 : decode cX8_count 164 = .ok (.aload_n 0, 1) := by decide +kernel
theorem dX8_count_165 : decode cX8_count 165 = .ok (.getfield 272, 3) := by decide +kernel
theorem dX8_count_168 : decode cX8_count 168 = .ok (.ireturn, 1) := by decide +kernel
theorem dX8_count_169 : decode cX8_count 169 = .ok (.iconst 0, 1) := by decide +kernel
theorem dX8_count_170 : decode cX8_count 170 = .ok (.istore_n 3, 1) := by decide +kernel
theorem dX8_count_171 : decode cX8_count 171 = .ok (.iload_n 3, 1) := by decide +kernel
theorem dX8_count_172 : decode cX8_count 172 = .ok (.aload_n 0, 1) := by decide +kernel
theorem dX8_count_173 : decode cX8_count 173 = .ok (.getfield 193, 3) := by decide +kernel
theorem dX8_count_176 : decode cX8_count 176 = .ok (.if_icmp .ge 18, 3) := by decide +kernel
theorem dX8_count_179 : decode cX8_count 179 = .ok (.iload_n 2, 1) := by decide +kernel
theorem dX8_count_180 : decode cX8_count 180 = .ok (.aload_n 0, 1) := by decide +kernel
theorem dX8_count_181 : decode cX8_count 181 = .ok (.getfield 37, 3) := by decide +kernel
theorem dX8_count_184 : decode cX8_count 184 = .ok (.iload_n 3, 1) := by decide +kernel
theorem dX8_count_185 : decode cX8_count 185 = .ok (.iaload, 1) := by decide +kernel
theorem dX8_count_186 : decode cX8_count 186 = .ok (.iadd, 1) := by decide +kernel
theorem dX8_count_187 : decode cX8_count 187 = .ok (.istore_n 2, 1) := by decide +kernel
theorem dX8_count_188 : decode cX8_count 188 = .ok (.iinc 3 1, 3) := by decide +kernel
theorem dX8_count_191 : decode cX8_count 191 = .ok (.goto (-20), 3) := by decide +kernel
theorem dX8_count_194 : decode cX8_count 194 = .ok (.iload_n 2, 1) := by decide +kernel
theorem dX8_count_195 : decode cX8_count 195 = .ok (.ireturn, 1) := by decide +kernel
end
section
theorem dJ5_init_d00df_0 : decode cJ5_init_d00df 0 = .ok (.aload_n 0, 1) := by decide +kernel
theorem dJ5_init_d00df_1 : decode cJ5_init_d00df 1 = .ok (.invokespecial 3, 3) := by decide +kernel
theorem dJ5_init_d00df_4 : decode cJ5_init_d00df 4 = .ok (.getstatic 18, 3) := by decide +kernel
theorem dJ5_init_d00df_7 : decode cJ5_init_d00df 7 = .ok (.ifCond .eq 18, 3) := by decide +kernel
theorem dJ5_init_d00df_10 : decode cJ5_init_d00df 10 = .ok (.aload_n 0, 1) := by decide +kernel
theorem dJ5_init_d00df_11 : decode cJ5_init_d00df 11 = .ok (.iload_n 1, 1) := by decide +kernel
theorem dJ5_init_d00df_12 : decode cJ5_init_d00df 12 = .ok (.newarray .byte, 2) := by decide +kernel
theorem dJ5_init_d00df_14 : decode cJ5_init_d00df 14 = .ok (.putfield 15, 3) := by decide +kernel
theorem dJ5_init_d00df_17 : decode cJ5_init_d00df 17 = .ok (.aload_n 0, 1) := by decide +kernel
theorem dJ5_init_d00df_18 : decode cJ5_init_d00df 18 = .ok (.iconst 0, 1) := by decide +kernel
theorem dJ5_init_d00df_19 : decode cJ5_init_d00df 19 = .ok (.putfield 22, 3) := by decide +kernel
theorem dJ5_init_d00df_22 : decode cJ5_init_d00df 22 = .ok (.goto 16, 3) := by decide +kernel
theorem dJ5_init_d00df_25 : decode cJ5_init_d00df 25 = .ok (.aload_n 0, 1) := by decide +kernel
theorem dJ5_init_d00df_26 : decode cJ5_init_d00df 26 = .ok (.iload_n 1, 1) := by decide +kernel
theorem dJ5_init_d00df_27 : decode cJ5_init_d00df 27 = .ok (.invokestatic 26, 3) := by decide +kernel
theorem dJ5_init_d00df_30 : decode cJ5_init_d00df 30 = .ok (.putfield 15, 3) := by decide +kernel
theorem dJ5_init_d00df_33 : decode cJ5_init_d00df 33 = .ok (.aload_n 0, 1) := by decide +kernel
theorem dJ5_init_d00df_34 : decode cJ5_init_d00df 34 = .ok (.iconst 1, 1) := by decide +kernel
theorem dJ5_init_d00df_35 : decode cJ5_init_d00df 35 = .ok (.putfield 22, 3) := by decide +kernel
theorem dJ5_init_d00df_38 : decode cJ5_init_d00df 38 = .ok (.return_, 1) := by decide +kernel
theorem dJ5_length_8abf5_0 : decode cJ5_length_8abf5 0 = .ok (.aload_n 0, 1) := by decide +kernel
theorem dJ5_length_8abf5_1 : decode cJ5_length_8abf5 1 = .ok (.getfield 79, 3) := by decide +kernel
theorem dJ5_length_8abf5_4 : decode cJ5_length_8abf5 4 = .ok (.ireturn, 1) := by decide +kernel
theorem dJ5_ensureCapacityInternal_d00df_0 : decode cJ5_ensureCapacityInternal_d00df 0 = .ok (.aload_n 0, 1) := by decide +kernel
theorem dJ5_ensureCapacityInternal_d00df_1 : decode cJ5_ensureCapacityInternal_d00df 1 = .ok (.getfield 15, 3) := by decide +kernel
theorem dJ5_ensureCapacityInternal_d00df_4 : decode cJ5_ensureCapacityInternal_d00df 4 = .ok (.arraylength, 1) := by decide +kernel
theorem dJ5_ensureCapacityInternal_d00df_5 : decode cJ5_ensureCapacityInternal_d00df 5 = .ok (.aload_n 0, 1) := by decide +kernel
theorem dJ5_ensureCapacityInternal_d00df_6 : decode cJ5_ensureCapacityInternal_d00df 6 = .ok (.getfield 22, 3) := by decide +kernel
theorem dJ5_ensureCapacityInternal_d00df_9 : decode cJ5_ensureCapacityInternal_d00df 9 = .ok (.ishr, 1) := by decide +kernel
theorem dJ5_ensureCapacityInternal_d00df_10 : decode cJ5_ensureCapacityInternal_d00df 10 = .ok (.istore_n 2, 1) := by decide +kernel
theorem dJ5_ensureCapacityInternal_d00df_11 : decode cJ5_ensureCapacityInternal_d00df 11 = .ok (.iload_n 1, 1) := by decide +kernel
theorem dJ5_ensureCapacityInternal_d00df_12 : decode cJ5_ensureCapacityInternal_d00df 12 = .ok (.iload_n 2, 1) := by decide +kernel
theorem dJ5_ensureCapacityInternal_d00df_13 : decode cJ5_ensureCapacityInternal_d00df 13 = .ok (.isub, 1) := by decide +kernel
theorem dJ5_ensureCapacityInternal_d00df_14 : decode cJ5_ensureCapacityInternal_d00df 14 = .ok (.ifCond .le 24, 3) := by decide +kernel
theorem dJ5_ensureCapacityInternal_d00df_17 : decode cJ5_ensureCapacityInternal_d00df 17 = .ok (.aload_n 0, 1) := by decide +kernel
theorem dJ5_ensureCapacityInternal_d00df_18 : decode cJ5_ensureCapacityInternal_d00df 18 = .ok (.aload_n 0, 1) := by decide +kernel
theorem dJ5_ensureCapacityInternal_d00df_19 : decode cJ5_ensureCapacityInternal_d00df 19 = .ok (.getfield 15, 3) := by decide +kernel
theorem dJ5_ensureCapacityInternal_d00df_22 : decode cJ5_ensureCapacityInternal_d00df 22 = .ok (.aload_n 0, 1) := by decide +kernel
theorem dJ5_ensureCapacityInternal_d00df_23 : decode cJ5_ensureCapacityInternal_d00df 23 = .ok (.iload_n 1, 1) := by decide +kernel
theorem dJ5_ensureCapacityInternal_d00df_24 : decode cJ5_ensureCapacityInternal_d00df 24 = .ok (.invokevirtual 104, 3) := by decide +kernel
theorem dJ5_ensureCapacityInternal_d00df_27 : decode cJ5_ensureCapacityInternal_d00df 27 = .ok (.aload_n 0, 1) := by decide +kernel
theorem dJ5_ensureCapacityInternal_d00df_28 : decode cJ5_ensureCapacityInternal_d00df 28 = .ok (.getfield 22, 3) := by decide +kernel
theorem dJ5_ensureCapacityInternal_d00df_31 : decode cJ5_ensureCapacityInternal_d00df 31 = .ok (.ishl, 1) := by decide +kernel
theorem dJ5_ensureCapacityInternal_d00df_32 : decode cJ5_ensureCapacityInternal_d00df 32 = .ok (.invokestatic 108, 3) := by decide +kernel
theorem dJ5_ensureCapacityInternal_d00df_35 : decode cJ5_ensureCapacityInternal_d00df 35 = .ok (.putfield 15, 3) := by decide +kernel
theorem dJ5_ensureCapacityInternal_d00df_38 : decode cJ5_ensureCapacityInternal_d00df 38 = .ok (.return_, 1) := by decide +kernel
theorem dJ5_newCapacity_0f7a4_0 : decode cJ5_newCapacity_0f7a4 0 = .ok (.aload_n 0, 1) := by decide +kernel
theorem dJ5_newCapacity_0f7a4_1 : decode cJ5_newCapacity_0f7a4 1 = .ok (.getfield 15, 3) := by decide +kernel
theorem dJ5_newCapacity_0f7a4_4 : decode cJ5_newCapacity_0f7a4 4 = .ok (.arraylength, 1) := by decide +kernel
theorem dJ5_newCapacity_0f7a4_5 : decode cJ5_newCapacity_0f7a4 5 = .ok (.istore_n 2, 1) := by decide +kernel
theorem dJ5_newCapacity_0f7a4_6 : decode cJ5_newCapacity_0f7a4 6 = .ok (.iload_n 1, 1) := by decide +kernel
theorem dJ5_newCapacity_0f7a4_7 : decode cJ5_newCapacity_0f7a4 7 = .ok (.aload_n 0, 1) := by decide +kernel
theorem dJ5_newCapacity_0f7a4_8 : decode cJ5_newCapacity_0f7a4 8 = .ok (.getfield 22, 3) := by decide +kernel
theorem dJ5_newCapacity_0f7a4_11 : decode cJ5_newCapacity_0f7a4 11 = .ok (.ishl, 1) := by decide +kernel
theorem dJ5_newCapacity_0f7a4_12 : decode cJ5_newCapacity_0f7a4 12 = .ok (.istore_n 3, 1) := by decide +kernel
theorem dJ5_newCapacity_0f7a4_13 : decode cJ5_newCapacity_0f7a4 13 = .ok (.iload_n 3, 1) := by decide +kernel
theorem dJ5_newCapacity_0f7a4_14 : decode cJ5_newCapacity_0f7a4 14 = .ok (.iload_n 2, 1) := by decide +kernel
theorem dJ5_newCapacity_0f7a4_15 : decode cJ5_newCapacity_0f7a4 15 = .ok (.isub, 1) := by decide +kernel
theorem dJ5_newCapacity_0f7a4_16 : decode cJ5_newCapacity_0f7a4 16 = .ok (.istore 4, 2) := by decide +kernel
theorem dJ5_newCapacity_0f7a4_18 : decode cJ5_newCapacity_0f7a4 18 = .ok (.iload_n 2, 1) := by decide +kernel
theorem dJ5_newCapacity_0f7a4_19 : decode cJ5_newCapacity_0f7a4 19 = .ok (.iload 4, 2) := by decide +kernel
theorem dJ5_newCapacity_0f7a4_21 : decode cJ5_newCapacity_0f7a4 21 = .ok (.iload_n 2, 1) := by decide +kernel
theorem dJ5_newCapacity_0f7a4_22 : decode cJ5_newCapacity_0f7a4 22 = .ok (.iconst 2, 1) := by decide +kernel
theorem dJ5_newCapacity_0f7a4_23 : decode cJ5_newCapacity_0f7a4 23 = .ok (.aload_n 0, 1) := by decide +kernel
theorem dJ5_newCapacity_0f7a4_24 : decode cJ5_newCapacity_0f7a4 24 = .ok (.getfield 22, 3) := by decide +kernel
theorem dJ5_newCapacity_0f7a4_27 : decode cJ5_newCapacity_0f7a4 27 = .ok (.ishl, 1) := by decide +kernel
theorem dJ5_newCapacity_0f7a4_28 : decode cJ5_newCapacity_0f7a4 28 = .ok (.iadd, 1) := by decide +kernel
theorem dJ5_newCapacity_0f7a4_29 : decode cJ5_newCapacity_0f7a4 29 = .ok (.invokestatic 114, 3) := by decide +kernel
theorem dJ5_newCapacity_0f7a4_32 : decode cJ5_newCapacity_0f7a4 32 = .ok (.istore 5, 2) := by decide +kernel
theorem dJ5_newCapacity_0f7a4_34 : decode cJ5_newCapacity_0f7a4 34 = .ok (.iload 5, 2) := by decide +kernel
theorem dJ5_newCapacity_0f7a4_36 : decode cJ5_newCapacity_0f7a4 36 = .ok (.ldc 39, 2) := by decide +kernel
theorem dJ5_newCapacity_0f7a4_38 : decode cJ5_newCapacity_0f7a4 38 = .ok (.if_icmp .ne 13, 3) := by decide +kernel
theorem dJ5_newCapacity_0f7a4_41 : decode cJ5_newCapacity_0f7a4 41 = .ok (.new 120, 3) := by decide +kernel
theorem dJ5_newCapacity_0f7a4_44 : decode cJ5_newCapacity_0f7a4 44 = .ok (.dup, 1) := by decide +kernel
theorem dJ5_newCapacity_0f7a4_45 : decode cJ5_newCapacity_0f7a4 45 = .ok (.ldc 122, 2) := by decide +kernel
theorem dJ5_newCapacity_0f7a4_47 : decode cJ5_newCapacity_0f7a4 47 = .ok (.invokespecial 124, 3) := by decide +kernel
theorem dJ5_newCapacity_0f7a4_50 : decode cJ5_newCapacity_0f7a4 50 = .ok (.athrow, 1) := by decide +kernel
theorem dJ5_newCapacity_0f7a4_51 : decode cJ5_newCapacity_0f7a4 51 = .ok (.iload 5, 2) := by decide +kernel
theorem dJ5_newCapacity_0f7a4_53 : decode cJ5_newCapacity_0f7a4 53 = .ok (.aload_n 0, 1) := by decide +kernel
theorem dJ5_newCapacity_0f7a4_54 : decode cJ5_newCapacity_0f7a4 54 = .ok (.getfield 22, 3) := by decide +kernel
theorem dJ5_newCapacity_0f7a4_57 : decode cJ5_newCapacity_0f7a4 57 = .ok (.ishr, 1) := by decide +kernel
theorem dJ5_newCapacity_0f7a4_58 : decode cJ5_newCapacity_0f7a4 58 = .ok (.ireturn, 1) := by decide +kernel
theorem dJ5_inflate_da8c8_0 : decode cJ5_inflate_da8c8 0 = .ok (.aload_n 0, 1) := by decide +kernel
theorem dJ5_inflate_da8c8_1 : decode cJ5_inflate_da8c8 1 = .ok (.invokevirtual 83, 3) := by decide +kernel
theorem dJ5_inflate_da8c8_4 : decode cJ5_inflate_da8c8 4 = .ok (.ifCond .ne 4, 3) := by decide +kernel
theorem dJ5_inflate_da8c8_7 : decode cJ5_inflate_da8c8 7 = .ok (.return_, 1) := by decide +kernel
theorem dJ5_inflate_da8c8_8 : decode cJ5_inflate_da8c8 8 = .ok (.aload_n 0, 1) := by decide +kernel
theorem dJ5_inflate_da8c8_9 : decode cJ5_inflate_da8c8 9 = .ok (.getfield 15, 3) := by decide +kernel
theorem dJ5_inflate_da8c8_12 : decode cJ5_inflate_da8c8 12 = .ok (.arraylength, 1) := by decide +kernel
theorem dJ5_inflate_da8c8_13 : decode cJ5_inflate_da8c8 13 = .ok (.invokestatic 26, 3) := by decide +kernel
theorem dJ5_inflate_da8c8_16 : decode cJ5_inflate_da8c8 16 = .ok (.astore_n 1, 1) := by decide +kernel
theorem dJ5_inflate_da8c8_17 : decode cJ5_inflate_da8c8 17 = .ok (.aload_n 0, 1) := by decide +kernel
theorem dJ5_inflate_da8c8_18 : decode cJ5_inflate_da8c8 18 = .ok (.getfield 15, 3) := by decide +kernel
theorem dJ5_inflate_da8c8_21 : decode cJ5_inflate_da8c8 21 = .ok (.iconst 0, 1) := by decide +kernel
theorem dJ5_inflate_da8c8_22 : decode cJ5_inflate_da8c8 22 = .ok (.aload_n 1, 1) := by decide +kernel
theorem dJ5_inflate_da8c8_23 : decode cJ5_inflate_da8c8 23 = .ok (.iconst 0, 1) := by decide +kernel
theorem dJ5_inflate_da8c8_24 : decode cJ5_inflate_da8c8 24 = .ok (.aload_n 0, 1) := by decide +kernel
theorem dJ5_inflate_da8c8_25 : decode cJ5_inflate_da8c8 25 = .ok (.getfield 79, 3) := by decide +kernel
theorem dJ5_inflate_da8c8_28 : decode cJ5_inflate_da8c8 28 = .ok (.invokestatic 125, 3) := by decide +kernel
theorem dJ5_inflate_da8c8_31 : decode cJ5_inflate_da8c8 31 = .ok (.aload_n 0, 1) := by decide +kernel
theorem dJ5_inflate_da8c8_32 : decode cJ5_inflate_da8c8 32 = .ok (.aload_n 1, 1) := by decide +kernel
theorem dJ5_inflate_da8c8_33 : decode cJ5_inflate_da8c8 33 = .ok (.putfield 15, 3) := by decide +kernel
theorem dJ5_inflate_da8c8_36 : decode cJ5_inflate_da8c8 36 = .ok (.aload_n 0, 1) := by decide +kernel
theorem dJ5_inflate_da8c8_37 : decode cJ5_inflate_da8c8 37 = .ok (.iconst 1, 1) := by decide +kernel
theorem dJ5_inflate_da8c8_38 : decode cJ5_inflate_da8c8 38 = .ok (.putfield 22, 3) := by decide +kernel
theorem dJ5_inflate_da8c8_41 : decode cJ5_inflate_da8c8 41 = .ok (.return_, 1) := by decide +kernel
theorem dJ5_append_cf1ce_0 : decode cJ5_append_cf1ce 0 = .ok (.aload_n 1, 1) := by decide +kernel
theorem dJ5_append_cf1ce_1 : decode cJ5_append_cf1ce 1 = .ok (.ifnonnull 8, 3) := by decide +kernel
theorem dJ5_append_cf1ce_4 : decode cJ5_append_cf1ce 4 = .ok (.aload_n 0, 1) := by decide +kernel
theorem dJ5_append_cf1ce_5 : decode cJ5_append_cf1ce 5 = .ok (.invokevirtual 204, 3) := by decide +kernel
theorem dJ5_append_cf1ce_8 : decode cJ5_append_cf1ce 8 = .ok (.areturn, 1) := by decide +kernel
theorem dJ5_append_cf1ce_9 : decode cJ5_append_cf1ce 9 = .ok (.aload_n 1, 1) := by decide +kernel
theorem dJ5_append_cf1ce_10 : decode cJ5_append_cf1ce 10 = .ok (.invokevirtual 32, 3) := by decide +kernel
theorem dJ5_append_cf1ce_13 : decode cJ5_append_cf1ce 13 = .ok (.istore_n 2, 1) := by decide +kernel
theorem dJ5_append_cf1ce_14 : decode cJ5_append_cf1ce 14 = .ok (.aload_n 0, 1) := by decide +kernel
theorem dJ5_append_cf1ce_15 : decode cJ5_append_cf1ce 15 = .ok (.aload_n 0, 1) := by decide +kernel
theorem dJ5_append_cf1ce_16 : decode cJ5_append_cf1ce 16 = .ok (.getfield 79, 3) := by decide +kernel
theorem dJ5_append_cf1ce_19 : decode cJ5_append_cf1ce 19 = .ok (.iload_n 2, 1) := by decide +kernel
theorem dJ5_append_cf1ce_20 : decode cJ5_append_cf1ce 20 = .ok (.iadd, 1) := by decide +kernel
theorem dJ5_append_cf1ce_21 : decode cJ5_append_cf1ce 21 = .ok (.invokevirtual 100, 3) := by decide +kernel
theorem dJ5_append_cf1ce_24 : decode cJ5_append_cf1ce 24 = .ok (.aload_n 0, 1) := by decide +kernel
theorem dJ5_append_cf1ce_25 : decode cJ5_append_cf1ce 25 = .ok (.aload_n 0, 1) := by decide +kernel
theorem dJ5_append_cf1ce_26 : decode cJ5_append_cf1ce 26 = .ok (.getfield 79, 3) := by decide +kernel
theorem dJ5_append_cf1ce_29 : decode cJ5_append_cf1ce 29 = .ok (.aload_n 1, 1) := by decide +kernel
theorem dJ5_append_cf1ce_30 : decode cJ5_append_cf1ce 30 = .ok (.invokevirtual 208, 3) := by decide +kernel
theorem dJ5_append_cf1ce_33 : decode cJ5_append_cf1ce 33 = .ok (.aload_n 0, 1) := by decide +kernel
theorem dJ5_append_cf1ce_34 : decode cJ5_append_cf1ce 34 = .ok (.dup, 1) := by decide +kernel
theorem dJ5_append_cf1ce_35 : decode cJ5_append_cf1ce 35 = .ok (.getfield 79, 3) := by decide +kernel
theorem dJ5_append_cf1ce_38 : decode cJ5_append_cf1ce 38 = .ok (.iload_n 2, 1) := by decide +kernel
theorem dJ5_append_cf1ce_39 : decode cJ5_append_cf1ce 39 = .ok (.iadd, 1) := by decide +kernel
theorem dJ5_append_cf1ce_40 : decode cJ5_append_cf1ce 40 = .ok (.putfield 79, 3) := by decide +kernel
theorem dJ5_append_cf1ce_43 : decode cJ5_append_cf1ce 43 = .ok (.aload_n 0, 1) := by decide +kernel
theorem dJ5_append_cf1ce_44 : decode cJ5_append_cf1ce 44 = .ok (.areturn, 1) := by decide +kernel
theorem dJ5_appendNull_278bc_0 : decode cJ5_appendNull_278bc 0 = .ok (.aload_n 0, 1) := by decide +kernel
theorem dJ5_appendNull_278bc_1 : decode cJ5_appendNull_278bc 1 = .ok (.aload_n 0, 1) := by decide +kernel
theorem dJ5_appendNull_278bc_2 : decode cJ5_appendNull_278bc 2 = .ok (.getfield 79, 3) := by decide +kernel
theorem dJ5_appendNull_278bc_5 : decode cJ5_appendNull_278bc 5 = .ok (.iconst 4, 1) := by decide +kernel
theorem dJ5_appendNull_278bc_6 : decode cJ5_appendNull_278bc 6 = .ok (.iadd, 1) := by decide +kernel
theorem dJ5_appendNull_278bc_7 : decode cJ5_appendNull_278bc 7 = .ok (.invokevirtual 100, 3) := by decide +kernel
theorem dJ5_appendNull_278bc_10 : decode cJ5_appendNull_278bc 10 = .ok (.aload_n 0, 1) := by decide +kernel
theorem dJ5_appendNull_278bc_11 : decode cJ5_appendNull_278bc 11 = .ok (.getfield 79, 3) := by decide +kernel
theorem dJ5_appendNull_278bc_14 : decode cJ5_appendNull_278bc 14 = .ok (.istore_n 1, 1) := by decide +kernel
theorem dJ5_appendNull_278bc_15 : decode cJ5_appendNull_278bc 15 = .ok (.aload_n 0, 1) := by decide +kernel
theorem dJ5_appendNull_278bc_16 : decode cJ5_appendNull_278bc 16 = .ok (.getfield 15, 3) := by decide +kernel
theorem dJ5_appendNull_278bc_19 : decode cJ5_appendNull_278bc 19 = .ok (.astore_n 2, 1) := by decide +kernel
theorem dJ5_appendNull_278bc_20 : decode cJ5_appendNull_278bc 20 = .ok (.aload_n 0, 1) := by decide +kernel
theorem dJ5_appendNull_278bc_21 : decode cJ5_appendNull_278bc 21 = .ok (.invokevirtual 83, 3) := by decide +kernel
theorem dJ5_appendNull_278bc_24 : decode cJ5_appendNull_278bc 24 = .ok (.ifCond .eq 38, 3) := by decide +kernel
theorem dJ5_appendNull_278bc_27 : decode cJ5_appendNull_278bc 27 = .ok (.aload_n 2, 1) := by decide +kernel
theorem dJ5_appendNull_278bc_28 : decode cJ5_appendNull_278bc 28 = .ok (.iload_n 1, 1) := by decide +kernel
theorem dJ5_appendNull_278bc_29 : decode cJ5_appendNull_278bc 29 = .ok (.iinc 1 1, 3) := by decide +kernel
theorem dJ5_appendNull_278bc_32 : decode cJ5_appendNull_278bc 32 = .ok (.bipush 110, 2) := by decide +kernel
theorem dJ5_appendNull_278bc_34 : decode cJ5_appendNull_278bc 34 = .ok (.bastore, 1) := by decide +kernel
theorem dJ5_appendNull_278bc_35 : decode cJ5_appendNull_278bc 35 = .ok (.aload_n 2, 1) := by decide +kernel
theorem dJ5_appendNull_278bc_36 : decode cJ5_appendNull_278bc 36 = .ok (.iload_n 1, 1) := by decide +kernel
theorem dJ5_appendNull_278bc_37 : decode cJ5_appendNull_278bc 37 = .ok (.iinc 1 1, 3) := by decide +kernel
theorem dJ5_appendNull_278bc_40 : decode cJ5_appendNull_278bc 40 = .ok (.bipush 117, 2) := by decide +kernel
theorem dJ5_appendNull_278bc_42 : decode cJ5_appendNull_278bc 42 = .ok (.bastore, 1) := by decide +kernel
theorem dJ5_appendNull_278bc_43 : decode cJ5_appendNull_278bc 43 = .ok (.aload_n 2, 1) := by decide +kernel
theorem dJ5_appendNull_278bc_44 : decode cJ5_appendNull_278bc 44 = .ok (.iload_n 1, 1) := by decide +kernel
theorem dJ5_appendNull_278bc_45 : decode cJ5_appendNull_278bc 45 = .ok (.iinc 1 1, 3) := by decide +kernel
theorem dJ5_appendNull_278bc_48 : decode cJ5_appendNull_278bc 48 = .ok (.bipush 108, 2) := by decide +kernel
theorem dJ5_appendNull_278bc_50 : decode cJ5_appendNull_278bc 50 = .ok (.bastore, 1) := by decide +kernel
theorem dJ5_appendNull_278bc_51 : decode cJ5_appendNull_278bc 51 = .ok (.aload_n 2, 1) := by decide +kernel
theorem dJ5_appendNull_278bc_52 : decode cJ5_appendNull_278bc 52 = .ok (.iload_n 1, 1) := by decide +kernel
theorem dJ5_appendNull_278bc_53 : decode cJ5_appendNull_278bc 53 = .ok (.iinc 1 1, 3) := by decide +kernel
theorem dJ5_appendNull_278bc_56 : decode cJ5_appendNull_278bc 56 = .ok (.bipush 108, 2) := by decide +kernel
theorem dJ5_appendNull_278bc_58 : decode cJ5_appendNull_278bc 58 = .ok (.bastore, 1) := by decide +kernel
theorem dJ5_appendNull_278bc_59 : decode cJ5_appendNull_278bc 59 = .ok (.goto 17, 3) := by decide +kernel
theorem dJ5_appendNull_278bc_62 : decode cJ5_appendNull_278bc 62 = .ok (.aload_n 2, 1) := by decide +kernel
theorem dJ5_appendNull_278bc_63 : decode cJ5_appendNull_278bc 63 = .ok (.iload_n 1, 1) := by decide +kernel
theorem dJ5_appendNull_278bc_64 : decode cJ5_appendNull_278bc 64 = .ok (.bipush 110, 2) := by decide +kernel
theorem dJ5_appendNull_278bc_66 : decode cJ5_appendNull_278bc 66 = .ok (.bipush 117, 2) := by decide +kernel
theorem dJ5_appendNull_278bc_68 : decode cJ5_appendNull_278bc 68 = .ok (.bipush 108, 2) := by decide +kernel
theorem dJ5_appendNull_278bc_70 : decode cJ5_appendNull_278bc 70 = .ok (.bipush 108, 2) := by decide +kernel
theorem dJ5_appendNull_278bc_72 : decode cJ5_appendNull_278bc 72 = .ok (.invokestatic 226, 3) := by decide +kernel
theorem dJ5_appendNull_278bc_75 : decode cJ5_appendNull_278bc 75 = .ok (.istore_n 1, 1) := by decide +kernel
theorem dJ5_appendNull_278bc_76 : decode cJ5_appendNull_278bc 76 = .ok (.aload_n 0, 1) := by decide +kernel
theorem dJ5_appendNull_278bc_77 : decode cJ5_appendNull_278bc 77 = .ok (.iload_n 1, 1) := by decide +kernel
theorem dJ5_appendNull_278bc_78 : decode cJ5_appendNull_278bc 78 = .ok (.putfield 79, 3) := by decide +kernel
theorem dJ5_appendNull_278bc_81 : decode cJ5_appendNull_278bc 81 = .ok (.aload_n 0, 1) := by decide +kernel
theorem dJ5_appendNull_278bc_82 : decode cJ5_appendNull_278bc 82 = .ok (.areturn, 1) := by decide +kernel
theorem dJ5_append_c97b9_0 : decode cJ5_append_c97b9 0 = .ok (.aload_n 0, 1) := by decide +kernel
theorem dJ5_append_c97b9_1 : decode cJ5_append_c97b9 1 = .ok (.getfield 79, 3) := by decide +kernel
theorem dJ5_append_c97b9_4 : decode cJ5_append_c97b9 4 = .ok (.istore_n 2, 1) := by decide +kernel
theorem dJ5_append_c97b9_5 : decode cJ5_append_c97b9 5 = .ok (.iload_n 2, 1) := by decide +kernel
theorem dJ5_append_c97b9_6 : decode cJ5_append_c97b9 6 = .ok (.iload_n 1, 1) := by decide +kernel
theorem dJ5_append_c97b9_7 : decode cJ5_append_c97b9 7 = .ok (.invokestatic 245, 3) := by decide +kernel
theorem dJ5_append_c97b9_10 : decode cJ5_append_c97b9 10 = .ok (.iadd, 1) := by decide +kernel
theorem dJ5_append_c97b9_11 : decode cJ5_append_c97b9 11 = .ok (.istore_n 3, 1) := by decide +kernel
theorem dJ5_append_c97b9_12 : decode cJ5_append_c97b9 12 = .ok (.aload_n 0, 1) := by decide +kernel
theorem dJ5_append_c97b9_13 : decode cJ5_append_c97b9 13 = .ok (.iload_n 3, 1) := by decide +kernel
theorem dJ5_append_c97b9_14 : decode cJ5_append_c97b9 14 = .ok (.invokevirtual 100, 3) := by decide +kernel
theorem dJ5_append_c97b9_17 : decode cJ5_append_c97b9 17 = .ok (.aload_n 0, 1) := by decide +kernel
theorem dJ5_append_c97b9_18 : decode cJ5_append_c97b9 18 = .ok (.invokevirtual 83, 3) := by decide +kernel
theorem dJ5_append_c97b9_21 : decode cJ5_append_c97b9 21 = .ok (.ifCond .eq 16, 3) := by decide +kernel
theorem dJ5_append_c97b9_24 : decode cJ5_append_c97b9 24 = .ok (.iload_n 1, 1) := by decide +kernel
theorem dJ5_append_c97b9_25 : decode cJ5_append_c97b9 25 = .ok (.iload_n 3, 1) := by decide +kernel
theorem dJ5_append_c97b9_26 : decode cJ5_append_c97b9 26 = .ok (.aload_n 0, 1) := by decide +kernel
theorem dJ5_append_c97b9_27 : decode cJ5_append_c97b9 27 = .ok (.getfield 15, 3) := by decide +kernel
theorem dJ5_append_c97b9_30 : decode cJ5_append_c97b9 30 = .ok (.invokestatic 248, 3) := by decide +kernel
theorem dJ5_append_c97b9_33 : decode cJ5_append_c97b9 33 = .ok (.pop, 1) := by decide +kernel
theorem dJ5_append_c97b9_34 : decode cJ5_append_c97b9 34 = .ok (.goto 14, 3) := by decide +kernel
theorem dJ5_append_c97b9_37 : decode cJ5_append_c97b9 37 = .ok (.iload_n 1, 1) := by decide +kernel
theorem dJ5_append_c97b9_38 : decode cJ5_append_c97b9 38 = .ok (.iload_n 2, 1) := by decide +kernel
theorem dJ5_append_c97b9_39 : decode cJ5_append_c97b9 39 = .ok (.iload_n 3, 1) := by decide +kernel
theorem dJ5_append_c97b9_40 : decode cJ5_append_c97b9 40 = .ok (.aload_n 0, 1) := by decide +kernel
theorem dJ5_append_c97b9_41 : decode cJ5_append_c97b9 41 = .ok (.getfield 15, 3) := by decide +kernel
theorem dJ5_append_c97b9_44 : decode cJ5_append_c97b9 44 = .ok (.invokestatic 251, 3) := by decide +kernel
theorem dJ5_append_c97b9_47 : decode cJ5_append_c97b9 47 = .ok (.pop, 1) := by decide +kernel
theorem dJ5_append_c97b9_48 : decode cJ5_append_c97b9 48 = .ok (.aload_n 0, 1) := by decide +kernel
theorem dJ5_append_c97b9_49 : decode cJ5_append_c97b9 49 = .ok (.iload_n 3, 1) := by decide +kernel
theorem dJ5_append_c97b9_50 : decode cJ5_append_c97b9 50 = .ok (.putfield 79, 3) := by decide +kernel
theorem dJ5_append_c97b9_53 : decode cJ5_append_c97b9 53 = .ok (.aload_n 0, 1) := by decide +kernel
theorem dJ5_append_c97b9_54 : decode cJ5_append_c97b9 54 = .ok (.areturn, 1) := by decide +kernel
theorem dJ5_getValue_6d5f1_0 : decode cJ5_getValue_6d5f1 0 = .ok (.aload_n 0, 1) := by decide +kernel
theorem dJ5_getValue_6d5f1_1 : decode cJ5_getValue_6d5f1 1 = .ok (.getfield 15, 3) := by decide +kernel
theorem dJ5_getValue_6d5f1_4 : decode cJ5_getValue_6d5f1 4 = .ok (.areturn, 1) := by decide +kernel
theorem dJ5_isLatin1_aae02_0 : decode cJ5_isLatin1_aae02 0 = .ok (.getstatic 18, 3) := by decide +kernel
theorem dJ5_isLatin1_aae02_3 : decode cJ5_isLatin1_aae02 3 = .ok (.ifCond .eq 14, 3) := by decide +kernel
theorem dJ5_isLatin1_aae02_6 : decode cJ5_isLatin1_aae02 6 = .ok (.aload_n 0, 1) := by decide +kernel
theorem dJ5_isLatin1_aae02_7 : decode cJ5_isLatin1_aae02 7 = .ok (.getfield 22, 3) := by decide +kernel
theorem dJ5_isLatin1_aae02_10 : decode cJ5_isLatin1_aae02 10 = .ok (.ifCond .ne 7, 3) := by decide +kernel
theorem dJ5_isLatin1_aae02_13 : decode cJ5_isLatin1_aae02 13 = .ok (.iconst 1, 1) := by decide +kernel
theorem dJ5_isLatin1_aae02_14 : decode cJ5_isLatin1_aae02 14 = .ok (.goto 4, 3) := by decide +kernel
theorem dJ5_isLatin1_aae02_17 : decode cJ5_isLatin1_aae02 17 = .ok (.iconst 0, 1) := by decide +kernel
theorem dJ5_isLatin1_aae02_18 : decode cJ5_isLatin1_aae02 18 = .ok (.ireturn, 1) := by decide +kernel
theorem dJ5_inflateIfNeededFor_a7421_0 : decode cJ5_inflateIfNeededFor_a7421 0 = .ok (.getstatic 18, 3) := by decide +kernel
theorem dJ5_inflateIfNeededFor_a7421_3 : decode cJ5_inflateIfNeededFor_a7421 3 = .ok (.ifCond .eq 18, 3) := by decide +kernel
theorem dJ5_inflateIfNeededFor_a7421_6 : decode cJ5_inflateIfNeededFor_a7421 6 = .ok (.aload_n 0, 1) := by decide +kernel
theorem dJ5_inflateIfNeededFor_a7421_7 : decode cJ5_inflateIfNeededFor_a7421 7 = .ok (.getfield 22, 3) := by decide +kernel
theorem dJ5_inflateIfNeededFor_a7421_10 : decode cJ5_inflateIfNeededFor_a7421 10 = .ok (.aload_n 1, 1) := by decide +kernel
theorem dJ5_inflateIfNeededFor_a7421_11 : decode cJ5_inflateIfNeededFor_a7421 11 = .ok (.invokevirtual 40, 3) := by decide +kernel
theorem dJ5_inflateIfNeededFor_a7421_14 : decode cJ5_inflateIfNeededFor_a7421 14 = .ok (.if_icmp .eq 7, 3) := by decide +kernel
theorem dJ5_inflateIfNeededFor_a7421_17 : decode cJ5_inflateIfNeededFor_a7421 17 = .ok (.aload_n 0, 1) := by decide +kernel
theorem dJ5_inflateIfNeededFor_a7421_18 : decode cJ5_inflateIfNeededFor_a7421 18 = .ok (.invokevirtual 195, 3) := by decide +kernel
theorem dJ5_inflateIfNeededFor_a7421_21 : decode cJ5_inflateIfNeededFor_a7421 21 = .ok (.return_, 1) := by decide +kernel
theorem dJ5_putStringAt_47b60_0 : decode cJ5_putStringAt_47b60 0 = .ok (.aload_n 0, 1) := by decide +kernel
theorem dJ5_putStringAt_47b60_1 : decode cJ5_putStringAt_47b60 1 = .ok (.aload_n 2, 1) := by decide +kernel
theorem dJ5_putStringAt_47b60_2 : decode cJ5_putStringAt_47b60 2 = .ok (.invokevirtual 397, 3) := by decide +kernel
theorem dJ5_putStringAt_47b60_5 : decode cJ5_putStringAt_47b60 5 = .ok (.aload_n 2, 1) := by decide +kernel
theorem dJ5_putStringAt_47b60_6 : decode cJ5_putStringAt_47b60 6 = .ok (.aload_n 0, 1) := by decide +kernel
theorem dJ5_putStringAt_47b60_7 : decode cJ5_putStringAt_47b60 7 = .ok (.getfield 15, 3) := by decide +kernel
theorem dJ5_putStringAt_47b60_10 : decode cJ5_putStringAt_47b60 10 = .ok (.iload_n 1, 1) := by decide +kernel
theorem dJ5_putStringAt_47b60_11 : decode cJ5_putStringAt_47b60 11 = .ok (.aload_n 0, 1) := by decide +kernel
theorem dJ5_putStringAt_47b60_12 : decode cJ5_putStringAt_47b60 12 = .ok (.getfield 22, 3) := by decide +kernel
theorem dJ5_putStringAt_47b60_15 : decode cJ5_putStringAt_47b60 15 = .ok (.invokevirtual 399, 3) := by decide +kernel
theorem dJ5_putStringAt_47b60_18 : decode cJ5_putStringAt_47b60 18 = .ok (.return_, 1) := by decide +kernel
theorem dJ6_getChars_ba4f3_0 : decode cJ6_getChars_ba4f3 0 = .ok (.iload_n 1, 1) := by decide +kernel
theorem dJ6_getChars_ba4f3_1 : decode cJ6_getChars_ba4f3 1 = .ok (.istore 5, 2) := by decide +kernel
theorem dJ6_getChars_ba4f3_3 : decode cJ6_getChars_ba4f3 3 = .ok (.iload_n 0, 1) := by decide +kernel
theorem dJ6_getChars_ba4f3_4 : decode cJ6_getChars_ba4f3 4 = .ok (.ifCond .ge 7, 3) := by decide +kernel
theorem dJ6_getChars_ba4f3_7 : decode cJ6_getChars_ba4f3 7 = .ok (.iconst 1, 1) := by decide +kernel
theorem dJ6_getChars_ba4f3_8 : decode cJ6_getChars_ba4f3 8 = .ok (.goto 4, 3) := by decide +kernel
theorem dJ6_getChars_ba4f3_11 : decode cJ6_getChars_ba4f3 11 = .ok (.iconst 0, 1) := by decide +kernel
theorem dJ6_getChars_ba4f3_12 : decode cJ6_getChars_ba4f3 12 = .ok (.istore 6, 2) := by decide +kernel
theorem dJ6_getChars_ba4f3_14 : decode cJ6_getChars_ba4f3 14 = .ok (.iload 6, 2) := by decide +kernel
theorem dJ6_getChars_ba4f3_16 : decode cJ6_getChars_ba4f3 16 = .ok (.ifCond .ne 6, 3) := by decide +kernel
theorem dJ6_getChars_ba4f3_19 : decode cJ6_getChars_ba4f3 19 = .ok (.iload_n 0, 1) := by decide +kernel
theorem dJ6_getChars_ba4f3_20 : decode cJ6_getChars_ba4f3 20 = .ok (.ineg, 1) := by decide +kernel
theorem dJ6_getChars_ba4f3_21 : decode cJ6_getChars_ba4f3 21 = .ok (.istore_n 0, 1) := by decide +kernel
theorem dJ6_getChars_ba4f3_22 : decode cJ6_getChars_ba4f3 22 = .ok (.iload_n 0, 1) := by decide +kernel
theorem dJ6_getChars_ba4f3_23 : decode cJ6_getChars_ba4f3 23 = .ok (.bipush (-100), 2) := by decide +kernel
theorem dJ6_getChars_ba4f3_25 : decode cJ6_getChars_ba4f3 25 = .ok (.if_icmp .gt 47, 3) := by decide +kernel
theorem dJ6_getChars_ba4f3_28 : decode cJ6_getChars_ba4f3 28 = .ok (.iload_n 0, 1) := by decide +kernel
theorem dJ6_getChars_ba4f3_29 : decode cJ6_getChars_ba4f3 29 = .ok (.bipush 100, 2) := by decide +kernel
theorem dJ6_getChars_ba4f3_31 : decode cJ6_getChars_ba4f3 31 = .ok (.idiv, 1) := by decide +kernel
theorem dJ6_getChars_ba4f3_32 : decode cJ6_getChars_ba4f3 32 = .ok (.istore_n 3, 1) := by decide +kernel
theorem dJ6_getChars_ba4f3_33 : decode cJ6_getChars_ba4f3 33 = .ok (.iload_n 3, 1) := by decide +kernel
theorem dJ6_getChars_ba4f3_34 : decode cJ6_getChars_ba4f3 34 = .ok (.bipush 100, 2) := by decide +kernel
theorem dJ6_getChars_ba4f3_36 : decode cJ6_getChars_ba4f3 36 = .ok (.imul, 1) := by decide +kernel
theorem dJ6_getChars_ba4f3_37 : decode cJ6_getChars_ba4f3 37 = .ok (.iload_n 0, 1) := by decide +kernel
theorem dJ6_getChars_ba4f3_38 : decode cJ6_getChars_ba4f3 38 = .ok (.isub, 1) := by decide +kernel
theorem dJ6_getChars_ba4f3_39 : decode cJ6_getChars_ba4f3 39 = .ok (.istore 4, 2) := by decide +kernel
theorem dJ6_getChars_ba4f3_41 : decode cJ6_getChars_ba4f3 41 = .ok (.iload_n 3, 1) := by decide +kernel
theorem dJ6_getChars_ba4f3_42 : decode cJ6_getChars_ba4f3 42 = .ok (.istore_n 0, 1) := by decide +kernel
theorem dJ6_getChars_ba4f3_43 : decode cJ6_getChars_ba4f3 43 = .ok (.aload_n 2, 1) := by decide +kernel
theorem dJ6_getChars_ba4f3_44 : decode cJ6_getChars_ba4f3 44 = .ok (.iinc 5 (-1), 3) := by decide +kernel
theorem dJ6_getChars_ba4f3_47 : decode cJ6_getChars_ba4f3 47 = .ok (.iload 5, 2) := by decide +kernel
theorem dJ6_getChars_ba4f3_49 : decode cJ6_getChars_ba4f3 49 = .ok (.getstatic 83, 3) := by decide +kernel
theorem dJ6_getChars_ba4f3_52 : decode cJ6_getChars_ba4f3 52 = .ok (.iload 4, 2) := by decide +kernel
theorem dJ6_getChars_ba4f3_54 : decode cJ6_getChars_ba4f3 54 = .ok (.baload, 1) := by decide +kernel
theorem dJ6_getChars_ba4f3_55 : decode cJ6_getChars_ba4f3 55 = .ok (.bastore, 1) := by decide +kernel
theorem dJ6_getChars_ba4f3_56 : decode cJ6_getChars_ba4f3 56 = .ok (.aload_n 2, 1) := by decide +kernel
theorem dJ6_getChars_ba4f3_57 : decode cJ6_getChars_ba4f3 57 = .ok (.iinc 5 (-1), 3) := by decide +kernel
theorem dJ6_getChars_ba4f3_60 : decode cJ6_getChars_ba4f3 60 = .ok (.iload 5, 2) := by decide +kernel
theorem dJ6_getChars_ba4f3_62 : decode cJ6_getChars_ba4f3 62 = .ok (.getstatic 87, 3) := by decide +kernel
theorem dJ6_getChars_ba4f3_65 : decode cJ6_getChars_ba4f3 65 = .ok (.iload 4, 2) := by decide +kernel
theorem dJ6_getChars_ba4f3_67 : decode cJ6_getChars_ba4f3 67 = .ok (.baload, 1) := by decide +kernel
theorem dJ6_getChars_ba4f3_68 : decode cJ6_getChars_ba4f3 68 = .ok (.bastore, 1) := by decide +kernel
theorem dJ6_getChars_ba4f3_69 : decode cJ6_getChars_ba4f3 69 = .ok (.goto (-47), 3) := by decide +kernel
theorem dJ6_getChars_ba4f3_72 : decode cJ6_getChars_ba4f3 72 = .ok (.aload_n 2, 1) := by decide +kernel
theorem dJ6_getChars_ba4f3_73 : decode cJ6_getChars_ba4f3 73 = .ok (.iinc 5 (-1), 3) := by decide +kernel
theorem dJ6_getChars_ba4f3_76 : decode cJ6_getChars_ba4f3 76 = .ok (.iload 5, 2) := by decide +kernel
theorem dJ6_getChars_ba4f3_78 : decode cJ6_getChars_ba4f3 78 = .ok (.getstatic 83, 3) := by decide +kernel
theorem dJ6_getChars_ba4f3_81 : decode cJ6_getChars_ba4f3 81 = .ok (.iload_n 0, 1) := by decide +kernel
theorem dJ6_getChars_ba4f3_82 : decode cJ6_getChars_ba4f3 82 = .ok (.ineg, 1) := by decide +kernel
theorem dJ6_getChars_ba4f3_83 : decode cJ6_getChars_ba4f3 83 = .ok (.baload, 1) := by decide +kernel
theorem dJ6_getChars_ba4f3_84 : decode cJ6_getChars_ba4f3 84 = .ok (.bastore, 1) := by decide +kernel
theorem dJ6_getChars_ba4f3_85 : decode cJ6_getChars_ba4f3 85 = .ok (.iload_n 0, 1) := by decide +kernel
theorem dJ6_getChars_ba4f3_86 : decode cJ6_getChars_ba4f3 86 = .ok (.bipush (-9), 2) := by decide +kernel
theorem dJ6_getChars_ba4f3_88 : decode cJ6_getChars_ba4f3 88 = .ok (.if_icmp .ge 16, 3) := by decide +kernel
theorem dJ6_getChars_ba4f3_91 : decode cJ6_getChars_ba4f3 91 = .ok (.aload_n 2, 1) := by decide +kernel
theorem dJ6_getChars_ba4f3_92 : decode cJ6_getChars_ba4f3 92 = .ok (.iinc 5 (-1), 3) := by decide +kernel
theorem dJ6_getChars_ba4f3_95 : decode cJ6_getChars_ba4f3 95 = .ok (.iload 5, 2) := by decide +kernel
theorem dJ6_getChars_ba4f3_97 : decode cJ6_getChars_ba4f3 97 = .ok (.getstatic 87, 3) := by decide +kernel
theorem dJ6_getChars_ba4f3_100 : decode cJ6_getChars_ba4f3 100 = .ok (.iload_n 0, 1) := by decide +kernel
theorem dJ6_getChars_ba4f3_101 : decode cJ6_getChars_ba4f3 101 = .ok (.ineg, 1) := by decide +kernel
theorem dJ6_getChars_ba4f3_102 : decode cJ6_getChars_ba4f3 102 = .ok (.baload, 1) := by decide +kernel
theorem dJ6_getChars_ba4f3_103 : decode cJ6_getChars_ba4f3 103 = .ok (.bastore, 1) := by decide +kernel
theorem dJ6_getChars_ba4f3_104 : decode cJ6_getChars_ba4f3 104 = .ok (.iload 6, 2) := by decide +kernel
theorem dJ6_getChars_ba4f3_106 : decode cJ6_getChars_ba4f3 106 = .ok (.ifCond .eq 12, 3) := by decide +kernel
theorem dJ6_getChars_ba4f3_109 : decode cJ6_getChars_ba4f3 109 = .ok (.aload_n 2, 1) := by decide +kernel
theorem dJ6_getChars_ba4f3_110 : decode cJ6_getChars_ba4f3 110 = .ok (.iinc 5 (-1), 3) := by decide +kernel
theorem dJ6_getChars_ba4f3_113 : decode cJ6_getChars_ba4f3 113 = .ok (.iload 5, 2) := by decide +kernel
theorem dJ6_getChars_ba4f3_115 : decode cJ6_getChars_ba4f3 115 = .ok (.bipush 45, 2) := by decide +kernel
theorem dJ6_getChars_ba4f3_117 : decode cJ6_getChars_ba4f3 117 = .ok (.bastore, 1) := by decide +kernel
theorem dJ6_getChars_ba4f3_118 : decode cJ6_getChars_ba4f3 118 = .ok (.iload 5, 2) := by decide +kernel
theorem dJ6_getChars_ba4f3_120 : decode cJ6_getChars_ba4f3 120 = .ok (.ireturn, 1) := by decide +kernel
theorem dJ6_stringSize_0f7a4_0 : decode cJ6_stringSize_0f7a4 0 = .ok (.iconst 1, 1) := by decide +kernel
theorem dJ6_stringSize_0f7a4_1 : decode cJ6_stringSize_0f7a4 1 = .ok (.istore_n 1, 1) := by decide +kernel
theorem dJ6_stringSize_0f7a4_2 : decode cJ6_stringSize_0f7a4 2 = .ok (.iload_n 0, 1) := by decide +kernel
theorem dJ6_stringSize_0f7a4_3 : decode cJ6_stringSize_0f7a4 3 = .ok (.ifCond .lt 8, 3) := by decide +kernel
theorem dJ6_stringSize_0f7a4_6 : decode cJ6_stringSize_0f7a4 6 = .ok (.iconst 0, 1) := by decide +kernel
theorem dJ6_stringSize_0f7a4_7 : decode cJ6_stringSize_0f7a4 7 = .ok (.istore_n 1, 1) := by decide +kernel
theorem dJ6_stringSize_0f7a4_8 : decode cJ6_stringSize_0f7a4 8 = .ok (.iload_n 0, 1) := by decide +kernel
theorem dJ6_stringSize_0f7a4_9 : decode cJ6_stringSize_0f7a4 9 = .ok (.ineg, 1) := by decide +kernel
theorem dJ6_stringSize_0f7a4_10 : decode cJ6_stringSize_0f7a4 10 = .ok (.istore_n 0, 1) := by decide +kernel
theorem dJ6_stringSize_0f7a4_11 : decode cJ6_stringSize_0f7a4 11 = .ok (.bipush (-10), 2) := by decide +kernel
theorem dJ6_stringSize_0f7a4_13 : decode cJ6_stringSize_0f7a4 13 = .ok (.istore_n 2, 1) := by decide +kernel
theorem dJ6_stringSize_0f7a4_14 : decode cJ6_stringSize_0f7a4 14 = .ok (.iconst 1, 1) := by decide +kernel
theorem dJ6_stringSize_0f7a4_15 : decode cJ6_stringSize_0f7a4 15 = .ok (.istore_n 3, 1) := by decide +kernel
theorem dJ6_stringSize_0f7a4_16 : decode cJ6_stringSize_0f7a4 16 = .ok (.iload_n 3, 1) := by decide +kernel
theorem dJ6_stringSize_0f7a4_17 : decode cJ6_stringSize_0f7a4 17 = .ok (.bipush 10, 2) := by decide +kernel
theorem dJ6_stringSize_0f7a4_19 : decode cJ6_stringSize_0f7a4 19 = .ok (.if_icmp .ge 23, 3) := by decide +kernel
theorem dJ6_stringSize_0f7a4_22 : decode cJ6_stringSize_0f7a4 22 = .ok (.iload_n 0, 1) := by decide +kernel
theorem dJ6_stringSize_0f7a4_23 : decode cJ6_stringSize_0f7a4 23 = .ok (.iload_n 2, 1) := by decide +kernel
theorem dJ6_stringSize_0f7a4_24 : decode cJ6_stringSize_0f7a4 24 = .ok (.if_icmp .le 7, 3) := by decide +kernel
theorem dJ6_stringSize_0f7a4_27 : decode cJ6_stringSize_0f7a4 27 = .ok (.iload_n 3, 1) := by decide +kernel
theorem dJ6_stringSize_0f7a4_28 : decode cJ6_stringSize_0f7a4 28 = .ok (.iload_n 1, 1) := by decide +kernel
theorem dJ6_stringSize_0f7a4_29 : decode cJ6_stringSize_0f7a4 29 = .ok (.iadd, 1) := by decide +kernel
theorem dJ6_stringSize_0f7a4_30 : decode cJ6_stringSize_0f7a4 30 = .ok (.ireturn, 1) := by decide +kernel
theorem dJ6_stringSize_0f7a4_31 : decode cJ6_stringSize_0f7a4 31 = .ok (.bipush 10, 2) := by decide +kernel
theorem dJ6_stringSize_0f7a4_33 : decode cJ6_stringSize_0f7a4 33 = .ok (.iload_n 2, 1) := by decide +kernel
theorem dJ6_stringSize_0f7a4_34 : decode cJ6_stringSize_0f7a4 34 = .ok (.imul, 1) := by decide +kernel
theorem dJ6_stringSize_0f7a4_35 : decode cJ6_stringSize_0f7a4 35 = .ok (.istore_n 2, 1) := by decide +kernel
theorem dJ6_stringSize_0f7a4_36 : decode cJ6_stringSize_0f7a4 36 = .ok (.iinc 3 1, 3) := by decide +kernel
theorem dJ6_stringSize_0f7a4_39 : decode cJ6_stringSize_0f7a4 39 = .ok (.goto (-23), 3) := by decide +kernel
theorem dJ6_stringSize_0f7a4_42 : decode cJ6_stringSize_0f7a4 42 = .ok (.bipush 10, 2) := by decide +kernel
theorem dJ6_stringSize_0f7a4_44 : decode cJ6_stringSize_0f7a4 44 = .ok (.iload_n 1, 1) := by decide +kernel
theorem dJ6_stringSize_0f7a4_45 : decode cJ6_stringSize_0f7a4 45 = .ok (.iadd, 1) := by decide +kernel
theorem dJ6_stringSize_0f7a4_46 : decode cJ6_stringSize_0f7a4 46 = .ok (.ireturn, 1) := by decide +kernel
theorem dJ6_bitCount_0f7a4_0 : decode cJ6_bitCount_0f7a4 0 = .ok (.iload_n 0, 1) := by decide +kernel
theorem dJ6_bitCount_0f7a4_1 : decode cJ6_bitCount_0f7a4 1 = .ok (.iload_n 0, 1) := by decide +kernel
theorem dJ6_bitCount_0f7a4_2 : decode cJ6_bitCount_0f7a4 2 = .ok (.iconst 1, 1) := by decide +kernel
theorem dJ6_bitCount_0f7a4_3 : decode cJ6_bitCount_0f7a4 3 = .ok (.iushr, 1) := by decide +kernel
theorem dJ6_bitCount_0f7a4_4 : decode cJ6_bitCount_0f7a4 4 = .ok (.ldc_w 265, 3) := by decide +kernel
theorem dJ6_bitCount_0f7a4_7 : decode cJ6_bitCount_0f7a4 7 = .ok (.iand, 1) := by decide +kernel
theorem dJ6_bitCount_0f7a4_8 : decode cJ6_bitCount_0f7a4 8 = .ok (.isub, 1) := by decide +kernel
theorem dJ6_bitCount_0f7a4_9 : decode cJ6_bitCount_0f7a4 9 = .ok (.istore_n 0, 1) := by decide +kernel
theorem dJ6_bitCount_0f7a4_10 : decode cJ6_bitCount_0f7a4 10 = .ok (.iload_n 0, 1) := by decide +kernel
theorem dJ6_bitCount_0f7a4_11 : decode cJ6_bitCount_0f7a4 11 = .ok (.ldc_w 266, 3) := by decide +kernel
theorem dJ6_bitCount_0f7a4_14 : decode cJ6_bitCount_0f7a4 14 = .ok (.iand, 1) := by decide +kernel
theorem dJ6_bitCount_0f7a4_15 : decode cJ6_bitCount_0f7a4 15 = .ok (.iload_n 0, 1) := by decide +kernel
theorem dJ6_bitCount_0f7a4_16 : decode cJ6_bitCount_0f7a4 16 = .ok (.iconst 2, 1) := by decide +kernel
theorem dJ6_bitCount_0f7a4_17 : decode cJ6_bitCount_0f7a4 17 = .ok (.iushr, 1) := by decide +kernel
theorem dJ6_bitCount_0f7a4_18 : decode cJ6_bitCount_0f7a4 18 = .ok (.ldc_w 266, 3) := by decide +kernel
theorem dJ6_bitCount_0f7a4_21 : decode cJ6_bitCount_0f7a4 21 = .ok (.iand, 1) := by decide +kernel
theorem dJ6_bitCount_0f7a4_22 : decode cJ6_bitCount_0f7a4 22 = .ok (.iadd, 1) := by decide +kernel
theorem dJ6_bitCount_0f7a4_23 : decode cJ6_bitCount_0f7a4 23 = .ok (.istore_n 0, 1) := by decide +kernel
theorem dJ6_bitCount_0f7a4_24 : decode cJ6_bitCount_0f7a4 24 = .ok (.iload_n 0, 1) := by decide +kernel
theorem dJ6_bitCount_0f7a4_25 : decode cJ6_bitCount_0f7a4 25 = .ok (.iload_n 0, 1) := by decide +kernel
theorem dJ6_bitCount_0f7a4_26 : decode cJ6_bitCount_0f7a4 26 = .ok (.iconst 4, 1) := by decide +kernel
theorem dJ6_bitCount_0f7a4_27 : decode cJ6_bitCount_0f7a4 27 = .ok (.iushr, 1) := by decide +kernel
theorem dJ6_bitCount_0f7a4_28 : decode cJ6_bitCount_0f7a4 28 = .ok (.iadd, 1) := by decide +kernel
theorem dJ6_bitCount_0f7a4_29 : decode cJ6_bitCount_0f7a4 29 = .ok (.ldc_w 267, 3) := by decide +kernel
theorem dJ6_bitCount_0f7a4_32 : decode cJ6_bitCount_0f7a4 32 = .ok (.iand, 1) := by decide +kernel
theorem dJ6_bitCount_0f7a4_33 : decode cJ6_bitCount_0f7a4 33 = .ok (.istore_n 0, 1) := by decide +kernel
theorem dJ6_bitCount_0f7a4_34 : decode cJ6_bitCount_0f7a4 34 = .ok (.iload_n 0, 1) := by decide +kernel
theorem dJ6_bitCount_0f7a4_35 : decode cJ6_bitCount_0f7a4 35 = .ok (.iload_n 0, 1) := by decide +kernel
theorem dJ6_bitCount_0f7a4_36 : decode cJ6_bitCount_0f7a4 36 = .ok (.bipush 8, 2) := by decide +kernel
theorem dJ6_bitCount_0f7a4_38 : decode cJ6_bitCount_0f7a4 38 = .ok (.iushr, 1) := by decide +kernel
theorem dJ6_bitCount_0f7a4_39 : decode cJ6_bitCount_0f7a4 39 = .ok (.iadd, 1) := by decide +kernel
theorem dJ6_bitCount_0f7a4_40 : decode cJ6_bitCount_0f7a4 40 = .ok (.istore_n 0, 1) := by decide +kernel
theorem dJ6_bitCount_0f7a4_41 : decode cJ6_bitCount_0f7a4 41 = .ok (.iload_n 0, 1) := by decide +kernel
theorem dJ6_bitCount_0f7a4_42 : decode cJ6_bitCount_0f7a4 42 = .ok (.iload_n 0, 1) := by decide +kernel
theorem dJ6_bitCount_0f7a4_43 : decode cJ6_bitCount_0f7a4 43 = .ok (.bipush 16, 2) := by decide +kernel
theorem dJ6_bitCount_0f7a4_45 : decode cJ6_bitCount_0f7a4 45 = .ok (.iushr, 1) := by decide +kernel
theorem dJ6_bitCount_0f7a4_46 : decode cJ6_bitCount_0f7a4 46 = .ok (.iadd, 1) := by decide +kernel
theorem dJ6_bitCount_0f7a4_47 : decode cJ6_bitCount_0f7a4 47 = .ok (.istore_n 0, 1) := by decide +kernel
theorem dJ6_bitCount_0f7a4_48 : decode cJ6_bitCount_0f7a4 48 = .ok (.iload_n 0, 1) := by decide +kernel
theorem dJ6_bitCount_0f7a4_49 : decode cJ6_bitCount_0f7a4 49 = .ok (.bipush 63, 2) := by decide +kernel
theorem dJ6_bitCount_0f7a4_51 : decode cJ6_bitCount_0f7a4 51 = .ok (.iand, 1) := by decide +kernel
theorem dJ6_bitCount_0f7a4_52 : decode cJ6_bitCount_0f7a4 52 = .ok (.ireturn, 1) := by decide +kernel
theorem dJ13_bitCount_95d88_0 : decode cJ13_bitCount_95d88 0 = .ok (.lload_n 0, 1) := by decide +kernel
theorem dJ13_bitCount_95d88_1 : decode cJ13_bitCount_95d88 1 = .ok (.lload_n 0, 1) := by decide +kernel
theorem dJ13_bitCount_95d88_2 : decode cJ13_bitCount_95d88 2 = .ok (.iconst 1, 1) := by decide +kernel
theorem dJ13_bitCount_95d88_3 : decode cJ13_bitCount_95d88 3 = .ok (.lushr, 1) := by decide +kernel
theorem dJ13_bitCount_95d88_4 : decode cJ13_bitCount_95d88 4 = .ok (.ldc2_w 314, 3) := by decide +kernel
theorem dJ13_bitCount_95d88_7 : decode cJ13_bitCount_95d88 7 = .ok (.land, 1) := by decide +kernel
theorem dJ13_bitCount_95d88_8 : decode cJ13_bitCount_95d88 8 = .ok (.lsub, 1) := by decide +kernel
theorem dJ13_bitCount_95d88_9 : decode cJ13_bitCount_95d88 9 = .ok (.lstore_n 0, 1) := by decide +kernel
theorem dJ13_bitCount_95d88_10 : decode cJ13_bitCount_95d88 10 = .ok (.lload_n 0, 1) := by decide +kernel
theorem dJ13_bitCount_95d88_11 : decode cJ13_bitCount_95d88 11 = .ok (.ldc2_w 316, 3) := by decide +kernel
theorem dJ13_bitCount_95d88_14 : decode cJ13_bitCount_95d88 14 = .ok (.land, 1) := by decide +kernel
theorem dJ13_bitCount_95d88_15 : decode cJ13_bitCount_95d88 15 = .ok (.lload_n 0, 1) := by decide +kernel
theorem dJ13_bitCount_95d88_16 : decode cJ13_bitCount_95d88 16 = .ok (.iconst 2, 1) := by decide +kernel
theorem dJ13_bitCount_95d88_17 : decode cJ13_bitCount_95d88 17 = .ok (.lushr, 1) := by decide +kernel
theorem dJ13_bitCount_95d88_18 : decode cJ13_bitCount_95d88 18 = .ok (.ldc2_w 316, 3) := by decide +kernel
theorem dJ13_bitCount_95d88_21 : decode cJ13_bitCount_95d88 21 = .ok (.land, 1) := by decide +kernel
theorem dJ13_bitCount_95d88_22 : decode cJ13_bitCount_95d88 22 = .ok (.ladd, 1) := by decide +kernel
theorem dJ13_bitCount_95d88_23 : decode cJ13_bitCount_95d88 23 = .ok (.lstore_n 0, 1) := by decide +kernel
theorem dJ13_bitCount_95d88_24 : decode cJ13_bitCount_95d88 24 = .ok (.lload_n 0, 1) := by decide +kernel
theorem dJ13_bitCount_95d88_25 : decode cJ13_bitCount_95d88 25 = .ok (.lload_n 0, 1) := by decide +kernel
theorem dJ13_bitCount_95d88_26 : decode cJ13_bitCount_95d88 26 = .ok (.iconst 4, 1) := by decide +kernel
theorem dJ13_bitCount_95d88_27 : decode cJ13_bitCount_95d88 27 = .ok (.lushr, 1) := by decide +kernel
theorem dJ13_bitCount_95d88_28 : decode cJ13_bitCount_95d88 28 = .ok (.ladd, 1) := by decide +kernel
theorem dJ13_bitCount_95d88_29 : decode cJ13_bitCount_95d88 29 = .ok (.ldc2_w 318, 3) := by decide +kernel
theorem dJ13_bitCount_95d88_32 : decode cJ13_bitCount_95d88 32 = .ok (.land, 1) := by decide +kernel
theorem dJ13_bitCount_95d88_33 : decode cJ13_bitCount_95d88 33 = .ok (.lstore_n 0, 1) := by decide +kernel
theorem dJ13_bitCount_95d88_34 : decode cJ13_bitCount_95d88 34 = .ok (.lload_n 0, 1) := by decide +kernel
theorem dJ13_bitCount_95d88_35 : decode cJ13_bitCount_95d88 35 = .ok (.lload_n 0, 1) := by decide +kernel
theorem dJ13_bitCount_95d88_36 : decode cJ13_bitCount_95d88 36 = .ok (.bipush 8, 2) := by decide +kernel
theorem dJ13_bitCount_95d88_38 : decode cJ13_bitCount_95d88 38 = .ok (.lushr, 1) := by decide +kernel
theorem dJ13_bitCount_95d88_39 : decode cJ13_bitCount_95d88 39 = .ok (.ladd, 1) := by decide +kernel
theorem dJ13_bitCount_95d88_40 : decode cJ13_bitCount_95d88 40 = .ok (.lstore_n 0, 1) := by decide +kernel
theorem dJ13_bitCount_95d88_41 : decode cJ13_bitCount_95d88 41 = .ok (.lload_n 0, 1) := by decide +kernel
theorem dJ13_bitCount_95d88_42 : decode cJ13_bitCount_95d88 42 = .ok (.lload_n 0, 1) := by decide +kernel
theorem dJ13_bitCount_95d88_43 : decode cJ13_bitCount_95d88 43 = .ok (.bipush 16, 2) := by decide +kernel
theorem dJ13_bitCount_95d88_45 : decode cJ13_bitCount_95d88 45 = .ok (.lushr, 1) := by decide +kernel
theorem dJ13_bitCount_95d88_46 : decode cJ13_bitCount_95d88 46 = .ok (.ladd, 1) := by decide +kernel
theorem dJ13_bitCount_95d88_47 : decode cJ13_bitCount_95d88 47 = .ok (.lstore_n 0, 1) := by decide +kernel
theorem dJ13_bitCount_95d88_48 : decode cJ13_bitCount_95d88 48 = .ok (.lload_n 0, 1) := by decide +kernel
theorem dJ13_bitCount_95d88_49 : decode cJ13_bitCount_95d88 49 = .ok (.lload_n 0, 1) := by decide +kernel
theorem dJ13_bitCount_95d88_50 : decode cJ13_bitCount_95d88 50 = .ok (.bipush 32, 2) := by decide +kernel
theorem dJ13_bitCount_95d88_52 : decode cJ13_bitCount_95d88 52 = .ok (.lushr, 1) := by decide +kernel
theorem dJ13_bitCount_95d88_53 : decode cJ13_bitCount_95d88 53 = .ok (.ladd, 1) := by decide +kernel
theorem dJ13_bitCount_95d88_54 : decode cJ13_bitCount_95d88 54 = .ok (.lstore_n 0, 1) := by decide +kernel
theorem dJ13_bitCount_95d88_55 : decode cJ13_bitCount_95d88 55 = .ok (.lload_n 0, 1) := by decide +kernel
theorem dJ13_bitCount_95d88_56 : decode cJ13_bitCount_95d88 56 = .ok (.l2i, 1) := by decide +kernel
theorem dJ13_bitCount_95d88_57 : decode cJ13_bitCount_95d88 57 = .ok (.bipush 127, 2) := by decide +kernel
theorem dJ13_bitCount_95d88_59 : decode cJ13_bitCount_95d88 59 = .ok (.iand, 1) := by decide +kernel
theorem dJ13_bitCount_95d88_60 : decode cJ13_bitCount_95d88 60 = .ok (.ireturn, 1) := by decide +kernel
theorem dJ9_max_7cf53_0 : decode cJ9_max_7cf53 0 = .ok (.iload_n 0, 1) := by decide +kernel
theorem dJ9_max_7cf53_1 : decode cJ9_max_7cf53 1 = .ok (.iload_n 1, 1) := by decide +kernel
theorem dJ9_max_7cf53_2 : decode cJ9_max_7cf53 2 = .ok (.if_icmp .lt 7, 3) := by decide +kernel
theorem dJ9_max_7cf53_5 : decode cJ9_max_7cf53 5 = .ok (.iload_n 0, 1) := by decide +kernel
theorem dJ9_max_7cf53_6 : decode cJ9_max_7cf53 6 = .ok (.goto 4, 3) := by decide +kernel
theorem dJ9_max_7cf53_9 : decode cJ9_max_7cf53 9 = .ok (.iload_n 1, 1) := by decide +kernel
theorem dJ9_max_7cf53_10 : decode cJ9_max_7cf53 10 = .ok (.ireturn, 1) := by decide +kernel
theorem dJ9_min_7cf53_0 : decode cJ9_min_7cf53 0 = .ok (.iload_n 0, 1) := by decide +kernel
theorem dJ9_min_7cf53_1 : decode cJ9_min_7cf53 1 = .ok (.iload_n 1, 1) := by decide +kernel
theorem dJ9_min_7cf53_2 : decode cJ9_min_7cf53 2 = .ok (.if_icmp .gt 7, 3) := by decide +kernel
theorem dJ9_min_7cf53_5 : decode cJ9_min_7cf53 5 = .ok (.iload_n 0, 1) := by decide +kernel
theorem dJ9_min_7cf53_6 : decode cJ9_min_7cf53 6 = .ok (.goto 4, 3) := by decide +kernel
theorem dJ9_min_7cf53_9 : decode cJ9_min_7cf53 9 = .ok (.iload_n 1, 1) := by decide +kernel
theorem dJ9_min_7cf53_10 : decode cJ9_min_7cf53 10 = .ok (.ireturn, 1) := by decide +kernel
theorem dJ0_init_81219_0 : decode cJ0_init_81219 0 = .ok (.aload_n 0, 1) := by decide +kernel
theorem dJ0_init_81219_1 : decode cJ0_init_81219 1 = .ok (.aload_n 1, 1) := by decide +kernel
theorem dJ0_init_81219_2 : decode cJ0_init_81219 2 = .ok (.aconst_null, 1) := by decide +kernel
theorem dJ0_init_81219_3 : decode cJ0_init_81219 3 = .ok (.invokespecial 489, 3) := by decide +kernel
theorem dJ0_init_81219_6 : decode cJ0_init_81219 6 = .ok (.return_, 1) := by decide +kernel
theorem dJ0_length_8abf5_0 : decode cJ0_length_8abf5 0 = .ok (.aload_n 0, 1) := by decide +kernel
theorem dJ0_length_8abf5_1 : decode cJ0_length_8abf5 1 = .ok (.getfield 9, 3) := by decide +kernel
theorem dJ0_length_8abf5_4 : decode cJ0_length_8abf5 4 = .ok (.arraylength, 1) := by decide +kernel
theorem dJ0_length_8abf5_5 : decode cJ0_length_8abf5 5 = .ok (.aload_n 0, 1) := by decide +kernel
theorem dJ0_length_8abf5_6 : decode cJ0_length_8abf5 6 = .ok (.invokevirtual 335, 3) := by decide +kernel
theorem dJ0_length_8abf5_9 : decode cJ0_length_8abf5 9 = .ok (.ishr, 1) := by decide +kernel
theorem dJ0_length_8abf5_10 : decode cJ0_length_8abf5 10 = .ok (.ireturn, 1) := by decide +kernel
theorem dJ0_getBytes_840e7_0 : decode cJ0_getBytes_840e7 0 = .ok (.aload_n 0, 1) := by decide +kernel
theorem dJ0_getBytes_840e7_1 : decode cJ0_getBytes_840e7 1 = .ok (.invokevirtual 335, 3) := by decide +kernel
theorem dJ0_getBytes_840e7_4 : decode cJ0_getBytes_840e7 4 = .ok (.iload_n 3, 1) := by decide +kernel
theorem dJ0_getBytes_840e7_5 : decode cJ0_getBytes_840e7 5 = .ok (.if_icmp .ne 23, 3) := by decide +kernel
theorem dJ0_getBytes_840e7_8 : decode cJ0_getBytes_840e7 8 = .ok (.aload_n 0, 1) := by decide +kernel
theorem dJ0_getBytes_840e7_9 : decode cJ0_getBytes_840e7 9 = .ok (.getfield 9, 3) := by decide +kernel
theorem dJ0_getBytes_840e7_12 : decode cJ0_getBytes_840e7 12 = .ok (.iconst 0, 1) := by decide +kernel
theorem dJ0_getBytes_840e7_13 : decode cJ0_getBytes_840e7 13 = .ok (.aload_n 1, 1) := by decide +kernel
theorem dJ0_getBytes_840e7_14 : decode cJ0_getBytes_840e7 14 = .ok (.iload_n 2, 1) := by decide +kernel
theorem dJ0_getBytes_840e7_15 : decode cJ0_getBytes_840e7 15 = .ok (.iload_n 3, 1) := by decide +kernel
theorem dJ0_getBytes_840e7_16 : decode cJ0_getBytes_840e7 16 = .ok (.ishl, 1) := by decide +kernel
theorem dJ0_getBytes_840e7_17 : decode cJ0_getBytes_840e7 17 = .ok (.aload_n 0, 1) := by decide +kernel
theorem dJ0_getBytes_840e7_18 : decode cJ0_getBytes_840e7 18 = .ok (.getfield 9, 3) := by decide +kernel
theorem dJ0_getBytes_840e7_21 : decode cJ0_getBytes_840e7 21 = .ok (.arraylength, 1) := by decide +kernel
theorem dJ0_getBytes_840e7_22 : decode cJ0_getBytes_840e7 22 = .ok (.invokestatic 212, 3) := by decide +kernel
theorem dJ0_getBytes_840e7_25 : decode cJ0_getBytes_840e7 25 = .ok (.goto 18, 3) := by decide +kernel
theorem dJ0_getBytes_840e7_28 : decode cJ0_getBytes_840e7 28 = .ok (.aload_n 0, 1) := by decide +kernel
theorem dJ0_getBytes_840e7_29 : decode cJ0_getBytes_840e7 29 = .ok (.getfield 9, 3) := by decide +kernel
theorem dJ0_getBytes_840e7_32 : decode cJ0_getBytes_840e7 32 = .ok (.iconst 0, 1) := by decide +kernel
theorem dJ0_getBytes_840e7_33 : decode cJ0_getBytes_840e7 33 = .ok (.aload_n 1, 1) := by decide +kernel
theorem dJ0_getBytes_840e7_34 : decode cJ0_getBytes_840e7 34 = .ok (.iload_n 2, 1) := by decide +kernel
theorem dJ0_getBytes_840e7_35 : decode cJ0_getBytes_840e7 35 = .ok (.aload_n 0, 1) := by decide +kernel
theorem dJ0_getBytes_840e7_36 : decode cJ0_getBytes_840e7 36 = .ok (.getfield 9, 3) := by decide +kernel
theorem dJ0_getBytes_840e7_39 : decode cJ0_getBytes_840e7 39 = .ok (.arraylength, 1) := by decide +kernel
theorem dJ0_getBytes_840e7_40 : decode cJ0_getBytes_840e7 40 = .ok (.invokestatic 106, 3) := by decide +kernel
theorem dJ0_getBytes_840e7_43 : decode cJ0_getBytes_840e7 43 = .ok (.return_, 1) := by decide +kernel
theorem dJ0_init_db425_0 : decode cJ0_init_db425 0 = .ok (.aload_n 0, 1) := by decide +kernel
theorem dJ0_init_db425_1 : decode cJ0_init_db425 1 = .ok (.invokespecial 1, 3) := by decide +kernel
theorem dJ0_init_db425_4 : decode cJ0_init_db425 4 = .ok (.aload_n 1, 1) := by decide +kernel
theorem dJ0_init_db425_5 : decode cJ0_init_db425 5 = .ok (.invokevirtual 552, 3) := by decide +kernel
theorem dJ0_init_db425_8 : decode cJ0_init_db425 8 = .ok (.astore_n 3, 1) := by decide +kernel
theorem dJ0_init_db425_9 : decode cJ0_init_db425 9 = .ok (.aload_n 1, 1) := by decide +kernel
theorem dJ0_init_db425_10 : decode cJ0_init_db425 10 = .ok (.invokevirtual 549, 3) := by decide +kernel
theorem dJ0_init_db425_13 : decode cJ0_init_db425 13 = .ok (.istore 4, 2) := by decide +kernel
theorem dJ0_init_db425_15 : decode cJ0_init_db425 15 = .ok (.aload_n 1, 1) := by decide +kernel
theorem dJ0_init_db425_16 : decode cJ0_init_db425 16 = .ok (.invokevirtual 1047, 3) := by decide +kernel
theorem dJ0_init_db425_19 : decode cJ0_init_db425 19 = .ok (.ifCond .eq 22, 3) := by decide +kernel
theorem dJ0_init_db425_22 : decode cJ0_init_db425 22 = .ok (.aload_n 0, 1) := by decide +kernel
theorem dJ0_init_db425_23 : decode cJ0_init_db425 23 = .ok (.iconst 0, 1) := by decide +kernel
theorem dJ0_init_db425_24 : decode cJ0_init_db425 24 = .ok (.putfield 15, 3) := by decide +kernel
theorem dJ0_init_db425_27 : decode cJ0_init_db425 27 = .ok (.aload_n 0, 1) := by decide +kernel
theorem dJ0_init_db425_28 : decode cJ0_init_db425 28 = .ok (.aload_n 3, 1) := by decide +kernel
theorem dJ0_init_db425_29 : decode cJ0_init_db425 29 = .ok (.iconst 0, 1) := by decide +kernel
theorem dJ0_init_db425_30 : decode cJ0_init_db425 30 = .ok (.iload 4, 2) := by decide +kernel
theorem dJ0_init_db425_32 : decode cJ0_init_db425 32 = .ok (.invokestatic 54, 3) := by decide +kernel
theorem dJ0_init_db425_35 : decode cJ0_init_db425 35 = .ok (.putfield 9, 3) := by decide +kernel
theorem dJ0_init_db425_38 : decode cJ0_init_db425 38 = .ok (.goto 59, 3) := by decide +kernel
theorem dJ0_init_db425_41 : decode cJ0_init_db425 41 = .ok (.getstatic 38, 3) := by decide +kernel
theorem dJ0_init_db425_44 : decode cJ0_init_db425 44 = .ok (.ifCond .eq 35, 3) := by decide +kernel
theorem dJ0_init_db425_47 : decode cJ0_init_db425 47 = .ok (.aload_n 1, 1) := by decide +kernel
theorem dJ0_init_db425_48 : decode cJ0_init_db425 48 = .ok (.getfield 1048, 3) := by decide +kernel
theorem dJ0_init_db425_51 : decode cJ0_init_db425 51 = .ok (.ifCond .eq 28, 3) := by decide +kernel
theorem dJ0_init_db425_54 : decode cJ0_init_db425 54 = .ok (.aload_n 0, 1) := by decide +kernel
theorem dJ0_init_db425_55 : decode cJ0_init_db425 55 = .ok (.aload_n 3, 1) := by decide +kernel
theorem dJ0_init_db425_56 : decode cJ0_init_db425 56 = .ok (.iconst 0, 1) := by decide +kernel
theorem dJ0_init_db425_57 : decode cJ0_init_db425 57 = .ok (.iload 4, 2) := by decide +kernel
theorem dJ0_init_db425_59 : decode cJ0_init_db425 59 = .ok (.invokestatic 1051, 3) := by decide +kernel
theorem dJ0_init_db425_62 : decode cJ0_init_db425 62 = .ok (.putfield 9, 3) := by decide +kernel
theorem dJ0_init_db425_65 : decode cJ0_init_db425 65 = .ok (.aload_n 0, 1) := by decide +kernel
theorem dJ0_init_db425_66 : decode cJ0_init_db425 66 = .ok (.aload_n 0, 1) := by decide +kernel
theorem dJ0_init_db425_67 : decode cJ0_init_db425 67 = .ok (.getfield 9, 3) := by decide +kernel
theorem dJ0_init_db425_70 : decode cJ0_init_db425 70 = .ok (.iload 4, 2) := by decide +kernel
theorem dJ0_init_db425_72 : decode cJ0_init_db425 72 = .ok (.invokestatic 47, 3) := by decide +kernel
theorem dJ0_init_db425_75 : decode cJ0_init_db425 75 = .ok (.putfield 15, 3) := by decide +kernel
theorem dJ0_init_db425_78 : decode cJ0_init_db425 78 = .ok (.return_, 1) := by decide +kernel
theorem dJ0_init_db425_79 : decode cJ0_init_db425 79 = .ok (.aload_n 0, 1) := by decide +kernel
theorem dJ0_init_db425_80 : decode cJ0_init_db425 80 = .ok (.iconst 1, 1) := by decide +kernel
theorem dJ0_init_db425_81 : decode cJ0_init_db425 81 = .ok (.putfield 15, 3) := by decide +kernel
theorem dJ0_init_db425_84 : decode cJ0_init_db425 84 = .ok (.aload_n 0, 1) := by decide +kernel
theorem dJ0_init_db425_85 : decode cJ0_init_db425 85 = .ok (.aload_n 3, 1) := by decide +kernel
theorem dJ0_init_db425_86 : decode cJ0_init_db425 86 = .ok (.iconst 0, 1) := by decide +kernel
theorem dJ0_init_db425_87 : decode cJ0_init_db425 87 = .ok (.iload 4, 2) := by decide +kernel
theorem dJ0_init_db425_89 : decode cJ0_init_db425 89 = .ok (.iconst 1, 1) := by decide +kernel
theorem dJ0_init_db425_90 : decode cJ0_init_db425 90 = .ok (.ishl, 1) := by decide +kernel
theorem dJ0_init_db425_91 : decode cJ0_init_db425 91 = .ok (.invokestatic 54, 3) := by decide +kernel
theorem dJ0_init_db425_94 : decode cJ0_init_db425 94 = .ok (.putfield 9, 3) := by decide +kernel
theorem dJ0_init_db425_97 : decode cJ0_init_db425 97 = .ok (.return_, 1) := by decide +kernel
theorem dJ0_coder_7d493_0 : decode cJ0_coder_7d493 0 = .ok (.getstatic 38, 3) := by decide +kernel
theorem dJ0_coder_7d493_3 : decode cJ0_coder_7d493 3 = .ok (.ifCond .eq 10, 3) := by decide +kernel
theorem dJ0_coder_7d493_6 : decode cJ0_coder_7d493 6 = .ok (.aload_n 0, 1) := by decide +kernel
theorem dJ0_coder_7d493_7 : decode cJ0_coder_7d493 7 = .ok (.getfield 15, 3) := by decide +kernel
theorem dJ0_coder_7d493_10 : decode cJ0_coder_7d493 10 = .ok (.goto 4, 3) := by decide +kernel
theorem dJ0_coder_7d493_13 : decode cJ0_coder_7d493 13 = .ok (.iconst 1, 1) := by decide +kernel
theorem dJ0_coder_7d493_14 : decode cJ0_coder_7d493 14 = .ok (.ireturn, 1) := by decide +kernel
theorem dJ0_checkBoundsOffCount_cabcc_0 : decode cJ0_checkBoundsOffCount_cabcc 0 = .ok (.iload_n 0, 1) := by decide +kernel
theorem dJ0_checkBoundsOffCount_cabcc_1 : decode cJ0_checkBoundsOffCount_cabcc 1 = .ok (.iload_n 1, 1) := by decide +kernel
theorem dJ0_checkBoundsOffCount_cabcc_2 : decode cJ0_checkBoundsOffCount_cabcc 2 = .ok (.iload_n 2, 1) := by decide +kernel
theorem dJ0_checkBoundsOffCount_cabcc_3 : decode cJ0_checkBoundsOffCount_cabcc 3 = .ok (.getstatic 1053, 3) := by decide +kernel
theorem dJ0_checkBoundsOffCount_cabcc_6 : decode cJ0_checkBoundsOffCount_cabcc 6 = .ok (.invokestatic 1065, 3) := by decide +kernel
theorem dJ0_checkBoundsOffCount_cabcc_9 : decode cJ0_checkBoundsOffCount_cabcc 9 = .ok (.ireturn, 1) := by decide +kernel
theorem dJ0_checkBoundsBeginEnd_23922_0 : decode cJ0_checkBoundsBeginEnd_23922 0 = .ok (.iload_n 0, 1) := by decide +kernel
theorem dJ0_checkBoundsBeginEnd_23922_1 : decode cJ0_checkBoundsBeginEnd_23922 1 = .ok (.iload_n 1, 1) := by decide +kernel
theorem dJ0_checkBoundsBeginEnd_23922_2 : decode cJ0_checkBoundsBeginEnd_23922 2 = .ok (.iload_n 2, 1) := by decide +kernel
theorem dJ0_checkBoundsBeginEnd_23922_3 : decode cJ0_checkBoundsBeginEnd_23922 3 = .ok (.getstatic 1053, 3) := by decide +kernel
theorem dJ0_checkBoundsBeginEnd_23922_6 : decode cJ0_checkBoundsBeginEnd_23922 6 = .ok (.invokestatic 1062, 3) := by decide +kernel
theorem dJ0_checkBoundsBeginEnd_23922_9 : decode cJ0_checkBoundsBeginEnd_23922 9 = .ok (.pop, 1) := by decide +kernel
theorem dJ0_checkBoundsBeginEnd_23922_10 : decode cJ0_checkBoundsBeginEnd_23922 10 = .ok (.return_, 1) := by decide +kernel
theorem dJ4_init_da8c8_0 : decode cJ4_init_da8c8 0 = .ok (.aload_n 0, 1) := by decide +kernel
theorem dJ4_init_da8c8_1 : decode cJ4_init_da8c8 1 = .ok (.bipush 16, 2) := by decide +kernel
theorem dJ4_init_da8c8_3 : decode cJ4_init_da8c8 3 = .ok (.invokespecial 1, 3) := by decide +kernel
theorem dJ4_init_da8c8_6 : decode cJ4_init_da8c8 6 = .ok (.return_, 1) := by decide +kernel
theorem dJ4_append_15ec4_0 : decode cJ4_append_15ec4 0 = .ok (.aload_n 0, 1) := by decide +kernel
theorem dJ4_append_15ec4_1 : decode cJ4_append_15ec4 1 = .ok (.aload_n 1, 1) := by decide +kernel
theorem dJ4_append_15ec4_2 : decode cJ4_append_15ec4 2 = .ok (.invokespecial 29, 3) := by decide +kernel
theorem dJ4_append_15ec4_5 : decode cJ4_append_15ec4 5 = .ok (.pop, 1) := by decide +kernel
theorem dJ4_append_15ec4_6 : decode cJ4_append_15ec4 6 = .ok (.aload_n 0, 1) := by decide +kernel
theorem dJ4_append_15ec4_7 : decode cJ4_append_15ec4 7 = .ok (.areturn, 1) := by decide +kernel
theorem dJ4_append_bf812_0 : decode cJ4_append_bf812 0 = .ok (.aload_n 0, 1) := by decide +kernel
theorem dJ4_append_bf812_1 : decode cJ4_append_bf812 1 = .ok (.iload_n 1, 1) := by decide +kernel
theorem dJ4_append_bf812_2 : decode cJ4_append_bf812 2 = .ok (.invokespecial 53, 3) := by decide +kernel
theorem dJ4_append_bf812_5 : decode cJ4_append_bf812 5 = .ok (.pop, 1) := by decide +kernel
theorem dJ4_append_bf812_6 : decode cJ4_append_bf812 6 = .ok (.aload_n 0, 1) := by decide +kernel
theorem dJ4_append_bf812_7 : decode cJ4_append_bf812 7 = .ok (.areturn, 1) := by decide +kernel
theorem dJ4_toString_0e30d_0 : decode cJ4_toString_0e30d 0 = .ok (.new 18, 3) := by decide +kernel
theorem dJ4_toString_0e30d_3 : decode cJ4_toString_0e30d 3 = .ok (.dup, 1) := by decide +kernel
theorem dJ4_toString_0e30d_4 : decode cJ4_toString_0e30d 4 = .ok (.aload_n 0, 1) := by decide +kernel
theorem dJ4_toString_0e30d_5 : decode cJ4_toString_0e30d 5 = .ok (.invokespecial 137, 3) := by decide +kernel
theorem dJ4_toString_0e30d_8 : decode cJ4_toString_0e30d 8 = .ok (.areturn, 1) := by decide +kernel
theorem dJ4_length_8abf5_0 : decode cJ4_length_8abf5 0 = .ok (.aload_n 0, 1) := by decide +kernel
theorem dJ4_length_8abf5_1 : decode cJ4_length_8abf5 1 = .ok (.invokespecial 343, 3) := by decide +kernel
theorem dJ4_length_8abf5_4 : decode cJ4_length_8abf5 4 = .ok (.ireturn, 1) := by decide +kernel
theorem dJ1_inflate_0e8fd_0 : decode cJ1_inflate_0e8fd 0 = .ok (.aload_n 0, 1) := by decide +kernel
theorem dJ1_inflate_0e8fd_1 : decode cJ1_inflate_0e8fd 1 = .ok (.iload_n 1, 1) := by decide +kernel
theorem dJ1_inflate_0e8fd_2 : decode cJ1_inflate_0e8fd 2 = .ok (.aload_n 2, 1) := by decide +kernel
theorem dJ1_inflate_0e8fd_3 : decode cJ1_inflate_0e8fd 3 = .ok (.iload_n 3, 1) := by decide +kernel
theorem dJ1_inflate_0e8fd_4 : decode cJ1_inflate_0e8fd 4 = .ok (.iload 4, 2) := by decide +kernel
theorem dJ1_inflate_0e8fd_6 : decode cJ1_inflate_0e8fd 6 = .ok (.invokestatic 240, 3) := by decide +kernel
theorem dJ1_inflate_0e8fd_9 : decode cJ1_inflate_0e8fd 9 = .ok (.return_, 1) := by decide +kernel
theorem dJ2_newBytesFor_77867_0 : decode cJ2_newBytesFor_77867 0 = .ok (.iload_n 0, 1) := by decide +kernel
theorem dJ2_newBytesFor_77867_1 : decode cJ2_newBytesFor_77867 1 = .ok (.invokestatic 11, 3) := by decide +kernel
theorem dJ2_newBytesFor_77867_4 : decode cJ2_newBytesFor_77867 4 = .ok (.newarray .byte, 2) := by decide +kernel
theorem dJ2_newBytesFor_77867_6 : decode cJ2_newBytesFor_77867 6 = .ok (.areturn, 1) := by decide +kernel
theorem dJ2_newBytesLength_0f7a4_0 : decode cJ2_newBytesLength_0f7a4 0 = .ok (.iload_n 0, 1) := by decide +kernel
theorem dJ2_newBytesLength_0f7a4_1 : decode cJ2_newBytesLength_0f7a4 1 = .ok (.ifCond .ge 11, 3) := by decide +kernel
theorem dJ2_newBytesLength_0f7a4_4 : decode cJ2_newBytesLength_0f7a4 4 = .ok (.new 17, 3) := by decide +kernel
theorem dJ2_newBytesLength_0f7a4_7 : decode cJ2_newBytesLength_0f7a4 7 = .ok (.dup, 1) := by decide +kernel
theorem dJ2_newBytesLength_0f7a4_8 : decode cJ2_newBytesLength_0f7a4 8 = .ok (.invokespecial 19, 3) := by decide +kernel
theorem dJ2_newBytesLength_0f7a4_11 : decode cJ2_newBytesLength_0f7a4 11 = .ok (.athrow, 1) := by decide +kernel
theorem dJ2_newBytesLength_0f7a4_12 : decode cJ2_newBytesLength_0f7a4 12 = .ok (.iload_n 0, 1) := by decide +kernel
theorem dJ2_newBytesLength_0f7a4_13 : decode cJ2_newBytesLength_0f7a4 13 = .ok (.ldc 20, 2) := by decide +kernel
theorem dJ2_newBytesLength_0f7a4_15 : decode cJ2_newBytesLength_0f7a4 15 = .ok (.if_icmp .lt 40, 3) := by decide +kernel
theorem dJ2_newBytesLength_0f7a4_18 : decode cJ2_newBytesLength_0f7a4 18 = .ok (.new 21, 3) := by decide +kernel
theorem dJ2_newBytesLength_0f7a4_21 : decode cJ2_newBytesLength_0f7a4 21 = .ok (.dup, 1) := by decide +kernel
theorem dJ2_newBytesLength_0f7a4_22 : decode cJ2_newBytesLength_0f7a4 22 = .ok (.new 23, 3) := by decide +kernel
theorem dJ2_newBytesLength_0f7a4_25 : decode cJ2_newBytesLength_0f7a4 25 = .ok (.dup, 1) := by decide +kernel
theorem dJ2_newBytesLength_0f7a4_26 : decode cJ2_newBytesLength_0f7a4 26 = .ok (.invokespecial 25, 3) := by decide +kernel
theorem dJ2_newBytesLength_0f7a4_29 : decode cJ2_newBytesLength_0f7a4 29 = .ok (.ldc 26, 2) := by decide +kernel
theorem dJ2_newBytesLength_0f7a4_31 : decode cJ2_newBytesLength_0f7a4 31 = .ok (.invokevirtual 28, 3) := by decide +kernel
theorem dJ2_newBytesLength_0f7a4_34 : decode cJ2_newBytesLength_0f7a4 34 = .ok (.iload_n 0, 1) := by decide +kernel
theorem dJ2_newBytesLength_0f7a4_35 : decode cJ2_newBytesLength_0f7a4 35 = .ok (.invokevirtual 32, 3) := by decide +kernel
theorem dJ2_newBytesLength_0f7a4_38 : decode cJ2_newBytesLength_0f7a4 38 = .ok (.ldc 35, 2) := by decide +kernel
theorem dJ2_newBytesLength_0f7a4_40 : decode cJ2_newBytesLength_0f7a4 40 = .ok (.invokevirtual 28, 3) := by decide +kernel
theorem dJ2_newBytesLength_0f7a4_43 : decode cJ2_newBytesLength_0f7a4 43 = .ok (.ldc 20, 2) := by decide +kernel
theorem dJ2_newBytesLength_0f7a4_45 : decode cJ2_newBytesLength_0f7a4 45 = .ok (.invokevirtual 32, 3) := by decide +kernel
theorem dJ2_newBytesLength_0f7a4_48 : decode cJ2_newBytesLength_0f7a4 48 = .ok (.invokevirtual 37, 3) := by decide +kernel
theorem dJ2_newBytesLength_0f7a4_51 : decode cJ2_newBytesLength_0f7a4 51 = .ok (.invokespecial 41, 3) := by decide +kernel
theorem dJ2_newBytesLength_0f7a4_54 : decode cJ2_newBytesLength_0f7a4 54 = .ok (.athrow, 1) := by decide +kernel
theorem dJ2_newBytesLength_0f7a4_55 : decode cJ2_newBytesLength_0f7a4 55 = .ok (.iload_n 0, 1) := by decide +kernel
theorem dJ2_newBytesLength_0f7a4_56 : decode cJ2_newBytesLength_0f7a4 56 = .ok (.iconst 1, 1) := by decide +kernel
theorem dJ2_newBytesLength_0f7a4_57 : decode cJ2_newBytesLength_0f7a4 57 = .ok (.ishl, 1) := by decide +kernel
theorem dJ2_newBytesLength_0f7a4_58 : decode cJ2_newBytesLength_0f7a4 58 = .ok (.ireturn, 1) := by decide +kernel
theorem dJ2_putChar_b72d1_0 : decode cJ2_putChar_b72d1 0 = .ok (.getstatic 44, 3) := by decide +kernel
theorem dJ2_putChar_b72d1_3 : decode cJ2_putChar_b72d1 3 = .ok (.ifCond .ne 25, 3) := by decide +kernel
theorem dJ2_putChar_b72d1_6 : decode cJ2_putChar_b72d1 6 = .ok (.iload_n 1, 1) := by decide +kernel
theorem dJ2_putChar_b72d1_7 : decode cJ2_putChar_b72d1 7 = .ok (.ifCond .lt 11, 3) := by decide +kernel
theorem dJ2_putChar_b72d1_10 : decode cJ2_putChar_b72d1 10 = .ok (.iload_n 1, 1) := by decide +kernel
theorem dJ2_putChar_b72d1_11 : decode cJ2_putChar_b72d1 11 = .ok (.aload_n 0, 1) := by decide +kernel
theorem dJ2_putChar_b72d1_12 : decode cJ2_putChar_b72d1 12 = .ok (.invokestatic 48, 3) := by decide +kernel
theorem dJ2_putChar_b72d1_15 : decode cJ2_putChar_b72d1 15 = .ok (.if_icmp .lt 13, 3) := by decide +kernel
theorem dJ2_putChar_b72d1_18 : decode cJ2_putChar_b72d1 18 = .ok (.new 52, 3) := by decide +kernel
theorem dJ2_putChar_b72d1_21 : decode cJ2_putChar_b72d1 21 = .ok (.dup, 1) := by decide +kernel
theorem dJ2_putChar_b72d1_22 : decode cJ2_putChar_b72d1 22 = .ok (.ldc 54, 2) := by decide +kernel
theorem dJ2_putChar_b72d1_24 : decode cJ2_putChar_b72d1 24 = .ok (.invokespecial 56, 3) := by decide +kernel
theorem dJ2_putChar_b72d1_27 : decode cJ2_putChar_b72d1 27 = .ok (.athrow, 1) := by decide +kernel
theorem dJ2_putChar_b72d1_28 : decode cJ2_putChar_b72d1 28 = .ok (.iload_n 1, 1) := by decide +kernel
theorem dJ2_putChar_b72d1_29 : decode cJ2_putChar_b72d1 29 = .ok (.iconst 1, 1) := by decide +kernel
theorem dJ2_putChar_b72d1_30 : decode cJ2_putChar_b72d1 30 = .ok (.ishl, 1) := by decide +kernel
theorem dJ2_putChar_b72d1_31 : decode cJ2_putChar_b72d1 31 = .ok (.istore_n 1, 1) := by decide +kernel
theorem dJ2_putChar_b72d1_32 : decode cJ2_putChar_b72d1 32 = .ok (.aload_n 0, 1) := by decide +kernel
theorem dJ2_putChar_b72d1_33 : decode cJ2_putChar_b72d1 33 = .ok (.iload_n 1, 1) := by decide +kernel
theorem dJ2_putChar_b72d1_34 : decode cJ2_putChar_b72d1 34 = .ok (.iinc 1 1, 3) := by decide +kernel
theorem dJ2_putChar_b72d1_37 : decode cJ2_putChar_b72d1 37 = .ok (.iload_n 2, 1) := by decide +kernel
theorem dJ2_putChar_b72d1_38 : decode cJ2_putChar_b72d1 38 = .ok (.getstatic 59, 3) := by decide +kernel
theorem dJ2_putChar_b72d1_41 : decode cJ2_putChar_b72d1 41 = .ok (.ishr, 1) := by decide +kernel
theorem dJ2_putChar_b72d1_42 : decode cJ2_putChar_b72d1 42 = .ok (.i2b, 1) := by decide +kernel
theorem dJ2_putChar_b72d1_43 : decode cJ2_putChar_b72d1 43 = .ok (.bastore, 1) := by decide +kernel
theorem dJ2_putChar_b72d1_44 : decode cJ2_putChar_b72d1 44 = .ok (.aload_n 0, 1) := by decide +kernel
theorem dJ2_putChar_b72d1_45 : decode cJ2_putChar_b72d1 45 = .ok (.iload_n 1, 1) := by decide +kernel
theorem dJ2_putChar_b72d1_46 : decode cJ2_putChar_b72d1 46 = .ok (.iload_n 2, 1) := by decide +kernel
theorem dJ2_putChar_b72d1_47 : decode cJ2_putChar_b72d1 47 = .ok (.getstatic 63, 3) := by decide +kernel
theorem dJ2_putChar_b72d1_50 : decode cJ2_putChar_b72d1 50 = .ok (.ishr, 1) := by decide +kernel
theorem dJ2_putChar_b72d1_51 : decode cJ2_putChar_b72d1 51 = .ok (.i2b, 1) := by decide +kernel
theorem dJ2_putChar_b72d1_52 : decode cJ2_putChar_b72d1 52 = .ok (.bastore, 1) := by decide +kernel
theorem dJ2_putChar_b72d1_53 : decode cJ2_putChar_b72d1 53 = .ok (.return_, 1) := by decide +kernel
theorem dJ2_getChar_3b067_0 : decode cJ2_getChar_3b067 0 = .ok (.getstatic 44, 3) := by decide +kernel
theorem dJ2_getChar_3b067_3 : decode cJ2_getChar_3b067 3 = .ok (.ifCond .ne 25, 3) := by decide +kernel
theorem dJ2_getChar_3b067_6 : decode cJ2_getChar_3b067 6 = .ok (.iload_n 1, 1) := by decide +kernel
theorem dJ2_getChar_3b067_7 : decode cJ2_getChar_3b067 7 = .ok (.ifCond .lt 11, 3) := by decide +kernel
theorem dJ2_getChar_3b067_10 : decode cJ2_getChar_3b067 10 = .ok (.iload_n 1, 1) := by decide +kernel
theorem dJ2_getChar_3b067_11 : decode cJ2_getChar_3b067 11 = .ok (.aload_n 0, 1) := by decide +kernel
theorem dJ2_getChar_3b067_12 : decode cJ2_getChar_3b067 12 = .ok (.invokestatic 48, 3) := by decide +kernel
theorem dJ2_getChar_3b067_15 : decode cJ2_getChar_3b067 15 = .ok (.if_icmp .lt 13, 3) := by decide +kernel
theorem dJ2_getChar_3b067_18 : decode cJ2_getChar_3b067 18 = .ok (.new 52, 3) := by decide +kernel
theorem dJ2_getChar_3b067_21 : decode cJ2_getChar_3b067 21 = .ok (.dup, 1) := by decide +kernel
theorem dJ2_getChar_3b067_22 : decode cJ2_getChar_3b067 22 = .ok (.ldc 54, 2) := by decide +kernel
theorem dJ2_getChar_3b067_24 : decode cJ2_getChar_3b067 24 = .ok (.invokespecial 56, 3) := by decide +kernel
theorem dJ2_getChar_3b067_27 : decode cJ2_getChar_3b067 27 = .ok (.athrow, 1) := by decide +kernel
theorem dJ2_getChar_3b067_28 : decode cJ2_getChar_3b067 28 = .ok (.iload_n 1, 1) := by decide +kernel
theorem dJ2_getChar_3b067_29 : decode cJ2_getChar_3b067 29 = .ok (.iconst 1, 1) := by decide +kernel
theorem dJ2_getChar_3b067_30 : decode cJ2_getChar_3b067 30 = .ok (.ishl, 1) := by decide +kernel
theorem dJ2_getChar_3b067_31 : decode cJ2_getChar_3b067 31 = .ok (.istore_n 1, 1) := by decide +kernel
theorem dJ2_getChar_3b067_32 : decode cJ2_getChar_3b067 32 = .ok (.aload_n 0, 1) := by decide +kernel
theorem dJ2_getChar_3b067_33 : decode cJ2_getChar_3b067 33 = .ok (.iload_n 1, 1) := by decide +kernel
theorem dJ2_getChar_3b067_34 : decode cJ2_getChar_3b067 34 = .ok (.iinc 1 1, 3) := by decide +kernel
theorem dJ2_getChar_3b067_37 : decode cJ2_getChar_3b067 37 = .ok (.baload, 1) := by decide +kernel
theorem dJ2_getChar_3b067_38 : decode cJ2_getChar_3b067 38 = .ok (.sipush 255, 3) := by decide +kernel
theorem dJ2_getChar_3b067_41 : decode cJ2_getChar_3b067 41 = .ok (.iand, 1) := by decide +kernel
theorem dJ2_getChar_3b067_42 : decode cJ2_getChar_3b067 42 = .ok (.getstatic 59, 3) := by decide +kernel
theorem dJ2_getChar_3b067_45 : decode cJ2_getChar_3b067 45 = .ok (.ishl, 1) := by decide +kernel
theorem dJ2_getChar_3b067_46 : decode cJ2_getChar_3b067 46 = .ok (.aload_n 0, 1) := by decide +kernel
theorem dJ2_getChar_3b067_47 : decode cJ2_getChar_3b067 47 = .ok (.iload_n 1, 1) := by decide +kernel
theorem dJ2_getChar_3b067_48 : decode cJ2_getChar_3b067 48 = .ok (.baload, 1) := by decide +kernel
theorem dJ2_getChar_3b067_49 : decode cJ2_getChar_3b067 49 = .ok (.sipush 255, 3) := by decide +kernel
theorem dJ2_getChar_3b067_52 : decode cJ2_getChar_3b067 52 = .ok (.iand, 1) := by decide +kernel
theorem dJ2_getChar_3b067_53 : decode cJ2_getChar_3b067 53 = .ok (.getstatic 63, 3) := by decide +kernel
theorem dJ2_getChar_3b067_56 : decode cJ2_getChar_3b067 56 = .ok (.ishl, 1) := by decide +kernel
theorem dJ2_getChar_3b067_57 : decode cJ2_getChar_3b067 57 = .ok (.ior, 1) := by decide +kernel
theorem dJ2_getChar_3b067_58 : decode cJ2_getChar_3b067 58 = .ok (.i2c, 1) := by decide +kernel
theorem dJ2_getChar_3b067_59 : decode cJ2_getChar_3b067 59 = .ok (.ireturn, 1) := by decide +kernel
theorem dJ2_length_9d52b_0 : decode cJ2_length_9d52b 0 = .ok (.aload_n 0, 1) := by decide +kernel
theorem dJ2_length_9d52b_1 : decode cJ2_length_9d52b 1 = .ok (.arraylength, 1) := by decide +kernel
theorem dJ2_length_9d52b_2 : decode cJ2_length_9d52b 2 = .ok (.iconst 1, 1) := by decide +kernel
theorem dJ2_length_9d52b_3 : decode cJ2_length_9d52b 3 = .ok (.ishr, 1) := by decide +kernel
theorem dJ2_length_9d52b_4 : decode cJ2_length_9d52b 4 = .ok (.ireturn, 1) := by decide +kernel
theorem dJ2_coderFromArrayLen_85cad_0 : decode cJ2_coderFromArrayLen_85cad 0 = .ok (.iload_n 1, 1) := by decide +kernel
theorem dJ2_coderFromArrayLen_85cad_1 : decode cJ2_coderFromArrayLen_85cad 1 = .ok (.aload_n 0, 1) := by decide +kernel
theorem dJ2_coderFromArrayLen_85cad_2 : decode cJ2_coderFromArrayLen_85cad 2 = .ok (.arraylength, 1) := by decide +kernel
theorem dJ2_coderFromArrayLen_85cad_3 : decode cJ2_coderFromArrayLen_85cad 3 = .ok (.isub, 1) := by decide +kernel
theorem dJ2_coderFromArrayLen_85cad_4 : decode cJ2_coderFromArrayLen_85cad 4 = .ok (.bipush 31, 2) := by decide +kernel
theorem dJ2_coderFromArrayLen_85cad_6 : decode cJ2_coderFromArrayLen_85cad 6 = .ok (.iushr, 1) := by decide +kernel
theorem dJ2_coderFromArrayLen_85cad_7 : decode cJ2_coderFromArrayLen_85cad 7 = .ok (.i2b, 1) := by decide +kernel
theorem dJ2_coderFromArrayLen_85cad_8 : decode cJ2_coderFromArrayLen_85cad 8 = .ok (.ireturn, 1) := by decide +kernel
theorem dJ2_compress_39247_0 : decode cJ2_compress_39247 0 = .ok (.iload_n 2, 1) := by decide +kernel
theorem dJ2_compress_39247_1 : decode cJ2_compress_39247 1 = .ok (.newarray .byte, 2) := by decide +kernel
theorem dJ2_compress_39247_3 : decode cJ2_compress_39247 3 = .ok (.astore_n 3, 1) := by decide +kernel
theorem dJ2_compress_39247_4 : decode cJ2_compress_39247 4 = .ok (.aload_n 0, 1) := by decide +kernel
theorem dJ2_compress_39247_5 : decode cJ2_compress_39247 5 = .ok (.iload_n 1, 1) := by decide +kernel
theorem dJ2_compress_39247_6 : decode cJ2_compress_39247 6 = .ok (.aload_n 3, 1) := by decide +kernel
theorem dJ2_compress_39247_7 : decode cJ2_compress_39247 7 = .ok (.iconst 0, 1) := by decide +kernel
theorem dJ2_compress_39247_8 : decode cJ2_compress_39247 8 = .ok (.iload_n 2, 1) := by decide +kernel
theorem dJ2_compress_39247_9 : decode cJ2_compress_39247 9 = .ok (.invokestatic 123, 3) := by decide +kernel
theorem dJ2_compress_39247_12 : decode cJ2_compress_39247 12 = .ok (.istore 4, 2) := by decide +kernel
theorem dJ2_compress_39247_14 : decode cJ2_compress_39247 14 = .ok (.iload 4, 2) := by decide +kernel
theorem dJ2_compress_39247_16 : decode cJ2_compress_39247 16 = .ok (.iload_n 2, 1) := by decide +kernel
theorem dJ2_compress_39247_17 : decode cJ2_compress_39247 17 = .ok (.if_icmp .eq 47, 3) := by decide +kernel
theorem dJ2_compress_39247_20 : decode cJ2_compress_39247 20 = .ok (.aload_n 0, 1) := by decide +kernel
theorem dJ2_compress_39247_21 : decode cJ2_compress_39247 21 = .ok (.iload_n 1, 1) := by decide +kernel
theorem dJ2_compress_39247_22 : decode cJ2_compress_39247 22 = .ok (.iconst 1, 1) := by decide +kernel
theorem dJ2_compress_39247_23 : decode cJ2_compress_39247 23 = .ok (.ishl, 1) := by decide +kernel
theorem dJ2_compress_39247_24 : decode cJ2_compress_39247 24 = .ok (.iload_n 1, 1) := by decide +kernel
theorem dJ2_compress_39247_25 : decode cJ2_compress_39247 25 = .ok (.iload_n 2, 1) := by decide +kernel
theorem dJ2_compress_39247_26 : decode cJ2_compress_39247 26 = .ok (.iadd, 1) := by decide +kernel
theorem dJ2_compress_39247_27 : decode cJ2_compress_39247 27 = .ok (.invokestatic 11, 3) := by decide +kernel
theorem dJ2_compress_39247_30 : decode cJ2_compress_39247 30 = .ok (.invokestatic 126, 3) := by decide +kernel
theorem dJ2_compress_39247_33 : decode cJ2_compress_39247 33 = .ok (.astore 5, 2) := by decide +kernel
theorem dJ2_compress_39247_35 : decode cJ2_compress_39247 35 = .ok (.aload 5, 2) := by decide +kernel
theorem dJ2_compress_39247_37 : decode cJ2_compress_39247 37 = .ok (.iload 4, 2) := by decide +kernel
theorem dJ2_compress_39247_39 : decode cJ2_compress_39247 39 = .ok (.invokestatic 71, 3) := by decide +kernel
theorem dJ2_compress_39247_42 : decode cJ2_compress_39247 42 = .ok (.sipush 255, 3) := by decide +kernel
theorem dJ2_compress_39247_45 : decode cJ2_compress_39247 45 = .ok (.if_icmp .gt 16, 3) := by decide +kernel
theorem dJ2_compress_39247_48 : decode cJ2_compress_39247 48 = .ok (.aload 5, 2) := by decide +kernel
theorem dJ2_compress_39247_50 : decode cJ2_compress_39247 50 = .ok (.iconst 0, 1) := by decide +kernel
theorem dJ2_compress_39247_51 : decode cJ2_compress_39247 51 = .ok (.aload_n 3, 1) := by decide +kernel
theorem dJ2_compress_39247_52 : decode cJ2_compress_39247 52 = .ok (.iconst 0, 1) := by decide +kernel
theorem dJ2_compress_39247_53 : decode cJ2_compress_39247 53 = .ok (.iload_n 2, 1) := by decide +kernel
theorem dJ2_compress_39247_54 : decode cJ2_compress_39247 54 = .ok (.invokestatic 123, 3) := by decide +kernel
theorem dJ2_compress_39247_57 : decode cJ2_compress_39247 57 = .ok (.iload_n 2, 1) := by decide +kernel
theorem dJ2_compress_39247_58 : decode cJ2_compress_39247 58 = .ok (.if_icmp .eq 6, 3) := by decide +kernel
theorem dJ2_compress_39247_61 : decode cJ2_compress_39247 61 = .ok (.aload 5, 2) := by decide +kernel
theorem dJ2_compress_39247_63 : decode cJ2_compress_39247 63 = .ok (.areturn, 1) := by decide +kernel
theorem dJ2_compress_39247_64 : decode cJ2_compress_39247 64 = .ok (.aload_n 3, 1) := by decide +kernel
theorem dJ2_compress_39247_65 : decode cJ2_compress_39247 65 = .ok (.areturn, 1) := by decide +kernel
theorem dJ2_compress_5af95_0 : decode cJ2_compress_5af95 0 = .ok (.iload_n 1, 1) := by decide +kernel
theorem dJ2_compress_5af95_1 : decode cJ2_compress_5af95 1 = .ok (.iload 4, 2) := by decide +kernel
theorem dJ2_compress_5af95_3 : decode cJ2_compress_5af95 3 = .ok (.aload_n 0, 1) := by decide +kernel
theorem dJ2_compress_5af95_4 : decode cJ2_compress_5af95 4 = .ok (.invokestatic 173, 3) := by decide +kernel
theorem dJ2_compress_5af95_7 : decode cJ2_compress_5af95 7 = .ok (.iconst 0, 1) := by decide +kernel
theorem dJ2_compress_5af95_8 : decode cJ2_compress_5af95 8 = .ok (.istore 5, 2) := by decide +kernel
theorem dJ2_compress_5af95_10 : decode cJ2_compress_5af95 10 = .ok (.iload 5, 2) := by decide +kernel
theorem dJ2_compress_5af95_12 : decode cJ2_compress_5af95 12 = .ok (.iload 4, 2) := by decide +kernel
theorem dJ2_compress_5af95_14 : decode cJ2_compress_5af95 14 = .ok (.if_icmp .ge 39, 3) := by decide +kernel
theorem dJ2_compress_5af95_17 : decode cJ2_compress_5af95 17 = .ok (.aload_n 0, 1) := by decide +kernel
theorem dJ2_compress_5af95_18 : decode cJ2_compress_5af95 18 = .ok (.iload_n 1, 1) := by decide +kernel
theorem dJ2_compress_5af95_19 : decode cJ2_compress_5af95 19 = .ok (.invokestatic 71, 3) := by decide +kernel
theorem dJ2_compress_5af95_22 : decode cJ2_compress_5af95 22 = .ok (.istore 6, 2) := by decide +kernel
theorem dJ2_compress_5af95_24 : decode cJ2_compress_5af95 24 = .ok (.iload 6, 2) := by decide +kernel
theorem dJ2_compress_5af95_26 : decode cJ2_compress_5af95 26 = .ok (.sipush 255, 3) := by decide +kernel
theorem dJ2_compress_5af95_29 : decode cJ2_compress_5af95 29 = .ok (.if_icmp .le 6, 3) := by decide +kernel
theorem dJ2_compress_5af95_32 : decode cJ2_compress_5af95 32 = .ok (.iload 5, 2) := by decide +kernel
theorem dJ2_compress_5af95_34 : decode cJ2_compress_5af95 34 = .ok (.ireturn, 1) := by decide +kernel
theorem dJ2_compress_5af95_35 : decode cJ2_compress_5af95 35 = .ok (.aload_n 2, 1) := by decide +kernel
theorem dJ2_compress_5af95_36 : decode cJ2_compress_5af95 36 = .ok (.iload_n 3, 1) := by decide +kernel
theorem dJ2_compress_5af95_37 : decode cJ2_compress_5af95 37 = .ok (.iload 6, 2) := by decide +kernel
theorem dJ2_compress_5af95_39 : decode cJ2_compress_5af95 39 = .ok (.i2b, 1) := by decide +kernel
theorem dJ2_compress_5af95_40 : decode cJ2_compress_5af95 40 = .ok (.bastore, 1) := by decide +kernel
theorem dJ2_compress_5af95_41 : decode cJ2_compress_5af95 41 = .ok (.iinc 1 1, 3) := by decide +kernel
theorem dJ2_compress_5af95_44 : decode cJ2_compress_5af95 44 = .ok (.iinc 3 1, 3) := by decide +kernel
theorem dJ2_compress_5af95_47 : decode cJ2_compress_5af95 47 = .ok (.iinc 5 1, 3) := by decide +kernel
theorem dJ2_compress_5af95_50 : decode cJ2_compress_5af95 50 = .ok (.goto (-40), 3) := by decide +kernel
theorem dJ2_compress_5af95_53 : decode cJ2_compress_5af95 53 = .ok (.iload 4, 2) := by decide +kernel
theorem dJ2_compress_5af95_55 : decode cJ2_compress_5af95 55 = .ok (.ireturn, 1) := by decide +kernel
theorem dJ2_getChars_46870_0 : decode cJ2_getChars_46870 0 = .ok (.iload_n 1, 1) := by decide +kernel
theorem dJ2_getChars_46870_1 : decode cJ2_getChars_46870 1 = .ok (.iload_n 2, 1) := by decide +kernel
theorem dJ2_getChars_46870_2 : decode cJ2_getChars_46870 2 = .ok (.aload_n 3, 1) := by decide +kernel
theorem dJ2_getChars_46870_3 : decode cJ2_getChars_46870 3 = .ok (.invokestatic 96, 3) := by decide +kernel
theorem dJ2_getChars_46870_6 : decode cJ2_getChars_46870 6 = .ok (.iload_n 0, 1) := by decide +kernel
theorem dJ2_getChars_46870_7 : decode cJ2_getChars_46870 7 = .ok (.iload_n 2, 1) := by decide +kernel
theorem dJ2_getChars_46870_8 : decode cJ2_getChars_46870 8 = .ok (.aload_n 3, 1) := by decide +kernel
theorem dJ2_getChars_46870_9 : decode cJ2_getChars_46870 9 = .ok (.invokestatic 393, 3) := by decide +kernel
theorem dJ2_getChars_46870_12 : decode cJ2_getChars_46870 12 = .ok (.istore 4, 2) := by decide +kernel
theorem dJ2_getChars_46870_14 : decode cJ2_getChars_46870 14 = .ok (.getstatic 44, 3) := by decide +kernel
theorem dJ2_getChars_46870_17 : decode cJ2_getChars_46870 17 = .ok (.ifCond .ne 17, 3) := by decide +kernel
theorem dJ2_getChars_46870_20 : decode cJ2_getChars_46870 20 = .ok (.iload_n 1, 1) := by decide +kernel
theorem dJ2_getChars_46870_21 : decode cJ2_getChars_46870 21 = .ok (.iload 4, 2) := by decide +kernel
theorem dJ2_getChars_46870_23 : decode cJ2_getChars_46870 23 = .ok (.if_icmp .eq 11, 3) := by decide +kernel
theorem dJ2_getChars_46870_26 : decode cJ2_getChars_46870 26 = .ok (.new 52, 3) := by decide +kernel
theorem dJ2_getChars_46870_29 : decode cJ2_getChars_46870 29 = .ok (.dup, 1) := by decide +kernel
theorem dJ2_getChars_46870_30 : decode cJ2_getChars_46870 30 = .ok (.invokespecial 66, 3) := by decide +kernel
theorem dJ2_getChars_46870_33 : decode cJ2_getChars_46870 33 = .ok (.athrow, 1) := by decide +kernel
theorem dJ2_getChars_46870_34 : decode cJ2_getChars_46870 34 = .ok (.iload 4, 2) := by decide +kernel
theorem dJ2_getChars_46870_36 : decode cJ2_getChars_46870 36 = .ok (.ireturn, 1) := by decide +kernel
theorem dJ2_putCharsAt_cd4e5_0 : decode cJ2_putCharsAt_cd4e5 0 = .ok (.iload_n 1, 1) := by decide +kernel
theorem dJ2_putCharsAt_cd4e5_1 : decode cJ2_putCharsAt_cd4e5 1 = .ok (.iconst 4, 1) := by decide +kernel
theorem dJ2_putCharsAt_cd4e5_2 : decode cJ2_putCharsAt_cd4e5 2 = .ok (.iadd, 1) := by decide +kernel
theorem dJ2_putCharsAt_cd4e5_3 : decode cJ2_putCharsAt_cd4e5 3 = .ok (.istore 6, 2) := by decide +kernel
theorem dJ2_putCharsAt_cd4e5_5 : decode cJ2_putCharsAt_cd4e5 5 = .ok (.iload_n 1, 1) := by decide +kernel
theorem dJ2_putCharsAt_cd4e5_6 : decode cJ2_putCharsAt_cd4e5 6 = .ok (.iload 6, 2) := by decide +kernel
theorem dJ2_putCharsAt_cd4e5_8 : decode cJ2_putCharsAt_cd4e5 8 = .ok (.aload_n 0, 1) := by decide +kernel
theorem dJ2_putCharsAt_cd4e5_9 : decode cJ2_putCharsAt_cd4e5 9 = .ok (.invokestatic 96, 3) := by decide +kernel
theorem dJ2_putCharsAt_cd4e5_12 : decode cJ2_putCharsAt_cd4e5 12 = .ok (.aload_n 0, 1) := by decide +kernel
theorem dJ2_putCharsAt_cd4e5_13 : decode cJ2_putCharsAt_cd4e5 13 = .ok (.iload_n 1, 1) := by decide +kernel
theorem dJ2_putCharsAt_cd4e5_14 : decode cJ2_putCharsAt_cd4e5 14 = .ok (.iinc 1 1, 3) := by decide +kernel
theorem dJ2_putCharsAt_cd4e5_17 : decode cJ2_putCharsAt_cd4e5 17 = .ok (.iload_n 2, 1) := by decide +kernel
theorem dJ2_putCharsAt_cd4e5_18 : decode cJ2_putCharsAt_cd4e5 18 = .ok (.invokestatic 111, 3) := by decide +kernel
theorem dJ2_putCharsAt_cd4e5_21 : decode cJ2_putCharsAt_cd4e5 21 = .ok (.aload_n 0, 1) := by decide +kernel
theorem dJ2_putCharsAt_cd4e5_22 : decode cJ2_putCharsAt_cd4e5 22 = .ok (.iload_n 1, 1) := by decide +kernel
theorem dJ2_putCharsAt_cd4e5_23 : decode cJ2_putCharsAt_cd4e5 23 = .ok (.iinc 1 1, 3) := by decide +kernel
theorem dJ2_putCharsAt_cd4e5_26 : decode cJ2_putCharsAt_cd4e5 26 = .ok (.iload_n 3, 1) := by decide +kernel
theorem dJ2_putCharsAt_cd4e5_27 : decode cJ2_putCharsAt_cd4e5 27 = .ok (.invokestatic 111, 3) := by decide +kernel
theorem dJ2_putCharsAt_cd4e5_30 : decode cJ2_putCharsAt_cd4e5 30 = .ok (.aload_n 0, 1) := by decide +kernel
theorem dJ2_putCharsAt_cd4e5_31 : decode cJ2_putCharsAt_cd4e5 31 = .ok (.iload_n 1, 1) := by decide +kernel
theorem dJ2_putCharsAt_cd4e5_32 : decode cJ2_putCharsAt_cd4e5 32 = .ok (.iinc 1 1, 3) := by decide +kernel
theorem dJ2_putCharsAt_cd4e5_35 : decode cJ2_putCharsAt_cd4e5 35 = .ok (.iload 4, 2) := by decide +kernel
theorem dJ2_putCharsAt_cd4e5_37 : decode cJ2_putCharsAt_cd4e5 37 = .ok (.invokestatic 111, 3) := by decide +kernel
theorem dJ2_putCharsAt_cd4e5_40 : decode cJ2_putCharsAt_cd4e5 40 = .ok (.aload_n 0, 1) := by decide +kernel
theorem dJ2_putCharsAt_cd4e5_41 : decode cJ2_putCharsAt_cd4e5 41 = .ok (.iload_n 1, 1) := by decide +kernel
theorem dJ2_putCharsAt_cd4e5_42 : decode cJ2_putCharsAt_cd4e5 42 = .ok (.iinc 1 1, 3) := by decide +kernel
theorem dJ2_putCharsAt_cd4e5_45 : decode cJ2_putCharsAt_cd4e5 45 = .ok (.iload 5, 2) := by decide +kernel
theorem dJ2_putCharsAt_cd4e5_47 : decode cJ2_putCharsAt_cd4e5 47 = .ok (.invokestatic 111, 3) := by decide +kernel
theorem dJ2_putCharsAt_cd4e5_50 : decode cJ2_putCharsAt_cd4e5 50 = .ok (.getstatic 44, 3) := by decide +kernel
theorem dJ2_putCharsAt_cd4e5_53 : decode cJ2_putCharsAt_cd4e5 53 = .ok (.ifCond .ne 17, 3) := by decide +kernel
theorem dJ2_putCharsAt_cd4e5_56 : decode cJ2_putCharsAt_cd4e5 56 = .ok (.iload_n 1, 1) := by decide +kernel
theorem dJ2_putCharsAt_cd4e5_57 : decode cJ2_putCharsAt_cd4e5 57 = .ok (.iload 6, 2) := by decide +kernel
theorem dJ2_putCharsAt_cd4e5_59 : decode cJ2_putCharsAt_cd4e5 59 = .ok (.if_icmp .eq 11, 3) := by decide +kernel
theorem dJ2_putCharsAt_cd4e5_62 : decode cJ2_putCharsAt_cd4e5 62 = .ok (.new 52, 3) := by decide +kernel
theorem dJ2_putCharsAt_cd4e5_65 : decode cJ2_putCharsAt_cd4e5 65 = .ok (.dup, 1) := by decide +kernel
theorem dJ2_putCharsAt_cd4e5_66 : decode cJ2_putCharsAt_cd4e5 66 = .ok (.invokespecial 66, 3) := by decide +kernel
theorem dJ2_putCharsAt_cd4e5_69 : decode cJ2_putCharsAt_cd4e5 69 = .ok (.athrow, 1) := by decide +kernel
theorem dJ2_putCharsAt_cd4e5_70 : decode cJ2_putCharsAt_cd4e5 70 = .ok (.iload 6, 2) := by decide +kernel
theorem dJ2_putCharsAt_cd4e5_72 : decode cJ2_putCharsAt_cd4e5 72 = .ok (.ireturn, 1) := by decide +kernel
theorem dJ2_inflate_0e8fd_0 : decode cJ2_inflate_0e8fd 0 = .ok (.iload_n 3, 1) := by decide +kernel
theorem dJ2_inflate_0e8fd_1 : decode cJ2_inflate_0e8fd 1 = .ok (.iload 4, 2) := by decide +kernel
theorem dJ2_inflate_0e8fd_3 : decode cJ2_inflate_0e8fd 3 = .ok (.aload_n 2, 1) := by decide +kernel
theorem dJ2_inflate_0e8fd_4 : decode cJ2_inflate_0e8fd 4 = .ok (.invokestatic 173, 3) := by decide +kernel
theorem dJ2_inflate_0e8fd_7 : decode cJ2_inflate_0e8fd 7 = .ok (.iconst 0, 1) := by decide +kernel
theorem dJ2_inflate_0e8fd_8 : decode cJ2_inflate_0e8fd 8 = .ok (.istore 5, 2) := by decide +kernel
theorem dJ2_inflate_0e8fd_10 : decode cJ2_inflate_0e8fd 10 = .ok (.iload 5, 2) := by decide +kernel
theorem dJ2_inflate_0e8fd_12 : decode cJ2_inflate_0e8fd 12 = .ok (.iload 4, 2) := by decide +kernel
theorem dJ2_inflate_0e8fd_14 : decode cJ2_inflate_0e8fd 14 = .ok (.if_icmp .ge 27, 3) := by decide +kernel
theorem dJ2_inflate_0e8fd_17 : decode cJ2_inflate_0e8fd 17 = .ok (.aload_n 2, 1) := by decide +kernel
theorem dJ2_inflate_0e8fd_18 : decode cJ2_inflate_0e8fd 18 = .ok (.iload_n 3, 1) := by decide +kernel
theorem dJ2_inflate_0e8fd_19 : decode cJ2_inflate_0e8fd 19 = .ok (.iinc 3 1, 3) := by decide +kernel
theorem dJ2_inflate_0e8fd_22 : decode cJ2_inflate_0e8fd 22 = .ok (.aload_n 0, 1) := by decide +kernel
theorem dJ2_inflate_0e8fd_23 : decode cJ2_inflate_0e8fd 23 = .ok (.iload_n 1, 1) := by decide +kernel
theorem dJ2_inflate_0e8fd_24 : decode cJ2_inflate_0e8fd 24 = .ok (.iinc 1 1, 3) := by decide +kernel
theorem dJ2_inflate_0e8fd_27 : decode cJ2_inflate_0e8fd 27 = .ok (.baload, 1) := by decide +kernel
theorem dJ2_inflate_0e8fd_28 : decode cJ2_inflate_0e8fd 28 = .ok (.sipush 255, 3) := by decide +kernel
theorem dJ2_inflate_0e8fd_31 : decode cJ2_inflate_0e8fd 31 = .ok (.iand, 1) := by decide +kernel
theorem dJ2_inflate_0e8fd_32 : decode cJ2_inflate_0e8fd 32 = .ok (.invokestatic 111, 3) := by decide +kernel
theorem dJ2_inflate_0e8fd_35 : decode cJ2_inflate_0e8fd 35 = .ok (.iinc 5 1, 3) := by decide +kernel
theorem dJ2_inflate_0e8fd_38 : decode cJ2_inflate_0e8fd 38 = .ok (.goto (-28), 3) := by decide +kernel
theorem dJ2_inflate_0e8fd_41 : decode cJ2_inflate_0e8fd 41 = .ok (.return_, 1) := by decide +kernel
theorem dJ2_getChars_ba4f3_0 : decode cJ2_getChars_ba4f3 0 = .ok (.iload_n 1, 1) := by decide +kernel
theorem dJ2_getChars_ba4f3_1 : decode cJ2_getChars_ba4f3 1 = .ok (.istore 5, 2) := by decide +kernel
theorem dJ2_getChars_ba4f3_3 : decode cJ2_getChars_ba4f3 3 = .ok (.iload_n 0, 1) := by decide +kernel
theorem dJ2_getChars_ba4f3_4 : decode cJ2_getChars_ba4f3 4 = .ok (.ifCond .ge 7, 3) := by decide +kernel
theorem dJ2_getChars_ba4f3_7 : decode cJ2_getChars_ba4f3 7 = .ok (.iconst 1, 1) := by decide +kernel
theorem dJ2_getChars_ba4f3_8 : decode cJ2_getChars_ba4f3 8 = .ok (.goto 4, 3) := by decide +kernel
theorem dJ2_getChars_ba4f3_11 : decode cJ2_getChars_ba4f3 11 = .ok (.iconst 0, 1) := by decide +kernel
theorem dJ2_getChars_ba4f3_12 : decode cJ2_getChars_ba4f3 12 = .ok (.istore 6, 2) := by decide +kernel
theorem dJ2_getChars_ba4f3_14 : decode cJ2_getChars_ba4f3 14 = .ok (.iload 6, 2) := by decide +kernel
theorem dJ2_getChars_ba4f3_16 : decode cJ2_getChars_ba4f3 16 = .ok (.ifCond .ne 6, 3) := by decide +kernel
theorem dJ2_getChars_ba4f3_19 : decode cJ2_getChars_ba4f3 19 = .ok (.iload_n 0, 1) := by decide +kernel
theorem dJ2_getChars_ba4f3_20 : decode cJ2_getChars_ba4f3 20 = .ok (.ineg, 1) := by decide +kernel
theorem dJ2_getChars_ba4f3_21 : decode cJ2_getChars_ba4f3 21 = .ok (.istore_n 0, 1) := by decide +kernel
theorem dJ2_getChars_ba4f3_22 : decode cJ2_getChars_ba4f3 22 = .ok (.iload_n 0, 1) := by decide +kernel
theorem dJ2_getChars_ba4f3_23 : decode cJ2_getChars_ba4f3 23 = .ok (.bipush (-100), 2) := by decide +kernel
theorem dJ2_getChars_ba4f3_25 : decode cJ2_getChars_ba4f3 25 = .ok (.if_icmp .gt 51, 3) := by decide +kernel
theorem dJ2_getChars_ba4f3_28 : decode cJ2_getChars_ba4f3 28 = .ok (.iload_n 0, 1) := by decide +kernel
theorem dJ2_getChars_ba4f3_29 : decode cJ2_getChars_ba4f3 29 = .ok (.bipush 100, 2) := by decide +kernel
theorem dJ2_getChars_ba4f3_31 : decode cJ2_getChars_ba4f3 31 = .ok (.idiv, 1) := by decide +kernel
theorem dJ2_getChars_ba4f3_32 : decode cJ2_getChars_ba4f3 32 = .ok (.istore_n 3, 1) := by decide +kernel
theorem dJ2_getChars_ba4f3_33 : decode cJ2_getChars_ba4f3 33 = .ok (.iload_n 3, 1) := by decide +kernel
theorem dJ2_getChars_ba4f3_34 : decode cJ2_getChars_ba4f3 34 = .ok (.bipush 100, 2) := by decide +kernel
theorem dJ2_getChars_ba4f3_36 : decode cJ2_getChars_ba4f3 36 = .ok (.imul, 1) := by decide +kernel
theorem dJ2_getChars_ba4f3_37 : decode cJ2_getChars_ba4f3 37 = .ok (.iload_n 0, 1) := by decide +kernel
theorem dJ2_getChars_ba4f3_38 : decode cJ2_getChars_ba4f3 38 = .ok (.isub, 1) := by decide +kernel
theorem dJ2_getChars_ba4f3_39 : decode cJ2_getChars_ba4f3 39 = .ok (.istore 4, 2) := by decide +kernel
theorem dJ2_getChars_ba4f3_41 : decode cJ2_getChars_ba4f3 41 = .ok (.iload_n 3, 1) := by decide +kernel
theorem dJ2_getChars_ba4f3_42 : decode cJ2_getChars_ba4f3 42 = .ok (.istore_n 0, 1) := by decide +kernel
theorem dJ2_getChars_ba4f3_43 : decode cJ2_getChars_ba4f3 43 = .ok (.aload_n 2, 1) := by decide +kernel
theorem dJ2_getChars_ba4f3_44 : decode cJ2_getChars_ba4f3 44 = .ok (.iinc 5 (-1), 3) := by decide +kernel
theorem dJ2_getChars_ba4f3_47 : decode cJ2_getChars_ba4f3 47 = .ok (.iload 5, 2) := by decide +kernel
theorem dJ2_getChars_ba4f3_49 : decode cJ2_getChars_ba4f3 49 = .ok (.getstatic 403, 3) := by decide +kernel
theorem dJ2_getChars_ba4f3_52 : decode cJ2_getChars_ba4f3 52 = .ok (.iload 4, 2) := by decide +kernel
theorem dJ2_getChars_ba4f3_54 : decode cJ2_getChars_ba4f3 54 = .ok (.baload, 1) := by decide +kernel
theorem dJ2_getChars_ba4f3_55 : decode cJ2_getChars_ba4f3 55 = .ok (.invokestatic 111, 3) := by decide +kernel
theorem dJ2_getChars_ba4f3_58 : decode cJ2_getChars_ba4f3 58 = .ok (.aload_n 2, 1) := by decide +kernel
theorem dJ2_getChars_ba4f3_59 : decode cJ2_getChars_ba4f3 59 = .ok (.iinc 5 (-1), 3) := by decide +kernel
theorem dJ2_getChars_ba4f3_62 : decode cJ2_getChars_ba4f3 62 = .ok (.iload 5, 2) := by decide +kernel
theorem dJ2_getChars_ba4f3_64 : decode cJ2_getChars_ba4f3 64 = .ok (.getstatic 407, 3) := by decide +kernel
theorem dJ2_getChars_ba4f3_67 : decode cJ2_getChars_ba4f3 67 = .ok (.iload 4, 2) := by decide +kernel
theorem dJ2_getChars_ba4f3_69 : decode cJ2_getChars_ba4f3 69 = .ok (.baload, 1) := by decide +kernel
theorem dJ2_getChars_ba4f3_70 : decode cJ2_getChars_ba4f3 70 = .ok (.invokestatic 111, 3) := by decide +kernel
theorem dJ2_getChars_ba4f3_73 : decode cJ2_getChars_ba4f3 73 = .ok (.goto (-51), 3) := by decide +kernel
theorem dJ2_getChars_ba4f3_76 : decode cJ2_getChars_ba4f3 76 = .ok (.aload_n 2, 1) := by decide +kernel
theorem dJ2_getChars_ba4f3_77 : decode cJ2_getChars_ba4f3 77 = .ok (.iinc 5 (-1), 3) := by decide +kernel
theorem dJ2_getChars_ba4f3_80 : decode cJ2_getChars_ba4f3 80 = .ok (.iload 5, 2) := by decide +kernel
theorem dJ2_getChars_ba4f3_82 : decode cJ2_getChars_ba4f3 82 = .ok (.getstatic 403, 3) := by decide +kernel
theorem dJ2_getChars_ba4f3_85 : decode cJ2_getChars_ba4f3 85 = .ok (.iload_n 0, 1) := by decide +kernel
theorem dJ2_getChars_ba4f3_86 : decode cJ2_getChars_ba4f3 86 = .ok (.ineg, 1) := by decide +kernel
theorem dJ2_getChars_ba4f3_87 : decode cJ2_getChars_ba4f3 87 = .ok (.baload, 1) := by decide +kernel
theorem dJ2_getChars_ba4f3_88 : decode cJ2_getChars_ba4f3 88 = .ok (.invokestatic 111, 3) := by decide +kernel
theorem dJ2_getChars_ba4f3_91 : decode cJ2_getChars_ba4f3 91 = .ok (.iload_n 0, 1) := by decide +kernel
theorem dJ2_getChars_ba4f3_92 : decode cJ2_getChars_ba4f3 92 = .ok (.bipush (-9), 2) := by decide +kernel
theorem dJ2_getChars_ba4f3_94 : decode cJ2_getChars_ba4f3 94 = .ok (.if_icmp .ge 18, 3) := by decide +kernel
theorem dJ2_getChars_ba4f3_97 : decode cJ2_getChars_ba4f3 97 = .ok (.aload_n 2, 1) := by decide +kernel
theorem dJ2_getChars_ba4f3_98 : decode cJ2_getChars_ba4f3 98 = .ok (.iinc 5 (-1), 3) := by decide +kernel
theorem dJ2_getChars_ba4f3_101 : decode cJ2_getChars_ba4f3 101 = .ok (.iload 5, 2) := by decide +kernel
theorem dJ2_getChars_ba4f3_103 : decode cJ2_getChars_ba4f3 103 = .ok (.getstatic 407, 3) := by decide +kernel
theorem dJ2_getChars_ba4f3_106 : decode cJ2_getChars_ba4f3 106 = .ok (.iload_n 0, 1) := by decide +kernel
theorem dJ2_getChars_ba4f3_107 : decode cJ2_getChars_ba4f3 107 = .ok (.ineg, 1) := by decide +kernel
theorem dJ2_getChars_ba4f3_108 : decode cJ2_getChars_ba4f3 108 = .ok (.baload, 1) := by decide +kernel
theorem dJ2_getChars_ba4f3_109 : decode cJ2_getChars_ba4f3 109 = .ok (.invokestatic 111, 3) := by decide +kernel
theorem dJ2_getChars_ba4f3_112 : decode cJ2_getChars_ba4f3 112 = .ok (.iload 6, 2) := by decide +kernel
theorem dJ2_getChars_ba4f3_114 : decode cJ2_getChars_ba4f3 114 = .ok (.ifCond .eq 14, 3) := by decide +kernel
theorem dJ2_getChars_ba4f3_117 : decode cJ2_getChars_ba4f3 117 = .ok (.aload_n 2, 1) := by decide +kernel
theorem dJ2_getChars_ba4f3_118 : decode cJ2_getChars_ba4f3 118 = .ok (.iinc 5 (-1), 3) := by decide +kernel
theorem dJ2_getChars_ba4f3_121 : decode cJ2_getChars_ba4f3 121 = .ok (.iload 5, 2) := by decide +kernel
theorem dJ2_getChars_ba4f3_123 : decode cJ2_getChars_ba4f3 123 = .ok (.bipush 45, 2) := by decide +kernel
theorem dJ2_getChars_ba4f3_125 : decode cJ2_getChars_ba4f3 125 = .ok (.invokestatic 111, 3) := by decide +kernel
theorem dJ2_getChars_ba4f3_128 : decode cJ2_getChars_ba4f3 128 = .ok (.iload 5, 2) := by decide +kernel
theorem dJ2_getChars_ba4f3_130 : decode cJ2_getChars_ba4f3 130 = .ok (.ireturn, 1) := by decide +kernel
theorem dJ2_checkBoundsBeginEnd_d044e_0 : decode cJ2_checkBoundsBeginEnd_d044e 0 = .ok (.iload_n 0, 1) := by decide +kernel
theorem dJ2_checkBoundsBeginEnd_d044e_1 : decode cJ2_checkBoundsBeginEnd_d044e 1 = .ok (.iload_n 1, 1) := by decide +kernel
theorem dJ2_checkBoundsBeginEnd_d044e_2 : decode cJ2_checkBoundsBeginEnd_d044e 2 = .ok (.aload_n 2, 1) := by decide +kernel
theorem dJ2_checkBoundsBeginEnd_d044e_3 : decode cJ2_checkBoundsBeginEnd_d044e 3 = .ok (.invokestatic 48, 3) := by decide +kernel
theorem dJ2_checkBoundsBeginEnd_d044e_6 : decode cJ2_checkBoundsBeginEnd_d044e 6 = .ok (.invokestatic 241, 3) := by decide +kernel
theorem dJ2_checkBoundsBeginEnd_d044e_9 : decode cJ2_checkBoundsBeginEnd_d044e 9 = .ok (.return_, 1) := by decide +kernel
theorem dJ2_checkBoundsOffCount_d044e_0 : decode cJ2_checkBoundsOffCount_d044e 0 = .ok (.iload_n 0, 1) := by decide +kernel
theorem dJ2_checkBoundsOffCount_d044e_1 : decode cJ2_checkBoundsOffCount_d044e 1 = .ok (.iload_n 1, 1) := by decide +kernel
theorem dJ2_checkBoundsOffCount_d044e_2 : decode cJ2_checkBoundsOffCount_d044e 2 = .ok (.aload_n 2, 1) := by decide +kernel
theorem dJ2_checkBoundsOffCount_d044e_3 : decode cJ2_checkBoundsOffCount_d044e 3 = .ok (.invokestatic 48, 3) := by decide +kernel
theorem dJ2_checkBoundsOffCount_d044e_6 : decode cJ2_checkBoundsOffCount_d044e 6 = .ok (.invokestatic 419, 3) := by decide +kernel
theorem dJ2_checkBoundsOffCount_d044e_9 : decode cJ2_checkBoundsOffCount_d044e 9 = .ok (.pop, 1) := by decide +kernel
theorem dJ2_checkBoundsOffCount_d044e_10 : decode cJ2_checkBoundsOffCount_d044e 10 = .ok (.return_, 1) := by decide +kernel
theorem dJ7_rangeCheck_23922_0 : decode cJ7_rangeCheck_23922 0 = .ok (.iload_n 1, 1) := by decide +kernel
theorem dJ7_rangeCheck_23922_1 : decode cJ7_rangeCheck_23922 1 = .ok (.iload_n 2, 1) := by decide +kernel
theorem dJ7_rangeCheck_23922_2 : decode cJ7_rangeCheck_23922 2 = .ok (.if_icmp .le 44, 3) := by decide +kernel
theorem dJ7_rangeCheck_23922_5 : decode cJ7_rangeCheck_23922 5 = .ok (.new 43, 3) := by decide +kernel
theorem dJ7_rangeCheck_23922_8 : decode cJ7_rangeCheck_23922 8 = .ok (.dup, 1) := by decide +kernel
theorem dJ7_rangeCheck_23922_9 : decode cJ7_rangeCheck_23922 9 = .ok (.new 45, 3) := by decide +kernel
theorem dJ7_rangeCheck_23922_12 : decode cJ7_rangeCheck_23922 12 = .ok (.dup, 1) := by decide +kernel
theorem dJ7_rangeCheck_23922_13 : decode cJ7_rangeCheck_23922 13 = .ok (.invokespecial 47, 3) := by decide +kernel
theorem dJ7_rangeCheck_23922_16 : decode cJ7_rangeCheck_23922 16 = .ok (.ldc 48, 2) := by decide +kernel
theorem dJ7_rangeCheck_23922_18 : decode cJ7_rangeCheck_23922 18 = .ok (.invokevirtual 50, 3) := by decide +kernel
theorem dJ7_rangeCheck_23922_21 : decode cJ7_rangeCheck_23922 21 = .ok (.iload_n 1, 1) := by decide +kernel
theorem dJ7_rangeCheck_23922_22 : decode cJ7_rangeCheck_23922 22 = .ok (.invokevirtual 54, 3) := by decide +kernel
theorem dJ7_rangeCheck_23922_25 : decode cJ7_rangeCheck_23922 25 = .ok (.ldc 57, 2) := by decide +kernel
theorem dJ7_rangeCheck_23922_27 : decode cJ7_rangeCheck_23922 27 = .ok (.invokevirtual 50, 3) := by decide +kernel
theorem dJ7_rangeCheck_23922_30 : decode cJ7_rangeCheck_23922 30 = .ok (.iload_n 2, 1) := by decide +kernel
theorem dJ7_rangeCheck_23922_31 : decode cJ7_rangeCheck_23922 31 = .ok (.invokevirtual 54, 3) := by decide +kernel
theorem dJ7_rangeCheck_23922_34 : decode cJ7_rangeCheck_23922 34 = .ok (.ldc 59, 2) := by decide +kernel
theorem dJ7_rangeCheck_23922_36 : decode cJ7_rangeCheck_23922 36 = .ok (.invokevirtual 50, 3) := by decide +kernel
theorem dJ7_rangeCheck_23922_39 : decode cJ7_rangeCheck_23922 39 = .ok (.invokevirtual 61, 3) := by decide +kernel
theorem dJ7_rangeCheck_23922_42 : decode cJ7_rangeCheck_23922 42 = .ok (.invokespecial 65, 3) := by decide +kernel
theorem dJ7_rangeCheck_23922_45 : decode cJ7_rangeCheck_23922 45 = .ok (.athrow, 1) := by decide +kernel
theorem dJ7_rangeCheck_23922_46 : decode cJ7_rangeCheck_23922 46 = .ok (.iload_n 1, 1) := by decide +kernel
theorem dJ7_rangeCheck_23922_47 : decode cJ7_rangeCheck_23922 47 = .ok (.ifCond .ge 12, 3) := by decide +kernel
theorem dJ7_rangeCheck_23922_50 : decode cJ7_rangeCheck_23922 50 = .ok (.new 68, 3) := by decide +kernel
theorem dJ7_rangeCheck_23922_53 : decode cJ7_rangeCheck_23922 53 = .ok (.dup, 1) := by decide +kernel
theorem dJ7_rangeCheck_23922_54 : decode cJ7_rangeCheck_23922 54 = .ok (.iload_n 1, 1) := by decide +kernel
theorem dJ7_rangeCheck_23922_55 : decode cJ7_rangeCheck_23922 55 = .ok (.invokespecial 70, 3) := by decide +kernel
theorem dJ7_rangeCheck_23922_58 : decode cJ7_rangeCheck_23922 58 = .ok (.athrow, 1) := by decide +kernel
theorem dJ7_rangeCheck_23922_59 : decode cJ7_rangeCheck_23922 59 = .ok (.iload_n 2, 1) := by decide +kernel
theorem dJ7_rangeCheck_23922_60 : decode cJ7_rangeCheck_23922 60 = .ok (.iload_n 0, 1) := by decide +kernel
theorem dJ7_rangeCheck_23922_61 : decode cJ7_rangeCheck_23922 61 = .ok (.if_icmp .le 12, 3) := by decide +kernel
theorem dJ7_rangeCheck_23922_64 : decode cJ7_rangeCheck_23922 64 = .ok (.new 68, 3) := by decide +kernel
theorem dJ7_rangeCheck_23922_67 : decode cJ7_rangeCheck_23922 67 = .ok (.dup, 1) := by decide +kernel
theorem dJ7_rangeCheck_23922_68 : decode cJ7_rangeCheck_23922 68 = .ok (.iload_n 2, 1) := by decide +kernel
theorem dJ7_rangeCheck_23922_69 : decode cJ7_rangeCheck_23922 69 = .ok (.invokespecial 70, 3) := by decide +kernel
theorem dJ7_rangeCheck_23922_72 : decode cJ7_rangeCheck_23922 72 = .ok (.athrow, 1) := by decide +kernel
theorem dJ7_rangeCheck_23922_73 : decode cJ7_rangeCheck_23922 73 = .ok (.return_, 1) := by decide +kernel
theorem dJ7_fill_d0a16_0 : decode cJ7_fill_d0a16 0 = .ok (.iconst 0, 1) := by decide +kernel
theorem dJ7_fill_d0a16_1 : decode cJ7_fill_d0a16 1 = .ok (.istore_n 3, 1) := by decide +kernel
theorem dJ7_fill_d0a16_2 : decode cJ7_fill_d0a16 2 = .ok (.aload_n 0, 1) := by decide +kernel
theorem dJ7_fill_d0a16_3 : decode cJ7_fill_d0a16 3 = .ok (.arraylength, 1) := by decide +kernel
theorem dJ7_fill_d0a16_4 : decode cJ7_fill_d0a16 4 = .ok (.istore 4, 2) := by decide +kernel
theorem dJ7_fill_d0a16_6 : decode cJ7_fill_d0a16 6 = .ok (.iload_n 3, 1) := by decide +kernel
theorem dJ7_fill_d0a16_7 : decode cJ7_fill_d0a16 7 = .ok (.iload 4, 2) := by decide +kernel
theorem dJ7_fill_d0a16_9 : decode cJ7_fill_d0a16 9 = .ok (.if_icmp .ge 13, 3) := by decide +kernel
theorem dJ7_fill_d0a16_12 : decode cJ7_fill_d0a16 12 = .ok (.aload_n 0, 1) := by decide +kernel
theorem dJ7_fill_d0a16_13 : decode cJ7_fill_d0a16 13 = .ok (.iload_n 3, 1) := by decide +kernel
theorem dJ7_fill_d0a16_14 : decode cJ7_fill_d0a16 14 = .ok (.lload_n 1, 1) := by decide +kernel
theorem dJ7_fill_d0a16_15 : decode cJ7_fill_d0a16 15 = .ok (.lastore, 1) := by decide +kernel
theorem dJ7_fill_d0a16_16 : decode cJ7_fill_d0a16 16 = .ok (.iinc 3 1, 3) := by decide +kernel
theorem dJ7_fill_d0a16_19 : decode cJ7_fill_d0a16 19 = .ok (.goto (-13), 3) := by decide +kernel
theorem dJ7_fill_d0a16_22 : decode cJ7_fill_d0a16 22 = .ok (.return_, 1) := by decide +kernel
theorem dJ7_fill_bad5a_0 : decode cJ7_fill_bad5a 0 = .ok (.aload_n 0, 1) := by decide +kernel
theorem dJ7_fill_bad5a_1 : decode cJ7_fill_bad5a 1 = .ok (.arraylength, 1) := by decide +kernel
theorem dJ7_fill_bad5a_2 : decode cJ7_fill_bad5a 2 = .ok (.iload_n 1, 1) := by decide +kernel
theorem dJ7_fill_bad5a_3 : decode cJ7_fill_bad5a 3 = .ok (.iload_n 2, 1) := by decide +kernel
theorem dJ7_fill_bad5a_4 : decode cJ7_fill_bad5a 4 = .ok (.invokestatic 13, 3) := by decide +kernel
theorem dJ7_fill_bad5a_7 : decode cJ7_fill_bad5a 7 = .ok (.iload_n 1, 1) := by decide +kernel
theorem dJ7_fill_bad5a_8 : decode cJ7_fill_bad5a 8 = .ok (.istore 5, 2) := by decide +kernel
theorem dJ7_fill_bad5a_10 : decode cJ7_fill_bad5a 10 = .ok (.iload 5, 2) := by decide +kernel
theorem dJ7_fill_bad5a_12 : decode cJ7_fill_bad5a 12 = .ok (.iload_n 2, 1) := by decide +kernel
theorem dJ7_fill_bad5a_13 : decode cJ7_fill_bad5a 13 = .ok (.if_icmp .ge 14, 3) := by decide +kernel
theorem dJ7_fill_bad5a_16 : decode cJ7_fill_bad5a 16 = .ok (.aload_n 0, 1) := by decide +kernel
theorem dJ7_fill_bad5a_17 : decode cJ7_fill_bad5a 17 = .ok (.iload 5, 2) := by decide +kernel
theorem dJ7_fill_bad5a_19 : decode cJ7_fill_bad5a 19 = .ok (.lload_n 3, 1) := by decide +kernel
theorem dJ7_fill_bad5a_20 : decode cJ7_fill_bad5a 20 = .ok (.lastore, 1) := by decide +kernel
theorem dJ7_fill_bad5a_21 : decode cJ7_fill_bad5a 21 = .ok (.iinc 5 1, 3) := by decide +kernel
theorem dJ7_fill_bad5a_24 : decode cJ7_fill_bad5a 24 = .ok (.goto (-14), 3) := by decide +kernel
theorem dJ7_fill_bad5a_27 : decode cJ7_fill_bad5a 27 = .ok (.return_, 1) := by decide +kernel
theorem dJ7_fill_53178_0 : decode cJ7_fill_53178 0 = .ok (.iconst 0, 1) := by decide +kernel
theorem dJ7_fill_53178_1 : decode cJ7_fill_53178 1 = .ok (.istore_n 2, 1) := by decide +kernel
theorem dJ7_fill_53178_2 : decode cJ7_fill_53178 2 = .ok (.aload_n 0, 1) := by decide +kernel
theorem dJ7_fill_53178_3 : decode cJ7_fill_53178 3 = .ok (.arraylength, 1) := by decide +kernel
theorem dJ7_fill_53178_4 : decode cJ7_fill_53178 4 = .ok (.istore_n 3, 1) := by decide +kernel
theorem dJ7_fill_53178_5 : decode cJ7_fill_53178 5 = .ok (.iload_n 2, 1) := by decide +kernel
theorem dJ7_fill_53178_6 : decode cJ7_fill_53178 6 = .ok (.iload_n 3, 1) := by decide +kernel
theorem dJ7_fill_53178_7 : decode cJ7_fill_53178 7 = .ok (.if_icmp .ge 13, 3) := by decide +kernel
theorem dJ7_fill_53178_10 : decode cJ7_fill_53178 10 = .ok (.aload_n 0, 1) := by decide +kernel
theorem dJ7_fill_53178_11 : decode cJ7_fill_53178 11 = .ok (.iload_n 2, 1) := by decide +kernel
theorem dJ7_fill_53178_12 : decode cJ7_fill_53178 12 = .ok (.iload_n 1, 1) := by decide +kernel
theorem dJ7_fill_53178_13 : decode cJ7_fill_53178 13 = .ok (.iastore, 1) := by decide +kernel
theorem dJ7_fill_53178_14 : decode cJ7_fill_53178 14 = .ok (.iinc 2 1, 3) := by decide +kernel
theorem dJ7_fill_53178_17 : decode cJ7_fill_53178 17 = .ok (.goto (-12), 3) := by decide +kernel
theorem dJ7_fill_53178_20 : decode cJ7_fill_53178 20 = .ok (.return_, 1) := by decide +kernel
theorem dJ7_fill_fda19_0 : decode cJ7_fill_fda19 0 = .ok (.aload_n 0, 1) := by decide +kernel
theorem dJ7_fill_fda19_1 : decode cJ7_fill_fda19 1 = .ok (.arraylength, 1) := by decide +kernel
theorem dJ7_fill_fda19_2 : decode cJ7_fill_fda19 2 = .ok (.iload_n 1, 1) := by decide +kernel
theorem dJ7_fill_fda19_3 : decode cJ7_fill_fda19 3 = .ok (.iload_n 2, 1) := by decide +kernel
theorem dJ7_fill_fda19_4 : decode cJ7_fill_fda19 4 = .ok (.invokestatic 13, 3) := by decide +kernel
theorem dJ7_fill_fda19_7 : decode cJ7_fill_fda19 7 = .ok (.iload_n 1, 1) := by decide +kernel
theorem dJ7_fill_fda19_8 : decode cJ7_fill_fda19 8 = .ok (.istore 4, 2) := by decide +kernel
theorem dJ7_fill_fda19_10 : decode cJ7_fill_fda19 10 = .ok (.iload 4, 2) := by decide +kernel
theorem dJ7_fill_fda19_12 : decode cJ7_fill_fda19 12 = .ok (.iload_n 2, 1) := by decide +kernel
theorem dJ7_fill_fda19_13 : decode cJ7_fill_fda19 13 = .ok (.if_icmp .ge 14, 3) := by decide +kernel
theorem dJ7_fill_fda19_16 : decode cJ7_fill_fda19 16 = .ok (.aload_n 0, 1) := by decide +kernel
theorem dJ7_fill_fda19_17 : decode cJ7_fill_fda19 17 = .ok (.iload 4, 2) := by decide +kernel
theorem dJ7_fill_fda19_19 : decode cJ7_fill_fda19 19 = .ok (.iload_n 3, 1) := by decide +kernel
theorem dJ7_fill_fda19_20 : decode cJ7_fill_fda19 20 = .ok (.iastore, 1) := by decide +kernel
theorem dJ7_fill_fda19_21 : decode cJ7_fill_fda19 21 = .ok (.iinc 4 1, 3) := by decide +kernel
theorem dJ7_fill_fda19_24 : decode cJ7_fill_fda19 24 = .ok (.goto (-14), 3) := by decide +kernel
theorem dJ7_fill_fda19_27 : decode cJ7_fill_fda19 27 = .ok (.return_, 1) := by decide +kernel
theorem dJ7_copyOf_9075b_0 : decode cJ7_copyOf_9075b 0 = .ok (.iload_n 1, 1) := by decide +kernel
theorem dJ7_copyOf_9075b_1 : decode cJ7_copyOf_9075b 1 = .ok (.aload_n 0, 1) := by decide +kernel
theorem dJ7_copyOf_9075b_2 : decode cJ7_copyOf_9075b 2 = .ok (.arraylength, 1) := by decide +kernel
theorem dJ7_copyOf_9075b_3 : decode cJ7_copyOf_9075b 3 = .ok (.if_icmp .ne 11, 3) := by decide +kernel
theorem dJ7_copyOf_9075b_6 : decode cJ7_copyOf_9075b 6 = .ok (.aload_n 0, 1) := by decide +kernel
theorem dJ7_copyOf_9075b_7 : decode cJ7_copyOf_9075b 7 = .ok (.invokevirtual 310, 3) := by decide +kernel
theorem dJ7_copyOf_9075b_10 : decode cJ7_copyOf_9075b 10 = .ok (.checkcast 311, 3) := by decide +kernel
theorem dJ7_copyOf_9075b_13 : decode cJ7_copyOf_9075b 13 = .ok (.areturn, 1) := by decide +kernel
theorem dJ7_copyOf_9075b_14 : decode cJ7_copyOf_9075b 14 = .ok (.iload_n 1, 1) := by decide +kernel
theorem dJ7_copyOf_9075b_15 : decode cJ7_copyOf_9075b 15 = .ok (.newarray .byte, 2) := by decide +kernel
theorem dJ7_copyOf_9075b_17 : decode cJ7_copyOf_9075b 17 = .ok (.astore_n 2, 1) := by decide +kernel
theorem dJ7_copyOf_9075b_18 : decode cJ7_copyOf_9075b 18 = .ok (.aload_n 0, 1) := by decide +kernel
theorem dJ7_copyOf_9075b_19 : decode cJ7_copyOf_9075b 19 = .ok (.iconst 0, 1) := by decide +kernel
theorem dJ7_copyOf_9075b_20 : decode cJ7_copyOf_9075b 20 = .ok (.aload_n 2, 1) := by decide +kernel
theorem dJ7_copyOf_9075b_21 : decode cJ7_copyOf_9075b 21 = .ok (.iconst 0, 1) := by decide +kernel
theorem dJ7_copyOf_9075b_22 : decode cJ7_copyOf_9075b 22 = .ok (.aload_n 0, 1) := by decide +kernel
theorem dJ7_copyOf_9075b_23 : decode cJ7_copyOf_9075b 23 = .ok (.arraylength, 1) := by decide +kernel
theorem dJ7_copyOf_9075b_24 : decode cJ7_copyOf_9075b 24 = .ok (.iload_n 1, 1) := by decide +kernel
theorem dJ7_copyOf_9075b_25 : decode cJ7_copyOf_9075b 25 = .ok (.invokestatic 304, 3) := by decide +kernel
theorem dJ7_copyOf_9075b_28 : decode cJ7_copyOf_9075b 28 = .ok (.invokestatic 150, 3) := by decide +kernel
theorem dJ7_copyOf_9075b_31 : decode cJ7_copyOf_9075b 31 = .ok (.aload_n 2, 1) := by decide +kernel
theorem dJ7_copyOf_9075b_32 : decode cJ7_copyOf_9075b 32 = .ok (.areturn, 1) := by decide +kernel
theorem dJ7_checkLength_df160_0 : decode cJ7_checkLength_df160 0 = .ok (.iload_n 1, 1) := by decide +kernel
theorem dJ7_checkLength_df160_1 : decode cJ7_checkLength_df160 1 = .ok (.iload_n 0, 1) := by decide +kernel
theorem dJ7_checkLength_df160_2 : decode cJ7_checkLength_df160 2 = .ok (.if_icmp .ge 35, 3) := by decide +kernel
theorem dJ7_checkLength_df160_5 : decode cJ7_checkLength_df160 5 = .ok (.new 43, 3) := by decide +kernel
theorem dJ7_checkLength_df160_8 : decode cJ7_checkLength_df160 8 = .ok (.dup, 1) := by decide +kernel
theorem dJ7_checkLength_df160_9 : decode cJ7_checkLength_df160 9 = .ok (.new 45, 3) := by decide +kernel
theorem dJ7_checkLength_df160_12 : decode cJ7_checkLength_df160 12 = .ok (.dup, 1) := by decide +kernel
theorem dJ7_checkLength_df160_13 : decode cJ7_checkLength_df160 13 = .ok (.invokespecial 47, 3) := by decide +kernel
theorem dJ7_checkLength_df160_16 : decode cJ7_checkLength_df160 16 = .ok (.iload_n 0, 1) := by decide +kernel
theorem dJ7_checkLength_df160_17 : decode cJ7_checkLength_df160 17 = .ok (.invokevirtual 54, 3) := by decide +kernel
theorem dJ7_checkLength_df160_20 : decode cJ7_checkLength_df160 20 = .ok (.ldc_w 337, 3) := by decide +kernel
theorem dJ7_checkLength_df160_23 : decode cJ7_checkLength_df160 23 = .ok (.invokevirtual 50, 3) := by decide +kernel
theorem dJ7_checkLength_df160_26 : decode cJ7_checkLength_df160 26 = .ok (.iload_n 1, 1) := by decide +kernel
theorem dJ7_checkLength_df160_27 : decode cJ7_checkLength_df160 27 = .ok (.invokevirtual 54, 3) := by decide +kernel
theorem dJ7_checkLength_df160_30 : decode cJ7_checkLength_df160 30 = .ok (.invokevirtual 61, 3) := by decide +kernel
theorem dJ7_checkLength_df160_33 : decode cJ7_checkLength_df160 33 = .ok (.invokespecial 65, 3) := by decide +kernel
theorem dJ7_checkLength_df160_36 : decode cJ7_checkLength_df160 36 = .ok (.athrow, 1) := by decide +kernel
theorem dJ7_checkLength_df160_37 : decode cJ7_checkLength_df160 37 = .ok (.return_, 1) := by decide +kernel
theorem dJ7_copyOfRange_39247_0 : decode cJ7_copyOfRange_39247 0 = .ok (.iload_n 1, 1) := by decide +kernel
theorem dJ7_copyOfRange_39247_1 : decode cJ7_copyOfRange_39247 1 = .ok (.ifCond .ne 9, 3) := by decide +kernel
theorem dJ7_copyOfRange_39247_4 : decode cJ7_copyOfRange_39247 4 = .ok (.iload_n 2, 1) := by decide +kernel
theorem dJ7_copyOfRange_39247_5 : decode cJ7_copyOfRange_39247 5 = .ok (.aload_n 0, 1) := by decide +kernel
theorem dJ7_copyOfRange_39247_6 : decode cJ7_copyOfRange_39247 6 = .ok (.arraylength, 1) := by decide +kernel
theorem dJ7_copyOfRange_39247_7 : decode cJ7_copyOfRange_39247 7 = .ok (.if_icmp .eq 10, 3) := by decide +kernel
theorem dJ7_copyOfRange_39247_10 : decode cJ7_copyOfRange_39247 10 = .ok (.aload_n 0, 1) := by decide +kernel
theorem dJ7_copyOfRange_39247_11 : decode cJ7_copyOfRange_39247 11 = .ok (.iload_n 1, 1) := by decide +kernel
theorem dJ7_copyOfRange_39247_12 : decode cJ7_copyOfRange_39247 12 = .ok (.iload_n 2, 1) := by decide +kernel
theorem dJ7_copyOfRange_39247_13 : decode cJ7_copyOfRange_39247 13 = .ok (.invokestatic 339, 3) := by decide +kernel
theorem dJ7_copyOfRange_39247_16 : decode cJ7_copyOfRange_39247 16 = .ok (.areturn, 1) := by decide +kernel
theorem dJ7_copyOfRange_39247_17 : decode cJ7_copyOfRange_39247 17 = .ok (.aload_n 0, 1) := by decide +kernel
theorem dJ7_copyOfRange_39247_18 : decode cJ7_copyOfRange_39247 18 = .ok (.invokevirtual 310, 3) := by decide +kernel
theorem dJ7_copyOfRange_39247_21 : decode cJ7_copyOfRange_39247 21 = .ok (.checkcast 311, 3) := by decide +kernel
theorem dJ7_copyOfRange_39247_24 : decode cJ7_copyOfRange_39247 24 = .ok (.areturn, 1) := by decide +kernel
theorem dJ7_copyOfRangeByte_39247_0 : decode cJ7_copyOfRangeByte_39247 0 = .ok (.iload_n 1, 1) := by decide +kernel
theorem dJ7_copyOfRangeByte_39247_1 : decode cJ7_copyOfRangeByte_39247 1 = .ok (.iload_n 2, 1) := by decide +kernel
theorem dJ7_copyOfRangeByte_39247_2 : decode cJ7_copyOfRangeByte_39247 2 = .ok (.invokestatic 343, 3) := by decide +kernel
theorem dJ7_copyOfRangeByte_39247_5 : decode cJ7_copyOfRangeByte_39247 5 = .ok (.iload_n 2, 1) := by decide +kernel
theorem dJ7_copyOfRangeByte_39247_6 : decode cJ7_copyOfRangeByte_39247 6 = .ok (.iload_n 1, 1) := by decide +kernel
theorem dJ7_copyOfRangeByte_39247_7 : decode cJ7_copyOfRangeByte_39247 7 = .ok (.isub, 1) := by decide +kernel
theorem dJ7_copyOfRangeByte_39247_8 : decode cJ7_copyOfRangeByte_39247 8 = .ok (.istore_n 3, 1) := by decide +kernel
theorem dJ7_copyOfRangeByte_39247_9 : decode cJ7_copyOfRangeByte_39247 9 = .ok (.iload_n 3, 1) := by decide +kernel
theorem dJ7_copyOfRangeByte_39247_10 : decode cJ7_copyOfRangeByte_39247 10 = .ok (.newarray .byte, 2) := by decide +kernel
theorem dJ7_copyOfRangeByte_39247_12 : decode cJ7_copyOfRangeByte_39247 12 = .ok (.astore 4, 2) := by decide +kernel
theorem dJ7_copyOfRangeByte_39247_14 : decode cJ7_copyOfRangeByte_39247 14 = .ok (.aload_n 0, 1) := by decide +kernel
theorem dJ7_copyOfRangeByte_39247_15 : decode cJ7_copyOfRangeByte_39247 15 = .ok (.iload_n 1, 1) := by decide +kernel
theorem dJ7_copyOfRangeByte_39247_16 : decode cJ7_copyOfRangeByte_39247 16 = .ok (.aload 4, 2) := by decide +kernel
theorem dJ7_copyOfRangeByte_39247_18 : decode cJ7_copyOfRangeByte_39247 18 = .ok (.iconst 0, 1) := by decide +kernel
theorem dJ7_copyOfRangeByte_39247_19 : decode cJ7_copyOfRangeByte_39247 19 = .ok (.aload_n 0, 1) := by decide +kernel
theorem dJ7_copyOfRangeByte_39247_20 : decode cJ7_copyOfRangeByte_39247 20 = .ok (.arraylength, 1) := by decide +kernel
theorem dJ7_copyOfRangeByte_39247_21 : decode cJ7_copyOfRangeByte_39247 21 = .ok (.iload_n 1, 1) := by decide +kernel
theorem dJ7_copyOfRangeByte_39247_22 : decode cJ7_copyOfRangeByte_39247 22 = .ok (.isub, 1) := by decide +kernel
theorem dJ7_copyOfRangeByte_39247_23 : decode cJ7_copyOfRangeByte_39247 23 = .ok (.iload_n 3, 1) := by decide +kernel
theorem dJ7_copyOfRangeByte_39247_24 : decode cJ7_copyOfRangeByte_39247 24 = .ok (.invokestatic 304, 3) := by decide +kernel
theorem dJ7_copyOfRangeByte_39247_27 : decode cJ7_copyOfRangeByte_39247 27 = .ok (.invokestatic 150, 3) := by decide +kernel
theorem dJ7_copyOfRangeByte_39247_30 : decode cJ7_copyOfRangeByte_39247 30 = .ok (.aload 4, 2) := by decide +kernel
theorem dJ7_copyOfRangeByte_39247_32 : decode cJ7_copyOfRangeByte_39247 32 = .ok (.areturn, 1) := by decide +kernel
theorem dJ8_newLength_cabcc_0 : decode cJ8_newLength_cabcc 0 = .ok (.iload_n 0, 1) := by decide +kernel
theorem dJ8_newLength_cabcc_1 : decode cJ8_newLength_cabcc 1 = .ok (.iload_n 1, 1) := by decide +kernel
theorem dJ8_newLength_cabcc_2 : decode cJ8_newLength_cabcc 2 = .ok (.iload_n 2, 1) := by decide +kernel
theorem dJ8_newLength_cabcc_3 : decode cJ8_newLength_cabcc 3 = .ok (.invokestatic 194, 3) := by decide +kernel
theorem dJ8_newLength_cabcc_6 : decode cJ8_newLength_cabcc 6 = .ok (.iadd, 1) := by decide +kernel
theorem dJ8_newLength_cabcc_7 : decode cJ8_newLength_cabcc 7 = .ok (.istore_n 3, 1) := by decide +kernel
theorem dJ8_newLength_cabcc_8 : decode cJ8_newLength_cabcc 8 = .ok (.iconst 0, 1) := by decide +kernel
theorem dJ8_newLength_cabcc_9 : decode cJ8_newLength_cabcc 9 = .ok (.iload_n 3, 1) := by decide +kernel
theorem dJ8_newLength_cabcc_10 : decode cJ8_newLength_cabcc 10 = .ok (.if_icmp .ge 11, 3) := by decide +kernel
theorem dJ8_newLength_cabcc_13 : decode cJ8_newLength_cabcc 13 = .ok (.iload_n 3, 1) := by decide +kernel
theorem dJ8_newLength_cabcc_14 : decode cJ8_newLength_cabcc 14 = .ok (.ldc 200, 2) := by decide +kernel
theorem dJ8_newLength_cabcc_16 : decode cJ8_newLength_cabcc 16 = .ok (.if_icmp .gt 5, 3) := by decide +kernel
theorem dJ8_newLength_cabcc_19 : decode cJ8_newLength_cabcc 19 = .ok (.iload_n 3, 1) := by decide +kernel
theorem dJ8_newLength_cabcc_20 : decode cJ8_newLength_cabcc 20 = .ok (.ireturn, 1) := by decide +kernel
theorem dJ8_newLength_cabcc_21 : decode cJ8_newLength_cabcc 21 = .ok (.iload_n 0, 1) := by decide +kernel
theorem dJ8_newLength_cabcc_22 : decode cJ8_newLength_cabcc 22 = .ok (.iload_n 1, 1) := by decide +kernel
theorem dJ8_newLength_cabcc_23 : decode cJ8_newLength_cabcc 23 = .ok (.invokestatic 201, 3) := by decide +kernel
theorem dJ8_newLength_cabcc_26 : decode cJ8_newLength_cabcc 26 = .ok (.ireturn, 1) := by decide +kernel
theorem dJ8_hugeLength_7cf53_0 : decode cJ8_hugeLength_7cf53 0 = .ok (.iload_n 0, 1) := by decide +kernel
theorem dJ8_hugeLength_7cf53_1 : decode cJ8_hugeLength_7cf53 1 = .ok (.iload_n 1, 1) := by decide +kernel
theorem dJ8_hugeLength_7cf53_2 : decode cJ8_hugeLength_7cf53 2 = .ok (.iadd, 1) := by decide +kernel
theorem dJ8_hugeLength_7cf53_3 : decode cJ8_hugeLength_7cf53 3 = .ok (.istore_n 2, 1) := by decide +kernel
theorem dJ8_hugeLength_7cf53_4 : decode cJ8_hugeLength_7cf53 4 = .ok (.iload_n 2, 1) := by decide +kernel
theorem dJ8_hugeLength_7cf53_5 : decode cJ8_hugeLength_7cf53 5 = .ok (.ifCond .ge 44, 3) := by decide +kernel
theorem dJ8_hugeLength_7cf53_8 : decode cJ8_hugeLength_7cf53 8 = .ok (.new 204, 3) := by decide +kernel
theorem dJ8_hugeLength_7cf53_11 : decode cJ8_hugeLength_7cf53 11 = .ok (.dup, 1) := by decide +kernel
theorem dJ8_hugeLength_7cf53_12 : decode cJ8_hugeLength_7cf53 12 = .ok (.new 89, 3) := by decide +kernel
theorem dJ8_hugeLength_7cf53_15 : decode cJ8_hugeLength_7cf53 15 = .ok (.dup, 1) := by decide +kernel
theorem dJ8_hugeLength_7cf53_16 : decode cJ8_hugeLength_7cf53 16 = .ok (.invokespecial 91, 3) := by decide +kernel
theorem dJ8_hugeLength_7cf53_19 : decode cJ8_hugeLength_7cf53 19 = .ok (.ldc 206, 2) := by decide +kernel
theorem dJ8_hugeLength_7cf53_21 : decode cJ8_hugeLength_7cf53 21 = .ok (.invokevirtual 94, 3) := by decide +kernel
theorem dJ8_hugeLength_7cf53_24 : decode cJ8_hugeLength_7cf53 24 = .ok (.iload_n 0, 1) := by decide +kernel
theorem dJ8_hugeLength_7cf53_25 : decode cJ8_hugeLength_7cf53 25 = .ok (.invokevirtual 98, 3) := by decide +kernel
theorem dJ8_hugeLength_7cf53_28 : decode cJ8_hugeLength_7cf53 28 = .ok (.ldc 208, 2) := by decide +kernel
theorem dJ8_hugeLength_7cf53_30 : decode cJ8_hugeLength_7cf53 30 = .ok (.invokevirtual 94, 3) := by decide +kernel
theorem dJ8_hugeLength_7cf53_33 : decode cJ8_hugeLength_7cf53 33 = .ok (.iload_n 1, 1) := by decide +kernel
theorem dJ8_hugeLength_7cf53_34 : decode cJ8_hugeLength_7cf53 34 = .ok (.invokevirtual 98, 3) := by decide +kernel
theorem dJ8_hugeLength_7cf53_37 : decode cJ8_hugeLength_7cf53 37 = .ok (.ldc 210, 2) := by decide +kernel
theorem dJ8_hugeLength_7cf53_39 : decode cJ8_hugeLength_7cf53 39 = .ok (.invokevirtual 94, 3) := by decide +kernel
theorem dJ8_hugeLength_7cf53_42 : decode cJ8_hugeLength_7cf53 42 = .ok (.invokevirtual 101, 3) := by decide +kernel
theorem dJ8_hugeLength_7cf53_45 : decode cJ8_hugeLength_7cf53 45 = .ok (.invokespecial 212, 3) := by decide +kernel
theorem dJ8_hugeLength_7cf53_48 : decode cJ8_hugeLength_7cf53 48 = .ok (.athrow, 1) := by decide +kernel
theorem dJ8_hugeLength_7cf53_49 : decode cJ8_hugeLength_7cf53 49 = .ok (.iload_n 2, 1) := by decide +kernel
theorem dJ8_hugeLength_7cf53_50 : decode cJ8_hugeLength_7cf53 50 = .ok (.ldc 200, 2) := by decide +kernel
theorem dJ8_hugeLength_7cf53_52 : decode cJ8_hugeLength_7cf53 52 = .ok (.if_icmp .gt 6, 3) := by decide +kernel
theorem dJ8_hugeLength_7cf53_55 : decode cJ8_hugeLength_7cf53 55 = .ok (.ldc 200, 2) := by decide +kernel
theorem dJ8_hugeLength_7cf53_57 : decode cJ8_hugeLength_7cf53 57 = .ok (.ireturn, 1) := by decide +kernel
theorem dJ8_hugeLength_7cf53_58 : decode cJ8_hugeLength_7cf53 58 = .ok (.iload_n 2, 1) := by decide +kernel
theorem dJ8_hugeLength_7cf53_59 : decode cJ8_hugeLength_7cf53 59 = .ok (.ireturn, 1) := by decide +kernel
theorem dJ3_checkFromToIndex_8c36e_0 : decode cJ3_checkFromToIndex_8c36e 0 = .ok (.iload_n 0, 1) := by decide +kernel
theorem dJ3_checkFromToIndex_8c36e_1 : decode cJ3_checkFromToIndex_8c36e 1 = .ok (.ifCond .lt 13, 3) := by decide +kernel
theorem dJ3_checkFromToIndex_8c36e_4 : decode cJ3_checkFromToIndex_8c36e 4 = .ok (.iload_n 0, 1) := by decide +kernel
theorem dJ3_checkFromToIndex_8c36e_5 : decode cJ3_checkFromToIndex_8c36e 5 = .ok (.iload_n 1, 1) := by decide +kernel
theorem dJ3_checkFromToIndex_8c36e_6 : decode cJ3_checkFromToIndex_8c36e 6 = .ok (.if_icmp .gt 8, 3) := by decide +kernel
theorem dJ3_checkFromToIndex_8c36e_9 : decode cJ3_checkFromToIndex_8c36e 9 = .ok (.iload_n 1, 1) := by decide +kernel
theorem dJ3_checkFromToIndex_8c36e_10 : decode cJ3_checkFromToIndex_8c36e 10 = .ok (.iload_n 2, 1) := by decide +kernel
theorem dJ3_checkFromToIndex_8c36e_11 : decode cJ3_checkFromToIndex_8c36e 11 = .ok (.if_icmp .le 11, 3) := by decide +kernel
theorem dJ3_checkFromToIndex_8c36e_14 : decode cJ3_checkFromToIndex_8c36e 14 = .ok (.aload_n 3, 1) := by decide +kernel
theorem dJ3_checkFromToIndex_8c36e_15 : decode cJ3_checkFromToIndex_8c36e 15 = .ok (.iload_n 0, 1) := by decide +kernel
theorem dJ3_checkFromToIndex_8c36e_16 : decode cJ3_checkFromToIndex_8c36e 16 = .ok (.iload_n 1, 1) := by decide +kernel
theorem dJ3_checkFromToIndex_8c36e_17 : decode cJ3_checkFromToIndex_8c36e 17 = .ok (.iload_n 2, 1) := by decide +kernel
theorem dJ3_checkFromToIndex_8c36e_18 : decode cJ3_checkFromToIndex_8c36e 18 = .ok (.invokestatic 99, 3) := by decide +kernel
theorem dJ3_checkFromToIndex_8c36e_21 : decode cJ3_checkFromToIndex_8c36e 21 = .ok (.athrow, 1) := by decide +kernel
theorem dJ3_checkFromToIndex_8c36e_22 : decode cJ3_checkFromToIndex_8c36e 22 = .ok (.iload_n 0, 1) := by decide +kernel
theorem dJ3_checkFromToIndex_8c36e_23 : decode cJ3_checkFromToIndex_8c36e 23 = .ok (.ireturn, 1) := by decide +kernel
theorem dJ3_checkFromIndexSize_8c36e_0 : decode cJ3_checkFromIndexSize_8c36e 0 = .ok (.iload_n 2, 1) := by decide +kernel
theorem dJ3_checkFromIndexSize_8c36e_1 : decode cJ3_checkFromIndexSize_8c36e 1 = .ok (.iload_n 0, 1) := by decide +kernel
theorem dJ3_checkFromIndexSize_8c36e_2 : decode cJ3_checkFromIndexSize_8c36e 2 = .ok (.ior, 1) := by decide +kernel
theorem dJ3_checkFromIndexSize_8c36e_3 : decode cJ3_checkFromIndexSize_8c36e 3 = .ok (.iload_n 1, 1) := by decide +kernel
theorem dJ3_checkFromIndexSize_8c36e_4 : decode cJ3_checkFromIndexSize_8c36e 4 = .ok (.ior, 1) := by decide +kernel
theorem dJ3_checkFromIndexSize_8c36e_5 : decode cJ3_checkFromIndexSize_8c36e 5 = .ok (.ifCond .lt 10, 3) := by decide +kernel
theorem dJ3_checkFromIndexSize_8c36e_8 : decode cJ3_checkFromIndexSize_8c36e 8 = .ok (.iload_n 1, 1) := by decide +kernel
theorem dJ3_checkFromIndexSize_8c36e_9 : decode cJ3_checkFromIndexSize_8c36e 9 = .ok (.iload_n 2, 1) := by decide +kernel
theorem dJ3_checkFromIndexSize_8c36e_10 : decode cJ3_checkFromIndexSize_8c36e 10 = .ok (.iload_n 0, 1) := by decide +kernel
theorem dJ3_checkFromIndexSize_8c36e_11 : decode cJ3_checkFromIndexSize_8c36e 11 = .ok (.isub, 1) := by decide +kernel
theorem dJ3_checkFromIndexSize_8c36e_12 : decode cJ3_checkFromIndexSize_8c36e 12 = .ok (.if_icmp .le 11, 3) := by decide +kernel
theorem dJ3_checkFromIndexSize_8c36e_15 : decode cJ3_checkFromIndexSize_8c36e 15 = .ok (.aload_n 3, 1) := by decide +kernel
theorem dJ3_checkFromIndexSize_8c36e_16 : decode cJ3_checkFromIndexSize_8c36e 16 = .ok (.iload_n 0, 1) := by decide +kernel
theorem dJ3_checkFromIndexSize_8c36e_17 : decode cJ3_checkFromIndexSize_8c36e 17 = .ok (.iload_n 1, 1) := by decide +kernel
theorem dJ3_checkFromIndexSize_8c36e_18 : decode cJ3_checkFromIndexSize_8c36e 18 = .ok (.iload_n 2, 1) := by decide +kernel
theorem dJ3_checkFromIndexSize_8c36e_19 : decode cJ3_checkFromIndexSize_8c36e 19 = .ok (.invokestatic 103, 3) := by decide +kernel
theorem dJ3_checkFromIndexSize_8c36e_22 : decode cJ3_checkFromIndexSize_8c36e 22 = .ok (.athrow, 1) := by decide +kernel
theorem dJ3_checkFromIndexSize_8c36e_23 : decode cJ3_checkFromIndexSize_8c36e 23 = .ok (.iload_n 0, 1) := by decide +kernel
theorem dJ3_checkFromIndexSize_8c36e_24 : decode cJ3_checkFromIndexSize_8c36e 24 = .ok (.ireturn, 1) := by decide +kernel
theorem dL_begin_0 : decode cL_begin 0 = .ok (.aload_n 0, 1) := by decide +kernel
theorem dL_begin_1 : decode cL_begin 1 = .ok (.iload_n 1, 1) := by decide +kernel
theorem dL_begin_2 : decode cL_begin 2 = .ok (.invokevirtual 7, 3) := by decide +kernel
theorem dL_begin_5 : decode cL_begin 5 = .ok (.goto 6, 3) := by decide +kernel
theorem dL_begin_8 : decode cL_begin 8 = .ok (.astore_n 2, 1) := by decide +kernel
theorem dL_begin_9 : decode cL_begin 9 = .ok (.iconst 1, 1) := by decide +kernel
theorem dL_begin_10 : decode cL_begin 10 = .ok (.ireturn, 1) := by decide +kernel
theorem dL_begin_11 : decode cL_begin 11 = .ok (.iconst 0, 1) := by decide +kernel
theorem dL_begin_12 : decode cL_begin 12 = .ok (.ireturn, 1) := by decide +kernel
theorem dL_submit_0 : decode cL_submit 0 = .ok (.aload 4, 2) := by decide +kernel
theorem dL_submit_2 : decode cL_submit 2 = .ok (.iconst 0, 1) := by decide +kernel
theorem dL_submit_3 : decode cL_submit 3 = .ok (.aload_n 0, 1) := by decide +kernel
theorem dL_submit_4 : decode cL_submit 4 = .ok (.iload_n 1, 1) := by decide +kernel
theorem dL_submit_5 : decode cL_submit 5 = .ok (.iload_n 2, 1) := by decide +kernel
theorem dL_submit_6 : decode cL_submit 6 = .ok (.iload_n 3, 1) := by decide +kernel
theorem dL_submit_7 : decode cL_submit 7 = .ok (.invokevirtual 15, 3) := by decide +kernel
theorem dL_submit_10 : decode cL_submit 10 = .ok (.i2l, 1) := by decide +kernel
theorem dL_submit_11 : decode cL_submit 11 = .ok (.lastore, 1) := by decide +kernel
theorem dL_submit_12 : decode cL_submit 12 = .ok (.goto 11, 3) := by decide +kernel
theorem dL_submit_15 : decode cL_submit 15 = .ok (.astore 5, 2) := by decide +kernel
theorem dL_submit_17 : decode cL_submit 17 = .ok (.iconst 1, 1) := by decide +kernel
theorem dL_submit_18 : decode cL_submit 18 = .ok (.ireturn, 1) := by decide +kernel
theorem dL_submit_19 : decode cL_submit 19 = .ok (.astore 5, 2) := by decide +kernel
theorem dL_submit_21 : decode cL_submit 21 = .ok (.iconst 2, 1) := by decide +kernel
theorem dL_submit_22 : decode cL_submit 22 = .ok (.ireturn, 1) := by decide +kernel
theorem dL_submit_23 : decode cL_submit 23 = .ok (.iconst 0, 1) := by decide +kernel
theorem dL_submit_24 : decode cL_submit 24 = .ok (.ireturn, 1) := by decide +kernel
theorem dL_sync_0 : decode cL_sync 0 = .ok (.aload 5, 2) := by decide +kernel
theorem dL_sync_2 : decode cL_sync 2 = .ok (.iconst 0, 1) := by decide +kernel
theorem dL_sync_3 : decode cL_sync 3 = .ok (.aload_n 0, 1) := by decide +kernel
theorem dL_sync_4 : decode cL_sync 4 = .ok (.iload_n 1, 1) := by decide +kernel
theorem dL_sync_5 : decode cL_sync 5 = .ok (.iload_n 2, 1) := by decide +kernel
theorem dL_sync_6 : decode cL_sync 6 = .ok (.lload_n 3, 1) := by decide +kernel
theorem dL_sync_7 : decode cL_sync 7 = .ok (.invokevirtual 21, 3) := by decide +kernel
theorem dL_sync_10 : decode cL_sync 10 = .ok (.i2l, 1) := by decide +kernel
theorem dL_sync_11 : decode cL_sync 11 = .ok (.lastore, 1) := by decide +kernel
theorem dL_sync_12 : decode cL_sync 12 = .ok (.goto 11, 3) := by decide +kernel
theorem dL_sync_15 : decode cL_sync 15 = .ok (.astore 6, 2) := by decide +kernel
theorem dL_sync_17 : decode cL_sync 17 = .ok (.iconst 1, 1) := by decide +kernel
theorem dL_sync_18 : decode cL_sync 18 = .ok (.ireturn, 1) := by decide +kernel
theorem dL_sync_19 : decode cL_sync 19 = .ok (.astore 6, 2) := by decide +kernel
theorem dL_sync_21 : decode cL_sync 21 = .ok (.iconst 2, 1) := by decide +kernel
theorem dL_sync_22 : decode cL_sync 22 = .ok (.ireturn, 1) := by decide +kernel
theorem dL_sync_23 : decode cL_sync 23 = .ok (.iconst 0, 1) := by decide +kernel
theorem dL_sync_24 : decode cL_sync 24 = .ok (.ireturn, 1) := by decide +kernel
theorem dL_inject_0 : decode cL_inject 0 = .ok (.aload 7, 2) := by decide +kernel
theorem dL_inject_2 : decode cL_inject 2 = .ok (.iconst 0, 1) := by decide +kernel
theorem dL_inject_3 : decode cL_inject 3 = .ok (.aload_n 0, 1) := by decide +kernel
theorem dL_inject_4 : decode cL_inject 4 = .ok (.iload_n 1, 1) := by decide +kernel
theorem dL_inject_5 : decode cL_inject 5 = .ok (.iload_n 2, 1) := by decide +kernel
theorem dL_inject_6 : decode cL_inject 6 = .ok (.iload_n 3, 1) := by decide +kernel
theorem dL_inject_7 : decode cL_inject 7 = .ok (.iload 4, 2) := by decide +kernel
theorem dL_inject_9 : decode cL_inject 9 = .ok (.lload 5, 2) := by decide +kernel
theorem dL_inject_11 : decode cL_inject 11 = .ok (.invokevirtual 25, 3) := by decide +kernel
theorem dL_inject_14 : decode cL_inject 14 = .ok (.i2l, 1) := by decide +kernel
theorem dL_inject_15 : decode cL_inject 15 = .ok (.lastore, 1) := by decide +kernel
theorem dL_inject_16 : decode cL_inject 16 = .ok (.goto 15, 3) := by decide +kernel
theorem dL_inject_19 : decode cL_inject 19 = .ok (.astore 8, 2) := by decide +kernel
theorem dL_inject_21 : decode cL_inject 21 = .ok (.iconst 1, 1) := by decide +kernel
theorem dL_inject_22 : decode cL_inject 22 = .ok (.ireturn, 1) := by decide +kernel
theorem dL_inject_23 : decode cL_inject 23 = .ok (.astore 8, 2) := by decide +kernel
theorem dL_inject_25 : decode cL_inject 25 = .ok (.iconst 2, 1) := by decide +kernel
theorem dL_inject_26 : decode cL_inject 26 = .ok (.ireturn, 1) := by decide +kernel
theorem dL_inject_27 : decode cL_inject 27 = .ok (.astore 8, 2) := by decide +kernel
theorem dL_inject_29 : decode cL_inject 29 = .ok (.iconst 3, 1) := by decide +kernel
theorem dL_inject_30 : decode cL_inject 30 = .ok (.ireturn, 1) := by decide +kernel
theorem dL_inject_31 : decode cL_inject 31 = .ok (.iconst 0, 1) := by decide +kernel
theorem dL_inject_32 : decode cL_inject 32 = .ok (.ireturn, 1) := by decide +kernel
theorem dL_event_0 : decode cL_event 0 = .ok (.aload_n 3, 1) := by decide +kernel
theorem dL_event_1 : decode cL_event 1 = .ok (.iconst 0, 1) := by decide +kernel
theorem dL_event_2 : decode cL_event 2 = .ok (.aload_n 0, 1) := by decide +kernel
theorem dL_event_3 : decode cL_event 3 = .ok (.iload_n 1, 1) := by decide +kernel
theorem dL_event_4 : decode cL_event 4 = .ok (.iload_n 2, 1) := by decide +kernel
theorem dL_event_5 : decode cL_event 5 = .ok (.invokevirtual 31, 3) := by decide +kernel
theorem dL_event_8 : decode cL_event 8 = .ok (.i2l, 1) := by decide +kernel
theorem dL_event_9 : decode cL_event 9 = .ok (.lastore, 1) := by decide +kernel
theorem dL_event_10 : decode cL_event 10 = .ok (.goto 11, 3) := by decide +kernel
theorem dL_event_13 : decode cL_event 13 = .ok (.astore 4, 2) := by decide +kernel
theorem dL_event_15 : decode cL_event 15 = .ok (.iconst 1, 1) := by decide +kernel
theorem dL_event_16 : decode cL_event 16 = .ok (.ireturn, 1) := by decide +kernel
theorem dL_event_17 : decode cL_event 17 = .ok (.astore 4, 2) := by decide +kernel
theorem dL_event_19 : decode cL_event 19 = .ok (.iconst 2, 1) := by decide +kernel
theorem dL_event_20 : decode cL_event 20 = .ok (.ireturn, 1) := by decide +kernel
theorem dL_event_21 : decode cL_event 21 = .ok (.iconst 0, 1) := by decide +kernel
theorem dL_event_22 : decode cL_event 22 = .ok (.ireturn, 1) := by decide +kernel
theorem dL_hash_0 : decode cL_hash 0 = .ok (.aload_n 3, 1) := by decide +kernel
theorem dL_hash_1 : decode cL_hash 1 = .ok (.iconst 0, 1) := by decide +kernel
theorem dL_hash_2 : decode cL_hash 2 = .ok (.aload_n 0, 1) := by decide +kernel
theorem dL_hash_3 : decode cL_hash 3 = .ok (.iload_n 1, 1) := by decide +kernel
theorem dL_hash_4 : decode cL_hash 4 = .ok (.iload_n 2, 1) := by decide +kernel
theorem dL_hash_5 : decode cL_hash 5 = .ok (.invokevirtual 35, 3) := by decide +kernel
theorem dL_hash_8 : decode cL_hash 8 = .ok (.i2l, 1) := by decide +kernel
theorem dL_hash_9 : decode cL_hash 9 = .ok (.lastore, 1) := by decide +kernel
theorem dL_hash_10 : decode cL_hash 10 = .ok (.goto 7, 3) := by decide +kernel
theorem dL_hash_13 : decode cL_hash 13 = .ok (.astore 4, 2) := by decide +kernel
theorem dL_hash_15 : decode cL_hash 15 = .ok (.iconst 1, 1) := by decide +kernel
theorem dL_hash_16 : decode cL_hash 16 = .ok (.ireturn, 1) := by decide +kernel
theorem dL_hash_17 : decode cL_hash 17 = .ok (.iconst 0, 1) := by decide +kernel
theorem dL_hash_18 : decode cL_hash 18 = .ok (.ireturn, 1) := by decide +kernel
theorem dL_sees_0 : decode cL_sees 0 = .ok (.aload 4, 2) := by decide +kernel
theorem dL_sees_2 : decode cL_sees 2 = .ok (.iconst 0, 1) := by decide +kernel
theorem dL_sees_3 : decode cL_sees 3 = .ok (.aload_n 0, 1) := by decide +kernel
theorem dL_sees_4 : decode cL_sees 4 = .ok (.iload_n 1, 1) := by decide +kernel
theorem dL_sees_5 : decode cL_sees 5 = .ok (.iload_n 2, 1) := by decide +kernel
theorem dL_sees_6 : decode cL_sees 6 = .ok (.iload_n 3, 1) := by decide +kernel
theorem dL_sees_7 : decode cL_sees 7 = .ok (.invokevirtual 38, 3) := by decide +kernel
theorem dL_sees_10 : decode cL_sees 10 = .ok (.ifCond .eq 7, 3) := by decide +kernel
theorem dL_sees_13 : decode cL_sees 13 = .ok (.lconst 1, 1) := by decide +kernel
theorem dL_sees_14 : decode cL_sees 14 = .ok (.goto 4, 3) := by decide +kernel
theorem dL_sees_17 : decode cL_sees 17 = .ok (.lconst 0, 1) := by decide +kernel
theorem dL_sees_18 : decode cL_sees 18 = .ok (.lastore, 1) := by decide +kernel
theorem dL_sees_19 : decode cL_sees 19 = .ok (.goto 7, 3) := by decide +kernel
theorem dL_sees_22 : decode cL_sees 22 = .ok (.astore 5, 2) := by decide +kernel
theorem dL_sees_24 : decode cL_sees 24 = .ok (.iconst 1, 1) := by decide +kernel
theorem dL_sees_25 : decode cL_sees 25 = .ok (.ireturn, 1) := by decide +kernel
theorem dL_sees_26 : decode cL_sees 26 = .ok (.iconst 0, 1) := by decide +kernel
theorem dL_sees_27 : decode cL_sees 27 = .ok (.ireturn, 1) := by decide +kernel
theorem dL_vote_0 : decode cL_vote 0 = .ok (.aload_n 3, 1) := by decide +kernel
theorem dL_vote_1 : decode cL_vote 1 = .ok (.iconst 0, 1) := by decide +kernel
theorem dL_vote_2 : decode cL_vote 2 = .ok (.aload_n 0, 1) := by decide +kernel
theorem dL_vote_3 : decode cL_vote 3 = .ok (.iload_n 1, 1) := by decide +kernel
theorem dL_vote_4 : decode cL_vote 4 = .ok (.iload_n 2, 1) := by decide +kernel
theorem dL_vote_5 : decode cL_vote 5 = .ok (.invokevirtual 42, 3) := by decide +kernel
theorem dL_vote_8 : decode cL_vote 8 = .ok (.i2l, 1) := by decide +kernel
theorem dL_vote_9 : decode cL_vote 9 = .ok (.lastore, 1) := by decide +kernel
theorem dL_vote_10 : decode cL_vote 10 = .ok (.goto 11, 3) := by decide +kernel
theorem dL_vote_13 : decode cL_vote 13 = .ok (.astore 4, 2) := by decide +kernel
theorem dL_vote_15 : decode cL_vote 15 = .ok (.iconst 1, 1) := by decide +kernel
theorem dL_vote_16 : decode cL_vote 16 = .ok (.ireturn, 1) := by decide +kernel
theorem dL_vote_17 : decode cL_vote 17 = .ok (.astore 4, 2) := by decide +kernel
theorem dL_vote_19 : decode cL_vote 19 = .ok (.iconst 2, 1) := by decide +kernel
theorem dL_vote_20 : decode cL_vote 20 = .ok (.ireturn, 1) := by decide +kernel
theorem dL_vote_21 : decode cL_vote 21 = .ok (.iconst 0, 1) := by decide +kernel
theorem dL_vote_22 : decode cL_vote 22 = .ok (.ireturn, 1) := by decide +kernel
theorem dL_found_0 : decode cL_found 0 = .ok (.aload 4, 2) := by decide +kernel
theorem dL_found_2 : decode cL_found 2 = .ok (.iconst 0, 1) := by decide +kernel
theorem dL_found_3 : decode cL_found 3 = .ok (.aload_n 0, 1) := by decide +kernel
theorem dL_found_4 : decode cL_found 4 = .ok (.iload_n 1, 1) := by decide +kernel
theorem dL_found_5 : decode cL_found 5 = .ok (.iload_n 2, 1) := by decide +kernel
theorem dL_found_6 : decode cL_found 6 = .ok (.iload_n 3, 1) := by decide +kernel
theorem dL_found_7 : decode cL_found 7 = .ok (.invokevirtual 45, 3) := by decide +kernel
theorem dL_found_10 : decode cL_found 10 = .ok (.i2l, 1) := by decide +kernel
theorem dL_found_11 : decode cL_found 11 = .ok (.lastore, 1) := by decide +kernel
theorem dL_found_12 : decode cL_found 12 = .ok (.goto 11, 3) := by decide +kernel
theorem dL_found_15 : decode cL_found 15 = .ok (.astore 5, 2) := by decide +kernel
theorem dL_found_17 : decode cL_found 17 = .ok (.iconst 1, 1) := by decide +kernel
theorem dL_found_18 : decode cL_found 18 = .ok (.ireturn, 1) := by decide +kernel
theorem dL_found_19 : decode cL_found 19 = .ok (.astore 5, 2) := by decide +kernel
theorem dL_found_21 : decode cL_found 21 = .ok (.iconst 2, 1) := by decide +kernel
theorem dL_found_22 : decode cL_found 22 = .ok (.ireturn, 1) := by decide +kernel
theorem dL_found_23 : decode cL_found 23 = .ok (.iconst 0, 1) := by decide +kernel
theorem dL_found_24 : decode cL_found 24 = .ok (.ireturn, 1) := by decide +kernel
theorem dL_stamp_0 : decode cL_stamp 0 = .ok (.aload_n 3, 1) := by decide +kernel
theorem dL_stamp_1 : decode cL_stamp 1 = .ok (.iconst 0, 1) := by decide +kernel
theorem dL_stamp_2 : decode cL_stamp 2 = .ok (.aload_n 0, 1) := by decide +kernel
theorem dL_stamp_3 : decode cL_stamp 3 = .ok (.iload_n 1, 1) := by decide +kernel
theorem dL_stamp_4 : decode cL_stamp 4 = .ok (.iload_n 2, 1) := by decide +kernel
theorem dL_stamp_5 : decode cL_stamp 5 = .ok (.invokevirtual 48, 3) := by decide +kernel
theorem dL_stamp_8 : decode cL_stamp 8 = .ok (.lastore, 1) := by decide +kernel
theorem dL_stamp_9 : decode cL_stamp 9 = .ok (.goto 15, 3) := by decide +kernel
theorem dL_stamp_12 : decode cL_stamp 12 = .ok (.astore 4, 2) := by decide +kernel
theorem dL_stamp_14 : decode cL_stamp 14 = .ok (.iconst 1, 1) := by decide +kernel
theorem dL_stamp_15 : decode cL_stamp 15 = .ok (.ireturn, 1) := by decide +kernel
theorem dL_stamp_16 : decode cL_stamp 16 = .ok (.astore 4, 2) := by decide +kernel
theorem dL_stamp_18 : decode cL_stamp 18 = .ok (.iconst 2, 1) := by decide +kernel
theorem dL_stamp_19 : decode cL_stamp 19 = .ok (.ireturn, 1) := by decide +kernel
theorem dL_stamp_20 : decode cL_stamp 20 = .ok (.astore 4, 2) := by decide +kernel
theorem dL_stamp_22 : decode cL_stamp 22 = .ok (.iconst 3, 1) := by decide +kernel
theorem dL_stamp_23 : decode cL_stamp 23 = .ok (.ireturn, 1) := by decide +kernel
theorem dL_stamp_24 : decode cL_stamp 24 = .ok (.iconst 0, 1) := by decide +kernel
theorem dL_stamp_25 : decode cL_stamp 25 = .ok (.ireturn, 1) := by decide +kernel
theorem dL_order_0 : decode cL_order 0 = .ok (.aload_n 2, 1) := by decide +kernel
theorem dL_order_1 : decode cL_order 1 = .ok (.iconst 0, 1) := by decide +kernel
theorem dL_order_2 : decode cL_order 2 = .ok (.aload_n 0, 1) := by decide +kernel
theorem dL_order_3 : decode cL_order 3 = .ok (.iload_n 1, 1) := by decide +kernel
theorem dL_order_4 : decode cL_order 4 = .ok (.invokevirtual 54, 3) := by decide +kernel
theorem dL_order_7 : decode cL_order 7 = .ok (.i2l, 1) := by decide +kernel
theorem dL_order_8 : decode cL_order 8 = .ok (.lastore, 1) := by decide +kernel
theorem dL_order_9 : decode cL_order 9 = .ok (.goto 6, 3) := by decide +kernel
theorem dL_order_12 : decode cL_order 12 = .ok (.astore_n 3, 1) := by decide +kernel
theorem dL_order_13 : decode cL_order 13 = .ok (.iconst 1, 1) := by decide +kernel
theorem dL_order_14 : decode cL_order 14 = .ok (.ireturn, 1) := by decide +kernel
theorem dL_order_15 : decode cL_order 15 = .ok (.iconst 0, 1) := by decide +kernel
theorem dL_order_16 : decode cL_order 16 = .ok (.ireturn, 1) := by decide +kernel
theorem dL_at_0 : decode cL_at 0 = .ok (.aload_n 3, 1) := by decide +kernel
theorem dL_at_1 : decode cL_at 1 = .ok (.iconst 0, 1) := by decide +kernel
theorem dL_at_2 : decode cL_at 2 = .ok (.aload_n 0, 1) := by decide +kernel
theorem dL_at_3 : decode cL_at 3 = .ok (.iload_n 1, 1) := by decide +kernel
theorem dL_at_4 : decode cL_at 4 = .ok (.iload_n 2, 1) := by decide +kernel
theorem dL_at_5 : decode cL_at 5 = .ok (.invokevirtual 58, 3) := by decide +kernel
theorem dL_at_8 : decode cL_at 8 = .ok (.i2l, 1) := by decide +kernel
theorem dL_at_9 : decode cL_at 9 = .ok (.lastore, 1) := by decide +kernel
theorem dL_at_10 : decode cL_at 10 = .ok (.goto 11, 3) := by decide +kernel
theorem dL_at_13 : decode cL_at 13 = .ok (.astore 4, 2) := by decide +kernel
theorem dL_at_15 : decode cL_at 15 = .ok (.iconst 1, 1) := by decide +kernel
theorem dL_at_16 : decode cL_at 16 = .ok (.ireturn, 1) := by decide +kernel
theorem dL_at_17 : decode cL_at 17 = .ok (.astore 4, 2) := by decide +kernel
theorem dL_at_19 : decode cL_at 19 = .ok (.iconst 2, 1) := by decide +kernel
theorem dL_at_20 : decode cL_at 20 = .ok (.ireturn, 1) := by decide +kernel
theorem dL_at_21 : decode cL_at 21 = .ok (.iconst 0, 1) := by decide +kernel
theorem dL_at_22 : decode cL_at 22 = .ok (.ireturn, 1) := by decide +kernel
theorem dL_balance_0 : decode cL_balance 0 = .ok (.aload_n 3, 1) := by decide +kernel
theorem dL_balance_1 : decode cL_balance 1 = .ok (.iconst 0, 1) := by decide +kernel
theorem dL_balance_2 : decode cL_balance 2 = .ok (.aload_n 0, 1) := by decide +kernel
theorem dL_balance_3 : decode cL_balance 3 = .ok (.iload_n 1, 1) := by decide +kernel
theorem dL_balance_4 : decode cL_balance 4 = .ok (.iload_n 2, 1) := by decide +kernel
theorem dL_balance_5 : decode cL_balance 5 = .ok (.invokevirtual 61, 3) := by decide +kernel
theorem dL_balance_8 : decode cL_balance 8 = .ok (.i2l, 1) := by decide +kernel
theorem dL_balance_9 : decode cL_balance 9 = .ok (.lastore, 1) := by decide +kernel
theorem dL_balance_10 : decode cL_balance 10 = .ok (.goto 7, 3) := by decide +kernel
theorem dL_balance_13 : decode cL_balance 13 = .ok (.astore 4, 2) := by decide +kernel
theorem dL_balance_15 : decode cL_balance 15 = .ok (.iconst 1, 1) := by decide +kernel
theorem dL_balance_16 : decode cL_balance 16 = .ok (.ireturn, 1) := by decide +kernel
theorem dL_balance_17 : decode cL_balance 17 = .ok (.iconst 0, 1) := by decide +kernel
theorem dL_balance_18 : decode cL_balance 18 = .ok (.ireturn, 1) := by decide +kernel
theorem dL_count_0 : decode cL_count 0 = .ok (.aload_n 2, 1) := by decide +kernel
theorem dL_count_1 : decode cL_count 1 = .ok (.iconst 0, 1) := by decide +kernel
theorem dL_count_2 : decode cL_count 2 = .ok (.aload_n 0, 1) := by decide +kernel
theorem dL_count_3 : decode cL_count 3 = .ok (.iload_n 1, 1) := by decide +kernel
theorem dL_count_4 : decode cL_count 4 = .ok (.invokevirtual 64, 3) := by decide +kernel
theorem dL_count_7 : decode cL_count 7 = .ok (.i2l, 1) := by decide +kernel
theorem dL_count_8 : decode cL_count 8 = .ok (.lastore, 1) := by decide +kernel
theorem dL_count_9 : decode cL_count 9 = .ok (.goto 6, 3) := by decide +kernel
theorem dL_count_12 : decode cL_count 12 = .ok (.astore_n 3, 1) := by decide +kernel
theorem dL_count_13 : decode cL_count 13 = .ok (.iconst 1, 1) := by decide +kernel
theorem dL_count_14 : decode cL_count 14 = .ok (.ireturn, 1) := by decide +kernel
theorem dL_count_15 : decode cL_count 15 = .ok (.iconst 0, 1) := by decide +kernel
theorem dL_count_16 : decode cL_count 16 = .ok (.ireturn, 1) := by decide +kernel
theorem dL_law_0 : decode cL_law 0 = .ok (.new 8, 3) := by decide +kernel
theorem dL_law_3 : decode cL_law 3 = .ok (.dup, 1) := by decide +kernel
theorem dL_law_4 : decode cL_law 4 = .ok (.invokespecial 67, 3) := by decide +kernel
theorem dL_law_7 : decode cL_law 7 = .ok (.astore_n 1, 1) := by decide +kernel
theorem dL_law_8 : decode cL_law 8 = .ok (.new 68, 3) := by decide +kernel
theorem dL_law_11 : decode cL_law 11 = .ok (.dup, 1) := by decide +kernel
theorem dL_law_12 : decode cL_law 12 = .ok (.invokespecial 70, 3) := by decide +kernel
theorem dL_law_15 : decode cL_law 15 = .ok (.astore_n 2, 1) := by decide +kernel
theorem dL_law_16 : decode cL_law 16 = .ok (.iconst 1, 1) := by decide +kernel
theorem dL_law_17 : decode cL_law 17 = .ok (.newarray .long, 2) := by decide +kernel
theorem dL_law_19 : decode cL_law 19 = .ok (.astore_n 3, 1) := by decide +kernel
theorem dL_law_20 : decode cL_law 20 = .ok (.iconst 0, 1) := by decide +kernel
theorem dL_law_21 : decode cL_law 21 = .ok (.istore 4, 2) := by decide +kernel
theorem dL_law_23 : decode cL_law 23 = .ok (.iload 4, 2) := by decide +kernel
theorem dL_law_25 : decode cL_law 25 = .ok (.aload_n 0, 1) := by decide +kernel
theorem dL_law_26 : decode cL_law 26 = .ok (.arraylength, 1) := by decide +kernel
theorem dL_law_27 : decode cL_law 27 = .ok (.bipush 7, 2) := by decide +kernel
theorem dL_law_29 : decode cL_law 29 = .ok (.isub, 1) := by decide +kernel
theorem dL_law_30 : decode cL_law 30 = .ok (.if_icmp .gt 1156, 3) := by decide +kernel
theorem dL_law_33 : decode cL_law 33 = .ok (.aload_n 0, 1) := by decide +kernel
theorem dL_law_34 : decode cL_law 34 = .ok (.iload 4, 2) := by decide +kernel
theorem dL_law_36 : decode cL_law 36 = .ok (.iaload, 1) := by decide +kernel
theorem dL_law_37 : decode cL_law 37 = .ok (.bipush 15, 2) := by decide +kernel
theorem dL_law_39 : decode cL_law 39 = .ok (.iand, 1) := by decide +kernel
theorem dL_law_40 : decode cL_law 40 = .ok (.tableswitch 1140 0 13 #[72, 108, 188, 300, 438, 506, 574, 677, 745, 825, 892, 948, 1016, 1084], 72) := by decide +kernel
theorem dL_law_112 : decode cL_law 112 = .ok (.aload_n 1, 1) := by decide +kernel
theorem dL_law_113 : decode cL_law 113 = .ok (.aload_n 0, 1) := by decide +kernel
theorem dL_law_114 : decode cL_law 114 = .ok (.iload 4, 2) := by decide +kernel
theorem dL_law_116 : decode cL_law 116 = .ok (.iconst 1, 1) := by decide +kernel
theorem dL_law_117 : decode cL_law 117 = .ok (.iadd, 1) := by decide +kernel
theorem dL_law_118 : decode cL_law 118 = .ok (.iaload, 1) := by decide +kernel
theorem dL_law_119 : decode cL_law 119 = .ok (.invokestatic 71, 3) := by decide +kernel
theorem dL_law_122 : decode cL_law 122 = .ok (.istore 5, 2) := by decide +kernel
theorem dL_law_124 : decode cL_law 124 = .ok (.aload_n 2, 1) := by decide +kernel
theorem dL_law_125 : decode cL_law 125 = .ok (.aload_n 0, 1) := by decide +kernel
theorem dL_law_126 : decode cL_law 126 = .ok (.iload 4, 2) := by decide +kernel
theorem dL_law_128 : decode cL_law 128 = .ok (.iconst 1, 1) := by decide +kernel
theorem dL_law_129 : decode cL_law 129 = .ok (.iadd, 1) := by decide +kernel
theorem dL_law_130 : decode cL_law 130 = .ok (.iaload, 1) := by decide +kernel
theorem dL_law_131 : decode cL_law 131 = .ok (.invokevirtual 76, 3) := by decide +kernel
theorem dL_law_134 : decode cL_law 134 = .ok (.aload_n 2, 1) := by decide +kernel
theorem dL_law_135 : decode cL_law 135 = .ok (.invokevirtual 77, 3) := by decide +kernel
theorem dL_law_138 : decode cL_law 138 = .ok (.iload 5, 2) := by decide +kernel
theorem dL_law_140 : decode cL_law 140 = .ok (.if_icmp .eq 5, 3) := by decide +kernel
theorem dL_law_143 : decode cL_law 143 = .ok (.iconst 0, 1) := by decide +kernel
theorem dL_law_144 : decode cL_law 144 = .ok (.ireturn, 1) := by decide +kernel
theorem dL_law_145 : decode cL_law 145 = .ok (.goto 1035, 3) := by decide +kernel
theorem dL_law_148 : decode cL_law 148 = .ok (.aload_n 1, 1) := by decide +kernel
theorem dL_law_149 : decode cL_law 149 = .ok (.aload_n 0, 1) := by decide +kernel
theorem dL_law_150 : decode cL_law 150 = .ok (.iload 4, 2) := by decide +kernel
theorem dL_law_152 : decode cL_law 152 = .ok (.iconst 1, 1) := by decide +kernel
theorem dL_law_153 : decode cL_law 153 = .ok (.iadd, 1) := by decide +kernel
theorem dL_law_154 : decode cL_law 154 = .ok (.iaload, 1) := by decide +kernel
theorem dL_law_155 : decode cL_law 155 = .ok (.aload_n 0, 1) := by decide +kernel
theorem dL_law_156 : decode cL_law 156 = .ok (.iload 4, 2) := by decide +kernel
theorem dL_law_158 : decode cL_law 158 = .ok (.iconst 2, 1) := by decide +kernel
theorem dL_law_159 : decode cL_law 159 = .ok (.iadd, 1) := by decide +kernel
theorem dL_law_160 : decode cL_law 160 = .ok (.iaload, 1) := by decide +kernel
theorem dL_law_161 : decode cL_law 161 = .ok (.aload_n 0, 1) := by decide +kernel
theorem dL_law_162 : decode cL_law 162 = .ok (.iload 4, 2) := by decide +kernel
theorem dL_law_164 : decode cL_law 164 = .ok (.iconst 3, 1) := by decide +kernel
theorem dL_law_165 : decode cL_law 165 = .ok (.iadd, 1) := by decide +kernel
theorem dL_law_166 : decode cL_law 166 = .ok (.iaload, 1) := by decide +kernel
theorem dL_law_167 : decode cL_law 167 = .ok (.aload_n 3, 1) := by decide +kernel
theorem dL_law_168 : decode cL_law 168 = .ok (.invokestatic 81, 3) := by decide +kernel
theorem dL_law_171 : decode cL_law 171 = .ok (.istore 5, 2) := by decide +kernel
theorem dL_law_173 : decode cL_law 173 = .ok (.aload_n 2, 1) := by decide +kernel
theorem dL_law_174 : decode cL_law 174 = .ok (.aload_n 0, 1) := by decide +kernel
theorem dL_law_175 : decode cL_law 175 = .ok (.iload 4, 2) := by decide +kernel
theorem dL_law_177 : decode cL_law 177 = .ok (.iconst 1, 1) := by decide +kernel
theorem dL_law_178 : decode cL_law 178 = .ok (.iadd, 1) := by decide +kernel
theorem dL_law_179 : decode cL_law 179 = .ok (.iaload, 1) := by decide +kernel
theorem dL_law_180 : decode cL_law 180 = .ok (.aload_n 0, 1) := by decide +kernel
theorem dL_law_181 : decode cL_law 181 = .ok (.iload 4, 2) := by decide +kernel
theorem dL_law_183 : decode cL_law 183 = .ok (.iconst 2, 1) := by decide +kernel
theorem dL_law_184 : decode cL_law 184 = .ok (.iadd, 1) := by decide +kernel
theorem dL_law_185 : decode cL_law 185 = .ok (.iaload, 1) := by decide +kernel
theorem dL_law_186 : decode cL_law 186 = .ok (.aload_n 0, 1) := by decide +kernel
theorem dL_law_187 : decode cL_law 187 = .ok (.iload 4, 2) := by decide +kernel
theorem dL_law_189 : decode cL_law 189 = .ok (.iconst 3, 1) := by decide +kernel
theorem dL_law_190 : decode cL_law 190 = .ok (.iadd, 1) := by decide +kernel
theorem dL_law_191 : decode cL_law 191 = .ok (.iaload, 1) := by decide +kernel
theorem dL_law_192 : decode cL_law 192 = .ok (.invokevirtual 84, 3) := by decide +kernel
theorem dL_law_195 : decode cL_law 195 = .ok (.istore 6, 2) := by decide +kernel
theorem dL_law_197 : decode cL_law 197 = .ok (.aload_n 2, 1) := by decide +kernel
theorem dL_law_198 : decode cL_law 198 = .ok (.invokevirtual 77, 3) := by decide +kernel
theorem dL_law_201 : decode cL_law 201 = .ok (.iload 5, 2) := by decide +kernel
theorem dL_law_203 : decode cL_law 203 = .ok (.if_icmp .eq 5, 3) := by decide +kernel
theorem dL_law_206 : decode cL_law 206 = .ok (.iconst 0, 1) := by decide +kernel
theorem dL_law_207 : decode cL_law 207 = .ok (.ireturn, 1) := by decide +kernel
theorem dL_law_208 : decode cL_law 208 = .ok (.iload 5, 2) := by decide +kernel
theorem dL_law_210 : decode cL_law 210 = .ok (.ifCond .ne 15, 3) := by decide +kernel
theorem dL_law_213 : decode cL_law 213 = .ok (.aload_n 3, 1) := by decide +kernel
theorem dL_law_214 : decode cL_law 214 = .ok (.iconst 0, 1) := by decide +kernel
theorem dL_law_215 : decode cL_law 215 = .ok (.laload, 1) := by decide +kernel
theorem dL_law_216 : decode cL_law 216 = .ok (.iload 6, 2) := by decide +kernel
theorem dL_law_218 : decode cL_law 218 = .ok (.i2l, 1) := by decide +kernel
theorem dL_law_219 : decode cL_law 219 = .ok (.lcmp, 1) := by decide +kernel
theorem dL_law_220 : decode cL_law 220 = .ok (.ifCond .eq 5, 3) := by decide +kernel
theorem dL_law_223 : decode cL_law 223 = .ok (.iconst 0, 1) := by decide +kernel
theorem dL_law_224 : decode cL_law 224 = .ok (.ireturn, 1) := by decide +kernel
theorem dL_law_225 : decode cL_law 225 = .ok (.goto 955, 3) := by decide +kernel
theorem dL_law_228 : decode cL_law 228 = .ok (.aload_n 1, 1) := by decide +kernel
theorem dL_law_229 : decode cL_law 229 = .ok (.aload_n 0, 1) := by decide +kernel
theorem dL_law_230 : decode cL_law 230 = .ok (.iload 4, 2) := by decide +kernel
theorem dL_law_232 : decode cL_law 232 = .ok (.iconst 1, 1) := by decide +kernel
theorem dL_law_233 : decode cL_law 233 = .ok (.iadd, 1) := by decide +kernel
theorem dL_law_234 : decode cL_law 234 = .ok (.iaload, 1) := by decide +kernel
theorem dL_law_235 : decode cL_law 235 = .ok (.aload_n 0, 1) := by decide +kernel
theorem dL_law_236 : decode cL_law 236 = .ok (.iload 4, 2) := by decide +kernel
theorem dL_law_238 : decode cL_law 238 = .ok (.iconst 2, 1) := by decide +kernel
theorem dL_law_239 : decode cL_law 239 = .ok (.iadd, 1) := by decide +kernel
theorem dL_law_240 : decode cL_law 240 = .ok (.iaload, 1) := by decide +kernel
theorem dL_law_241 : decode cL_law 241 = .ok (.aload_n 0, 1) := by decide +kernel
theorem dL_law_242 : decode cL_law 242 = .ok (.iload 4, 2) := by decide +kernel
theorem dL_law_244 : decode cL_law 244 = .ok (.iconst 3, 1) := by decide +kernel
theorem dL_law_245 : decode cL_law 245 = .ok (.iadd, 1) := by decide +kernel
theorem dL_law_246 : decode cL_law 246 = .ok (.iaload, 1) := by decide +kernel
theorem dL_law_247 : decode cL_law 247 = .ok (.i2l, 1) := by decide +kernel
theorem dL_law_248 : decode cL_law 248 = .ok (.bipush 32, 2) := by decide +kernel
theorem dL_law_250 : decode cL_law 250 = .ok (.lshl, 1) := by decide +kernel
theorem dL_law_251 : decode cL_law 251 = .ok (.aload_n 0, 1) := by decide +kernel
theorem dL_law_252 : decode cL_law 252 = .ok (.iload 4, 2) := by decide +kernel
theorem dL_law_254 : decode cL_law 254 = .ok (.iconst 4, 1) := by decide +kernel
theorem dL_law_255 : decode cL_law 255 = .ok (.iadd, 1) := by decide +kernel
theorem dL_law_256 : decode cL_law 256 = .ok (.iaload, 1) := by decide +kernel
theorem dL_law_257 : decode cL_law 257 = .ok (.i2l, 1) := by decide +kernel
theorem dL_law_258 : decode cL_law 258 = .ok (.ldc2_w 85, 3) := by decide +kernel
theorem dL_law_261 : decode cL_law 261 = .ok (.land, 1) := by decide +kernel
theorem dL_law_262 : decode cL_law 262 = .ok (.lor, 1) := by decide +kernel
theorem dL_law_263 : decode cL_law 263 = .ok (.aload_n 3, 1) := by decide +kernel
theorem dL_law_264 : decode cL_law 264 = .ok (.invokestatic 87, 3) := by decide +kernel
theorem dL_law_267 : decode cL_law 267 = .ok (.istore 5, 2) := by decide +kernel
theorem dL_law_269 : decode cL_law 269 = .ok (.aload_n 2, 1) := by decide +kernel
theorem dL_law_270 : decode cL_law 270 = .ok (.aload_n 0, 1) := by decide +kernel
theorem dL_law_271 : decode cL_law 271 = .ok (.iload 4, 2) := by decide +kernel
theorem dL_law_273 : decode cL_law 273 = .ok (.iconst 1, 1) := by decide +kernel
theorem dL_law_274 : decode cL_law 274 = .ok (.iadd, 1) := by decide +kernel
theorem dL_law_275 : decode cL_law 275 = .ok (.iaload, 1) := by decide +kernel
theorem dL_law_276 : decode cL_law 276 = .ok (.aload_n 0, 1) := by decide +kernel
theorem dL_law_277 : decode cL_law 277 = .ok (.iload 4, 2) := by decide +kernel
theorem dL_law_279 : decode cL_law 279 = .ok (.iconst 2, 1) := by decide +kernel
theorem dL_law_280 : decode cL_law 280 = .ok (.iadd, 1) := by decide +kernel
theorem dL_law_281 : decode cL_law 281 = .ok (.iaload, 1) := by decide +kernel
theorem dL_law_282 : decode cL_law 282 = .ok (.aload_n 0, 1) := by decide +kernel
theorem dL_law_283 : decode cL_law 283 = .ok (.iload 4, 2) := by decide +kernel
theorem dL_law_285 : decode cL_law 285 = .ok (.iconst 3, 1) := by decide +kernel
theorem dL_law_286 : decode cL_law 286 = .ok (.iadd, 1) := by decide +kernel
theorem dL_law_287 : decode cL_law 287 = .ok (.iaload, 1) := by decide +kernel
theorem dL_law_288 : decode cL_law 288 = .ok (.i2l, 1) := by decide +kernel
theorem dL_law_289 : decode cL_law 289 = .ok (.bipush 32, 2) := by decide +kernel
theorem dL_law_291 : decode cL_law 291 = .ok (.lshl, 1) := by decide +kernel
theorem dL_law_292 : decode cL_law 292 = .ok (.aload_n 0, 1) := by decide +kernel
theorem dL_law_293 : decode cL_law 293 = .ok (.iload 4, 2) := by decide +kernel
theorem dL_law_295 : decode cL_law 295 = .ok (.iconst 4, 1) := by decide +kernel
theorem dL_law_296 : decode cL_law 296 = .ok (.iadd, 1) := by decide +kernel
theorem dL_law_297 : decode cL_law 297 = .ok (.iaload, 1) := by decide +kernel
theorem dL_law_298 : decode cL_law 298 = .ok (.i2l, 1) := by decide +kernel
theorem dL_law_299 : decode cL_law 299 = .ok (.ldc2_w 85, 3) := by decide +kernel
theorem dL_law_302 : decode cL_law 302 = .ok (.land, 1) := by decide +kernel
theorem dL_law_303 : decode cL_law 303 = .ok (.lor, 1) := by decide +kernel
theorem dL_law_304 : decode cL_law 304 = .ok (.invokevirtual 90, 3) := by decide +kernel
theorem dL_law_307 : decode cL_law 307 = .ok (.istore 6, 2) := by decide +kernel
theorem dL_law_309 : decode cL_law 309 = .ok (.aload_n 2, 1) := by decide +kernel
theorem dL_law_310 : decode cL_law 310 = .ok (.invokevirtual 77, 3) := by decide +kernel
theorem dL_law_313 : decode cL_law 313 = .ok (.iload 5, 2) := by decide +kernel
theorem dL_law_315 : decode cL_law 315 = .ok (.if_icmp .eq 5, 3) := by decide +kernel
theorem dL_law_318 : decode cL_law 318 = .ok (.iconst 0, 1) := by decide +kernel
theorem dL_law_319 : decode cL_law 319 = .ok (.ireturn, 1) := by decide +kernel
theorem dL_law_320 : decode cL_law 320 = .ok (.iload 5, 2) := by decide +kernel
theorem dL_law_322 : decode cL_law 322 = .ok (.ifCond .ne 15, 3) := by decide +kernel
theorem dL_law_325 : decode cL_law 325 = .ok (.aload_n 3, 1) := by decide +kernel
theorem dL_law_326 : decode cL_law 326 = .ok (.iconst 0, 1) := by decide +kernel
theorem dL_law_327 : decode cL_law 327 = .ok (.laload, 1) := by decide +kernel
theorem dL_law_328 : decode cL_law 328 = .ok (.iload 6, 2) := by decide +kernel
theorem dL_law_330 : decode cL_law 330 = .ok (.i2l, 1) := by decide +kernel
theorem dL_law_331 : decode cL_law 331 = .ok (.lcmp, 1) := by decide +kernel
theorem dL_law_332 : decode cL_law 332 = .ok (.ifCond .eq 5, 3) := by decide +kernel
theorem dL_law_335 : decode cL_law 335 = .ok (.iconst 0, 1) := by decide +kernel
theorem dL_law_336 : decode cL_law 336 = .ok (.ireturn, 1) := by decide +kernel
theorem dL_law_337 : decode cL_law 337 = .ok (.goto 843, 3) := by decide +kernel
theorem dL_law_340 : decode cL_law 340 = .ok (.aload_n 1, 1) := by decide +kernel
theorem dL_law_341 : decode cL_law 341 = .ok (.aload_n 0, 1) := by decide +kernel
theorem dL_law_342 : decode cL_law 342 = .ok (.iload 4, 2) := by decide +kernel
theorem dL_law_344 : decode cL_law 344 = .ok (.iconst 1, 1) := by decide +kernel
theorem dL_law_345 : decode cL_law 345 = .ok (.iadd, 1) := by decide +kernel
theorem dL_law_346 : decode cL_law 346 = .ok (.iaload, 1) := by decide +kernel
theorem dL_law_347 : decode cL_law 347 = .ok (.aload_n 0, 1) := by decide +kernel
theorem dL_law_348 : decode cL_law 348 = .ok (.iload 4, 2) := by decide +kernel
theorem dL_law_350 : decode cL_law 350 = .ok (.iconst 2, 1) := by decide +kernel
theorem dL_law_351 : decode cL_law 351 = .ok (.iadd, 1) := by decide +kernel
theorem dL_law_352 : decode cL_law 352 = .ok (.iaload, 1) := by decide +kernel
theorem dL_law_353 : decode cL_law 353 = .ok (.aload_n 0, 1) := by decide +kernel
theorem dL_law_354 : decode cL_law 354 = .ok (.iload 4, 2) := by decide +kernel
theorem dL_law_356 : decode cL_law 356 = .ok (.iconst 3, 1) := by decide +kernel
theorem dL_law_357 : decode cL_law 357 = .ok (.iadd, 1) := by decide +kernel
theorem dL_law_358 : decode cL_law 358 = .ok (.iaload, 1) := by decide +kernel
theorem dL_law_359 : decode cL_law 359 = .ok (.aload_n 0, 1) := by decide +kernel
theorem dL_law_360 : decode cL_law 360 = .ok (.iload 4, 2) := by decide +kernel
theorem dL_law_362 : decode cL_law 362 = .ok (.iconst 4, 1) := by decide +kernel
theorem dL_law_363 : decode cL_law 363 = .ok (.iadd, 1) := by decide +kernel
theorem dL_law_364 : decode cL_law 364 = .ok (.iaload, 1) := by decide +kernel
theorem dL_law_365 : decode cL_law 365 = .ok (.aload_n 0, 1) := by decide +kernel
theorem dL_law_366 : decode cL_law 366 = .ok (.iload 4, 2) := by decide +kernel
theorem dL_law_368 : decode cL_law 368 = .ok (.iconst 5, 1) := by decide +kernel
theorem dL_law_369 : decode cL_law 369 = .ok (.iadd, 1) := by decide +kernel
theorem dL_law_370 : decode cL_law 370 = .ok (.iaload, 1) := by decide +kernel
theorem dL_law_371 : decode cL_law 371 = .ok (.i2l, 1) := by decide +kernel
theorem dL_law_372 : decode cL_law 372 = .ok (.bipush 32, 2) := by decide +kernel
theorem dL_law_374 : decode cL_law 374 = .ok (.lshl, 1) := by decide +kernel
theorem dL_law_375 : decode cL_law 375 = .ok (.aload_n 0, 1) := by decide +kernel
theorem dL_law_376 : decode cL_law 376 = .ok (.iload 4, 2) := by decide +kernel
theorem dL_law_378 : decode cL_law 378 = .ok (.bipush 6, 2) := by decide +kernel
theorem dL_law_380 : decode cL_law 380 = .ok (.iadd, 1) := by decide +kernel
theorem dL_law_381 : decode cL_law 381 = .ok (.iaload, 1) := by decide +kernel
theorem dL_law_382 : decode cL_law 382 = .ok (.i2l, 1) := by decide +kernel
theorem dL_law_383 : decode cL_law 383 = .ok (.ldc2_w 85, 3) := by decide +kernel
theorem dL_law_386 : decode cL_law 386 = .ok (.land, 1) := by decide +kernel
theorem dL_law_387 : decode cL_law 387 = .ok (.lor, 1) := by decide +kernel
theorem dL_law_388 : decode cL_law 388 = .ok (.aload_n 3, 1) := by decide +kernel
theorem dL_law_389 : decode cL_law 389 = .ok (.invokestatic 91, 3) := by decide +kernel
theorem dL_law_392 : decode cL_law 392 = .ok (.istore 5, 2) := by decide +kernel
theorem dL_law_394 : decode cL_law 394 = .ok (.aload_n 2, 1) := by decide +kernel
theorem dL_law_395 : decode cL_law 395 = .ok (.aload_n 0, 1) := by decide +kernel
theorem dL_law_396 : decode cL_law 396 = .ok (.iload 4, 2) := by decide +kernel
theorem dL_law_398 : decode cL_law 398 = .ok (.iconst 1, 1) := by decide +kernel
theorem dL_law_399 : decode cL_law 399 = .ok (.iadd, 1) := by decide +kernel
theorem dL_law_400 : decode cL_law 400 = .ok (.iaload, 1) := by decide +kernel
theorem dL_law_401 : decode cL_law 401 = .ok (.aload_n 0, 1) := by decide +kernel
theorem dL_law_402 : decode cL_law 402 = .ok (.iload 4, 2) := by decide +kernel
theorem dL_law_404 : decode cL_law 404 = .ok (.iconst 2, 1) := by decide +kernel
theorem dL_law_405 : decode cL_law 405 = .ok (.iadd, 1) := by decide +kernel
theorem dL_law_406 : decode cL_law 406 = .ok (.iaload, 1) := by decide +kernel
theorem dL_law_407 : decode cL_law 407 = .ok (.aload_n 0, 1) := by decide +kernel
theorem dL_law_408 : decode cL_law 408 = .ok (.iload 4, 2) := by decide +kernel
theorem dL_law_410 : decode cL_law 410 = .ok (.iconst 3, 1) := by decide +kernel
theorem dL_law_411 : decode cL_law 411 = .ok (.iadd, 1) := by decide +kernel
theorem dL_law_412 : decode cL_law 412 = .ok (.iaload, 1) := by decide +kernel
theorem dL_law_413 : decode cL_law 413 = .ok (.aload_n 0, 1) := by decide +kernel
theorem dL_law_414 : decode cL_law 414 = .ok (.iload 4, 2) := by decide +kernel
theorem dL_law_416 : decode cL_law 416 = .ok (.iconst 4, 1) := by decide +kernel
theorem dL_law_417 : decode cL_law 417 = .ok (.iadd, 1) := by decide +kernel
theorem dL_law_418 : decode cL_law 418 = .ok (.iaload, 1) := by decide +kernel
theorem dL_law_419 : decode cL_law 419 = .ok (.aload_n 0, 1) := by decide +kernel
theorem dL_law_420 : decode cL_law 420 = .ok (.iload 4, 2) := by decide +kernel
theorem dL_law_422 : decode cL_law 422 = .ok (.iconst 5, 1) := by decide +kernel
theorem dL_law_423 : decode cL_law 423 = .ok (.iadd, 1) := by decide +kernel
theorem dL_law_424 : decode cL_law 424 = .ok (.iaload, 1) := by decide +kernel
theorem dL_law_425 : decode cL_law 425 = .ok (.i2l, 1) := by decide +kernel
theorem dL_law_426 : decode cL_law 426 = .ok (.bipush 32, 2) := by decide +kernel
theorem dL_law_428 : decode cL_law 428 = .ok (.lshl, 1) := by decide +kernel
theorem dL_law_429 : decode cL_law 429 = .ok (.aload_n 0, 1) := by decide +kernel
theorem dL_law_430 : decode cL_law 430 = .ok (.iload 4, 2) := by decide +kernel
theorem dL_law_432 : decode cL_law 432 = .ok (.bipush 6, 2) := by decide +kernel
theorem dL_law_434 : decode cL_law 434 = .ok (.iadd, 1) := by decide +kernel
theorem dL_law_435 : decode cL_law 435 = .ok (.iaload, 1) := by decide +kernel
theorem dL_law_436 : decode cL_law 436 = .ok (.i2l, 1) := by decide +kernel
theorem dL_law_437 : decode cL_law 437 = .ok (.ldc2_w 85, 3) := by decide +kernel
theorem dL_law_440 : decode cL_law 440 = .ok (.land, 1) := by decide +kernel
theorem dL_law_441 : decode cL_law 441 = .ok (.lor, 1) := by decide +kernel
theorem dL_law_442 : decode cL_law 442 = .ok (.invokevirtual 94, 3) := by decide +kernel
theorem dL_law_445 : decode cL_law 445 = .ok (.istore 6, 2) := by decide +kernel
theorem dL_law_447 : decode cL_law 447 = .ok (.aload_n 2, 1) := by decide +kernel
theorem dL_law_448 : decode cL_law 448 = .ok (.invokevirtual 77, 3) := by decide +kernel
theorem dL_law_451 : decode cL_law 451 = .ok (.iload 5, 2) := by decide +kernel
theorem dL_law_453 : decode cL_law 453 = .ok (.if_icmp .eq 5, 3) := by decide +kernel
theorem dL_law_456 : decode cL_law 456 = .ok (.iconst 0, 1) := by decide +kernel
theorem dL_law_457 : decode cL_law 457 = .ok (.ireturn, 1) := by decide +kernel
theorem dL_law_458 : decode cL_law 458 = .ok (.iload 5, 2) := by decide +kernel
theorem dL_law_460 : decode cL_law 460 = .ok (.ifCond .ne 15, 3) := by decide +kernel
theorem dL_law_463 : decode cL_law 463 = .ok (.aload_n 3, 1) := by decide +kernel
theorem dL_law_464 : decode cL_law 464 = .ok (.iconst 0, 1) := by decide +kernel
theorem dL_law_465 : decode cL_law 465 = .ok (.laload, 1) := by decide +kernel
theorem dL_law_466 : decode cL_law 466 = .ok (.iload 6, 2) := by decide +kernel
theorem dL_law_468 : decode cL_law 468 = .ok (.i2l, 1) := by decide +kernel
theorem dL_law_469 : decode cL_law 469 = .ok (.lcmp, 1) := by decide +kernel
theorem dL_law_470 : decode cL_law 470 = .ok (.ifCond .eq 5, 3) := by decide +kernel
theorem dL_law_473 : decode cL_law 473 = .ok (.iconst 0, 1) := by decide +kernel
theorem dL_law_474 : decode cL_law 474 = .ok (.ireturn, 1) := by decide +kernel
theorem dL_law_475 : decode cL_law 475 = .ok (.goto 705, 3) := by decide +kernel
theorem dL_law_478 : decode cL_law 478 = .ok (.aload_n 1, 1) := by decide +kernel
theorem dL_law_479 : decode cL_law 479 = .ok (.aload_n 0, 1) := by decide +kernel
theorem dL_law_480 : decode cL_law 480 = .ok (.iload 4, 2) := by decide +kernel
theorem dL_law_482 : decode cL_law 482 = .ok (.iconst 1, 1) := by decide +kernel
theorem dL_law_483 : decode cL_law 483 = .ok (.iadd, 1) := by decide +kernel
theorem dL_law_484 : decode cL_law 484 = .ok (.iaload, 1) := by decide +kernel
theorem dL_law_485 : decode cL_law 485 = .ok (.aload_n 0, 1) := by decide +kernel
theorem dL_law_486 : decode cL_law 486 = .ok (.iload 4, 2) := by decide +kernel
theorem dL_law_488 : decode cL_law 488 = .ok (.iconst 2, 1) := by decide +kernel
theorem dL_law_489 : decode cL_law 489 = .ok (.iadd, 1) := by decide +kernel
theorem dL_law_490 : decode cL_law 490 = .ok (.iaload, 1) := by decide +kernel
theorem dL_law_491 : decode cL_law 491 = .ok (.aload_n 3, 1) := by decide +kernel
theorem dL_law_492 : decode cL_law 492 = .ok (.invokestatic 95, 3) := by decide +kernel
theorem dL_law_495 : decode cL_law 495 = .ok (.istore 5, 2) := by decide +kernel
theorem dL_law_497 : decode cL_law 497 = .ok (.aload_n 2, 1) := by decide +kernel
theorem dL_law_498 : decode cL_law 498 = .ok (.aload_n 0, 1) := by decide +kernel
theorem dL_law_499 : decode cL_law 499 = .ok (.iload 4, 2) := by decide +kernel
theorem dL_law_501 : decode cL_law 501 = .ok (.iconst 1, 1) := by decide +kernel
theorem dL_law_502 : decode cL_law 502 = .ok (.iadd, 1) := by decide +kernel
theorem dL_law_503 : decode cL_law 503 = .ok (.iaload, 1) := by decide +kernel
theorem dL_law_504 : decode cL_law 504 = .ok (.aload_n 0, 1) := by decide +kernel
theorem dL_law_505 : decode cL_law 505 = .ok (.iload 4, 2) := by decide +kernel
theorem dL_law_507 : decode cL_law 507 = .ok (.iconst 2, 1) := by decide +kernel
theorem dL_law_508 : decode cL_law 508 = .ok (.iadd, 1) := by decide +kernel
theorem dL_law_509 : decode cL_law 509 = .ok (.iaload, 1) := by decide +kernel
theorem dL_law_510 : decode cL_law 510 = .ok (.invokevirtual 98, 3) := by decide +kernel
theorem dL_law_513 : decode cL_law 513 = .ok (.istore 6, 2) := by decide +kernel
theorem dL_law_515 : decode cL_law 515 = .ok (.aload_n 2, 1) := by decide +kernel
theorem dL_law_516 : decode cL_law 516 = .ok (.invokevirtual 77, 3) := by decide +kernel
theorem dL_law_519 : decode cL_law 519 = .ok (.iload 5, 2) := by decide +kernel
theorem dL_law_521 : decode cL_law 521 = .ok (.if_icmp .eq 5, 3) := by decide +kernel
theorem dL_law_524 : decode cL_law 524 = .ok (.iconst 0, 1) := by decide +kernel
theorem dL_law_525 : decode cL_law 525 = .ok (.ireturn, 1) := by decide +kernel
theorem dL_law_526 : decode cL_law 526 = .ok (.iload 5, 2) := by decide +kernel
theorem dL_law_528 : decode cL_law 528 = .ok (.ifCond .ne 15, 3) := by decide +kernel
theorem dL_law_531 : decode cL_law 531 = .ok (.aload_n 3, 1) := by decide +kernel
theorem dL_law_532 : decode cL_law 532 = .ok (.iconst 0, 1) := by decide +kernel
theorem dL_law_533 : decode cL_law 533 = .ok (.laload, 1) := by decide +kernel
theorem dL_law_534 : decode cL_law 534 = .ok (.iload 6, 2) := by decide +kernel
theorem dL_law_536 : decode cL_law 536 = .ok (.i2l, 1) := by decide +kernel
theorem dL_law_537 : decode cL_law 537 = .ok (.lcmp, 1) := by decide +kernel
theorem dL_law_538 : decode cL_law 538 = .ok (.ifCond .eq 5, 3) := by decide +kernel
theorem dL_law_541 : decode cL_law 541 = .ok (.iconst 0, 1) := by decide +kernel
theorem dL_law_542 : decode cL_law 542 = .ok (.ireturn, 1) := by decide +kernel
theorem dL_law_543 : decode cL_law 543 = .ok (.goto 637, 3) := by decide +kernel
theorem dL_law_546 : decode cL_law 546 = .ok (.aload_n 1, 1) := by decide +kernel
theorem dL_law_547 : decode cL_law 547 = .ok (.aload_n 0, 1) := by decide +kernel
theorem dL_law_548 : decode cL_law 548 = .ok (.iload 4, 2) := by decide +kernel
theorem dL_law_550 : decode cL_law 550 = .ok (.iconst 1, 1) := by decide +kernel
theorem dL_law_551 : decode cL_law 551 = .ok (.iadd, 1) := by decide +kernel
theorem dL_law_552 : decode cL_law 552 = .ok (.iaload, 1) := by decide +kernel
theorem dL_law_553 : decode cL_law 553 = .ok (.aload_n 0, 1) := by decide +kernel
theorem dL_law_554 : decode cL_law 554 = .ok (.iload 4, 2) := by decide +kernel
theorem dL_law_556 : decode cL_law 556 = .ok (.iconst 2, 1) := by decide +kernel
theorem dL_law_557 : decode cL_law 557 = .ok (.iadd, 1) := by decide +kernel
theorem dL_law_558 : decode cL_law 558 = .ok (.iaload, 1) := by decide +kernel
theorem dL_law_559 : decode cL_law 559 = .ok (.aload_n 3, 1) := by decide +kernel
theorem dL_law_560 : decode cL_law 560 = .ok (.invokestatic 99, 3) := by decide +kernel
theorem dL_law_563 : decode cL_law 563 = .ok (.istore 5, 2) := by decide +kernel
theorem dL_law_565 : decode cL_law 565 = .ok (.aload_n 2, 1) := by decide +kernel
theorem dL_law_566 : decode cL_law 566 = .ok (.aload_n 0, 1) := by decide +kernel
theorem dL_law_567 : decode cL_law 567 = .ok (.iload 4, 2) := by decide +kernel
theorem dL_law_569 : decode cL_law 569 = .ok (.iconst 1, 1) := by decide +kernel
theorem dL_law_570 : decode cL_law 570 = .ok (.iadd, 1) := by decide +kernel
theorem dL_law_571 : decode cL_law 571 = .ok (.iaload, 1) := by decide +kernel
theorem dL_law_572 : decode cL_law 572 = .ok (.aload_n 0, 1) := by decide +kernel
theorem dL_law_573 : decode cL_law 573 = .ok (.iload 4, 2) := by decide +kernel
theorem dL_law_575 : decode cL_law 575 = .ok (.iconst 2, 1) := by decide +kernel
theorem dL_law_576 : decode cL_law 576 = .ok (.iadd, 1) := by decide +kernel
theorem dL_law_577 : decode cL_law 577 = .ok (.iaload, 1) := by decide +kernel
theorem dL_law_578 : decode cL_law 578 = .ok (.invokevirtual 101, 3) := by decide +kernel
theorem dL_law_581 : decode cL_law 581 = .ok (.istore 6, 2) := by decide +kernel
theorem dL_law_583 : decode cL_law 583 = .ok (.aload_n 2, 1) := by decide +kernel
theorem dL_law_584 : decode cL_law 584 = .ok (.invokevirtual 77, 3) := by decide +kernel
theorem dL_law_587 : decode cL_law 587 = .ok (.iload 5, 2) := by decide +kernel
theorem dL_law_589 : decode cL_law 589 = .ok (.if_icmp .eq 5, 3) := by decide +kernel
theorem dL_law_592 : decode cL_law 592 = .ok (.iconst 0, 1) := by decide +kernel
theorem dL_law_593 : decode cL_law 593 = .ok (.ireturn, 1) := by decide +kernel
theorem dL_law_594 : decode cL_law 594 = .ok (.iload 5, 2) := by decide +kernel
theorem dL_law_596 : decode cL_law 596 = .ok (.ifCond .ne 15, 3) := by decide +kernel
theorem dL_law_599 : decode cL_law 599 = .ok (.aload_n 3, 1) := by decide +kernel
theorem dL_law_600 : decode cL_law 600 = .ok (.iconst 0, 1) := by decide +kernel
theorem dL_law_601 : decode cL_law 601 = .ok (.laload, 1) := by decide +kernel
theorem dL_law_602 : decode cL_law 602 = .ok (.iload 6, 2) := by decide +kernel
theorem dL_law_604 : decode cL_law 604 = .ok (.i2l, 1) := by decide +kernel
theorem dL_law_605 : decode cL_law 605 = .ok (.lcmp, 1) := by decide +kernel
theorem dL_law_606 : decode cL_law 606 = .ok (.ifCond .eq 5, 3) := by decide +kernel
theorem dL_law_609 : decode cL_law 609 = .ok (.iconst 0, 1) := by decide +kernel
theorem dL_law_610 : decode cL_law 610 = .ok (.ireturn, 1) := by decide +kernel
theorem dL_law_611 : decode cL_law 611 = .ok (.goto 569, 3) := by decide +kernel
theorem dL_law_614 : decode cL_law 614 = .ok (.aload_n 1, 1) := by decide +kernel
theorem dL_law_615 : decode cL_law 615 = .ok (.aload_n 0, 1) := by decide +kernel
theorem dL_law_616 : decode cL_law 616 = .ok (.iload 4, 2) := by decide +kernel
theorem dL_law_618 : decode cL_law 618 = .ok (.iconst 1, 1) := by decide +kernel
theorem dL_law_619 : decode cL_law 619 = .ok (.iadd, 1) := by decide +kernel
theorem dL_law_620 : decode cL_law 620 = .ok (.iaload, 1) := by decide +kernel
theorem dL_law_621 : decode cL_law 621 = .ok (.aload_n 0, 1) := by decide +kernel
theorem dL_law_622 : decode cL_law 622 = .ok (.iload 4, 2) := by decide +kernel
theorem dL_law_624 : decode cL_law 624 = .ok (.iconst 2, 1) := by decide +kernel
theorem dL_law_625 : decode cL_law 625 = .ok (.iadd, 1) := by decide +kernel
theorem dL_law_626 : decode cL_law 626 = .ok (.iaload, 1) := by decide +kernel
theorem dL_law_627 : decode cL_law 627 = .ok (.aload_n 0, 1) := by decide +kernel
theorem dL_law_628 : decode cL_law 628 = .ok (.iload 4, 2) := by decide +kernel
theorem dL_law_630 : decode cL_law 630 = .ok (.iconst 3, 1) := by decide +kernel
theorem dL_law_631 : decode cL_law 631 = .ok (.iadd, 1) := by decide +kernel
theorem dL_law_632 : decode cL_law 632 = .ok (.iaload, 1) := by decide +kernel
theorem dL_law_633 : decode cL_law 633 = .ok (.ifCond .eq 7, 3) := by decide +kernel
theorem dL_law_636 : decode cL_law 636 = .ok (.iconst 1, 1) := by decide +kernel
theorem dL_law_637 : decode cL_law 637 = .ok (.goto 4, 3) := by decide +kernel
theorem dL_law_640 : decode cL_law 640 = .ok (.iconst 0, 1) := by decide +kernel
theorem dL_law_641 : decode cL_law 641 = .ok (.aload_n 3, 1) := by decide +kernel
theorem dL_law_642 : decode cL_law 642 = .ok (.invokestatic 102, 3) := by decide +kernel
theorem dL_law_645 : decode cL_law 645 = .ok (.istore 5, 2) := by decide +kernel
theorem dL_law_647 : decode cL_law 647 = .ok (.aload_n 2, 1) := by decide +kernel
theorem dL_law_648 : decode cL_law 648 = .ok (.aload_n 0, 1) := by decide +kernel
theorem dL_law_649 : decode cL_law 649 = .ok (.iload 4, 2) := by decide +kernel
theorem dL_law_651 : decode cL_law 651 = .ok (.iconst 1, 1) := by decide +kernel
theorem dL_law_652 : decode cL_law 652 = .ok (.iadd, 1) := by decide +kernel
theorem dL_law_653 : decode cL_law 653 = .ok (.iaload, 1) := by decide +kernel
theorem dL_law_654 : decode cL_law 654 = .ok (.aload_n 0, 1) := by decide +kernel
theorem dL_law_655 : decode cL_law 655 = .ok (.iload 4, 2) := by decide +kernel
theorem dL_law_657 : decode cL_law 657 = .ok (.iconst 2, 1) := by decide +kernel
theorem dL_law_658 : decode cL_law 658 = .ok (.iadd, 1) := by decide +kernel
theorem dL_law_659 : decode cL_law 659 = .ok (.iaload, 1) := by decide +kernel
theorem dL_law_660 : decode cL_law 660 = .ok (.aload_n 0, 1) := by decide +kernel
theorem dL_law_661 : decode cL_law 661 = .ok (.iload 4, 2) := by decide +kernel
theorem dL_law_663 : decode cL_law 663 = .ok (.iconst 3, 1) := by decide +kernel
theorem dL_law_664 : decode cL_law 664 = .ok (.iadd, 1) := by decide +kernel
theorem dL_law_665 : decode cL_law 665 = .ok (.iaload, 1) := by decide +kernel
theorem dL_law_666 : decode cL_law 666 = .ok (.ifCond .eq 7, 3) := by decide +kernel
theorem dL_law_669 : decode cL_law 669 = .ok (.iconst 1, 1) := by decide +kernel
theorem dL_law_670 : decode cL_law 670 = .ok (.goto 4, 3) := by decide +kernel
theorem dL_law_673 : decode cL_law 673 = .ok (.iconst 0, 1) := by decide +kernel
theorem dL_law_674 : decode cL_law 674 = .ok (.invokevirtual 105, 3) := by decide +kernel
theorem dL_law_677 : decode cL_law 677 = .ok (.istore 6, 2) := by decide +kernel
theorem dL_law_679 : decode cL_law 679 = .ok (.aload_n 2, 1) := by decide +kernel
theorem dL_law_680 : decode cL_law 680 = .ok (.invokevirtual 77, 3) := by decide +kernel
theorem dL_law_683 : decode cL_law 683 = .ok (.iload 5, 2) := by decide +kernel
theorem dL_law_685 : decode cL_law 685 = .ok (.if_icmp .eq 5, 3) := by decide +kernel
theorem dL_law_688 : decode cL_law 688 = .ok (.iconst 0, 1) := by decide +kernel
theorem dL_law_689 : decode cL_law 689 = .ok (.ireturn, 1) := by decide +kernel
theorem dL_law_690 : decode cL_law 690 = .ok (.iload 5, 2) := by decide +kernel
theorem dL_law_692 : decode cL_law 692 = .ok (.ifCond .ne 22, 3) := by decide +kernel
theorem dL_law_695 : decode cL_law 695 = .ok (.aload_n 3, 1) := by decide +kernel
theorem dL_law_696 : decode cL_law 696 = .ok (.iconst 0, 1) := by decide +kernel
theorem dL_law_697 : decode cL_law 697 = .ok (.laload, 1) := by decide +kernel
theorem dL_law_698 : decode cL_law 698 = .ok (.iload 6, 2) := by decide +kernel
theorem dL_law_700 : decode cL_law 700 = .ok (.ifCond .eq 7, 3) := by decide +kernel
theorem dL_law_703 : decode cL_law 703 = .ok (.lconst 1, 1) := by decide +kernel
theorem dL_law_704 : decode cL_law 704 = .ok (.goto 4, 3) := by decide +kernel
theorem dL_law_707 : decode cL_law 707 = .ok (.lconst 0, 1) := by decide +kernel
theorem dL_law_708 : decode cL_law 708 = .ok (.lcmp, 1) := by decide +kernel
theorem dL_law_709 : decode cL_law 709 = .ok (.ifCond .eq 5, 3) := by decide +kernel
theorem dL_law_712 : decode cL_law 712 = .ok (.iconst 0, 1) := by decide +kernel
theorem dL_law_713 : decode cL_law 713 = .ok (.ireturn, 1) := by decide +kernel
theorem dL_law_714 : decode cL_law 714 = .ok (.goto 466, 3) := by decide +kernel
theorem dL_law_717 : decode cL_law 717 = .ok (.aload_n 1, 1) := by decide +kernel
theorem dL_law_718 : decode cL_law 718 = .ok (.aload_n 0, 1) := by decide +kernel
theorem dL_law_719 : decode cL_law 719 = .ok (.iload 4, 2) := by decide +kernel
theorem dL_law_721 : decode cL_law 721 = .ok (.iconst 1, 1) := by decide +kernel
theorem dL_law_722 : decode cL_law 722 = .ok (.iadd, 1) := by decide +kernel
theorem dL_law_723 : decode cL_law 723 = .ok (.iaload, 1) := by decide +kernel
theorem dL_law_724 : decode cL_law 724 = .ok (.aload_n 0, 1) := by decide +kernel
theorem dL_law_725 : decode cL_law 725 = .ok (.iload 4, 2) := by decide +kernel
theorem dL_law_727 : decode cL_law 727 = .ok (.iconst 2, 1) := by decide +kernel
theorem dL_law_728 : decode cL_law 728 = .ok (.iadd, 1) := by decide +kernel
theorem dL_law_729 : decode cL_law 729 = .ok (.iaload, 1) := by decide +kernel
theorem dL_law_730 : decode cL_law 730 = .ok (.aload_n 3, 1) := by decide +kernel
theorem dL_law_731 : decode cL_law 731 = .ok (.invokestatic 106, 3) := by decide +kernel
theorem dL_law_734 : decode cL_law 734 = .ok (.istore 5, 2) := by decide +kernel
theorem dL_law_736 : decode cL_law 736 = .ok (.aload_n 2, 1) := by decide +kernel
theorem dL_law_737 : decode cL_law 737 = .ok (.aload_n 0, 1) := by decide +kernel
theorem dL_law_738 : decode cL_law 738 = .ok (.iload 4, 2) := by decide +kernel
theorem dL_law_740 : decode cL_law 740 = .ok (.iconst 1, 1) := by decide +kernel
theorem dL_law_741 : decode cL_law 741 = .ok (.iadd, 1) := by decide +kernel
theorem dL_law_742 : decode cL_law 742 = .ok (.iaload, 1) := by decide +kernel
theorem dL_law_743 : decode cL_law 743 = .ok (.aload_n 0, 1) := by decide +kernel
theorem dL_law_744 : decode cL_law 744 = .ok (.iload 4, 2) := by decide +kernel
theorem dL_law_746 : decode cL_law 746 = .ok (.iconst 2, 1) := by decide +kernel
theorem dL_law_747 : decode cL_law 747 = .ok (.iadd, 1) := by decide +kernel
theorem dL_law_748 : decode cL_law 748 = .ok (.iaload, 1) := by decide +kernel
theorem dL_law_749 : decode cL_law 749 = .ok (.invokevirtual 108, 3) := by decide +kernel
theorem dL_law_752 : decode cL_law 752 = .ok (.istore 6, 2) := by decide +kernel
theorem dL_law_754 : decode cL_law 754 = .ok (.aload_n 2, 1) := by decide +kernel
theorem dL_law_755 : decode cL_law 755 = .ok (.invokevirtual 77, 3) := by decide +kernel
theorem dL_law_758 : decode cL_law 758 = .ok (.iload 5, 2) := by decide +kernel
theorem dL_law_760 : decode cL_law 760 = .ok (.if_icmp .eq 5, 3) := by decide +kernel
theorem dL_law_763 : decode cL_law 763 = .ok (.iconst 0, 1) := by decide +kernel
theorem dL_law_764 : decode cL_law 764 = .ok (.ireturn, 1) := by decide +kernel
theorem dL_law_765 : decode cL_law 765 = .ok (.iload 5, 2) := by decide +kernel
theorem dL_law_767 : decode cL_law 767 = .ok (.ifCond .ne 15, 3) := by decide +kernel
theorem dL_law_770 : decode cL_law 770 = .ok (.aload_n 3, 1) := by decide +kernel
theorem dL_law_771 : decode cL_law 771 = .ok (.iconst 0, 1) := by decide +kernel
theorem dL_law_772 : decode cL_law 772 = .ok (.laload, 1) := by decide +kernel
theorem dL_law_773 : decode cL_law 773 = .ok (.iload 6, 2) := by decide +kernel
theorem dL_law_775 : decode cL_law 775 = .ok (.i2l, 1) := by decide +kernel
theorem dL_law_776 : decode cL_law 776 = .ok (.lcmp, 1) := by decide +kernel
theorem dL_law_777 : decode cL_law 777 = .ok (.ifCond .eq 5, 3) := by decide +kernel
theorem dL_law_780 : decode cL_law 780 = .ok (.iconst 0, 1) := by decide +kernel
theorem dL_law_781 : decode cL_law 781 = .ok (.ireturn, 1) := by decide +kernel
theorem dL_law_782 : decode cL_law 782 = .ok (.goto 398, 3) := by decide +kernel
theorem dL_law_785 : decode cL_law 785 = .ok (.aload_n 1, 1) := by decide +kernel
theorem dL_law_786 : decode cL_law 786 = .ok (.aload_n 0, 1) := by decide +kernel
theorem dL_law_787 : decode cL_law 787 = .ok (.iload 4, 2) := by decide +kernel
theorem dL_law_789 : decode cL_law 789 = .ok (.iconst 1, 1) := by decide +kernel
theorem dL_law_790 : decode cL_law 790 = .ok (.iadd, 1) := by decide +kernel
theorem dL_law_791 : decode cL_law 791 = .ok (.iaload, 1) := by decide +kernel
theorem dL_law_792 : decode cL_law 792 = .ok (.aload_n 0, 1) := by decide +kernel
theorem dL_law_793 : decode cL_law 793 = .ok (.iload 4, 2) := by decide +kernel
theorem dL_law_795 : decode cL_law 795 = .ok (.iconst 2, 1) := by decide +kernel
theorem dL_law_796 : decode cL_law 796 = .ok (.iadd, 1) := by decide +kernel
theorem dL_law_797 : decode cL_law 797 = .ok (.iaload, 1) := by decide +kernel
theorem dL_law_798 : decode cL_law 798 = .ok (.aload_n 0, 1) := by decide +kernel
theorem dL_law_799 : decode cL_law 799 = .ok (.iload 4, 2) := by decide +kernel
theorem dL_law_801 : decode cL_law 801 = .ok (.iconst 3, 1) := by decide +kernel
theorem dL_law_802 : decode cL_law 802 = .ok (.iadd, 1) := by decide +kernel
theorem dL_law_803 : decode cL_law 803 = .ok (.iaload, 1) := by decide +kernel
theorem dL_law_804 : decode cL_law 804 = .ok (.aload_n 3, 1) := by decide +kernel
theorem dL_law_805 : decode cL_law 805 = .ok (.invokestatic 109, 3) := by decide +kernel
theorem dL_law_808 : decode cL_law 808 = .ok (.istore 5, 2) := by decide +kernel
theorem dL_law_810 : decode cL_law 810 = .ok (.aload_n 2, 1) := by decide +kernel
theorem dL_law_811 : decode cL_law 811 = .ok (.aload_n 0, 1) := by decide +kernel
theorem dL_law_812 : decode cL_law 812 = .ok (.iload 4, 2) := by decide +kernel
theorem dL_law_814 : decode cL_law 814 = .ok (.iconst 1, 1) := by decide +kernel
theorem dL_law_815 : decode cL_law 815 = .ok (.iadd, 1) := by decide +kernel
theorem dL_law_816 : decode cL_law 816 = .ok (.iaload, 1) := by decide +kernel
theorem dL_law_817 : decode cL_law 817 = .ok (.aload_n 0, 1) := by decide +kernel
theorem dL_law_818 : decode cL_law 818 = .ok (.iload 4, 2) := by decide +kernel
theorem dL_law_820 : decode cL_law 820 = .ok (.iconst 2, 1) := by decide +kernel
theorem dL_law_821 : decode cL_law 821 = .ok (.iadd, 1) := by decide +kernel
theorem dL_law_822 : decode cL_law 822 = .ok (.iaload, 1) := by decide +kernel
theorem dL_law_823 : decode cL_law 823 = .ok (.aload_n 0, 1) := by decide +kernel
theorem dL_law_824 : decode cL_law 824 = .ok (.iload 4, 2) := by decide +kernel
theorem dL_law_826 : decode cL_law 826 = .ok (.iconst 3, 1) := by decide +kernel
theorem dL_law_827 : decode cL_law 827 = .ok (.iadd, 1) := by decide +kernel
theorem dL_law_828 : decode cL_law 828 = .ok (.iaload, 1) := by decide +kernel
theorem dL_law_829 : decode cL_law 829 = .ok (.invokevirtual 111, 3) := by decide +kernel
theorem dL_law_832 : decode cL_law 832 = .ok (.istore 6, 2) := by decide +kernel
theorem dL_law_834 : decode cL_law 834 = .ok (.aload_n 2, 1) := by decide +kernel
theorem dL_law_835 : decode cL_law 835 = .ok (.invokevirtual 77, 3) := by decide +kernel
theorem dL_law_838 : decode cL_law 838 = .ok (.iload 5, 2) := by decide +kernel
theorem dL_law_840 : decode cL_law 840 = .ok (.if_icmp .eq 5, 3) := by decide +kernel
theorem dL_law_843 : decode cL_law 843 = .ok (.iconst 0, 1) := by decide +kernel
theorem dL_law_844 : decode cL_law 844 = .ok (.ireturn, 1) := by decide +kernel
theorem dL_law_845 : decode cL_law 845 = .ok (.iload 5, 2) := by decide +kernel
theorem dL_law_847 : decode cL_law 847 = .ok (.ifCond .ne 15, 3) := by decide +kernel
theorem dL_law_850 : decode cL_law 850 = .ok (.aload_n 3, 1) := by decide +kernel
theorem dL_law_851 : decode cL_law 851 = .ok (.iconst 0, 1) := by decide +kernel
theorem dL_law_852 : decode cL_law 852 = .ok (.laload, 1) := by decide +kernel
theorem dL_law_853 : decode cL_law 853 = .ok (.iload 6, 2) := by decide +kernel
theorem dL_law_855 : decode cL_law 855 = .ok (.i2l, 1) := by decide +kernel
theorem dL_law_856 : decode cL_law 856 = .ok (.lcmp, 1) := by decide +kernel
theorem dL_law_857 : decode cL_law 857 = .ok (.ifCond .eq 5, 3) := by decide +kernel
theorem dL_law_860 : decode cL_law 860 = .ok (.iconst 0, 1) := by decide +kernel
theorem dL_law_861 : decode cL_law 861 = .ok (.ireturn, 1) := by decide +kernel
theorem dL_law_862 : decode cL_law 862 = .ok (.goto 318, 3) := by decide +kernel
theorem dL_law_865 : decode cL_law 865 = .ok (.aload_n 1, 1) := by decide +kernel
theorem dL_law_866 : decode cL_law 866 = .ok (.aload_n 0, 1) := by decide +kernel
theorem dL_law_867 : decode cL_law 867 = .ok (.iload 4, 2) := by decide +kernel
theorem dL_law_869 : decode cL_law 869 = .ok (.iconst 1, 1) := by decide +kernel
theorem dL_law_870 : decode cL_law 870 = .ok (.iadd, 1) := by decide +kernel
theorem dL_law_871 : decode cL_law 871 = .ok (.iaload, 1) := by decide +kernel
theorem dL_law_872 : decode cL_law 872 = .ok (.aload_n 0, 1) := by decide +kernel
theorem dL_law_873 : decode cL_law 873 = .ok (.iload 4, 2) := by decide +kernel
theorem dL_law_875 : decode cL_law 875 = .ok (.iconst 2, 1) := by decide +kernel
theorem dL_law_876 : decode cL_law 876 = .ok (.iadd, 1) := by decide +kernel
theorem dL_law_877 : decode cL_law 877 = .ok (.iaload, 1) := by decide +kernel
theorem dL_law_878 : decode cL_law 878 = .ok (.aload_n 3, 1) := by decide +kernel
theorem dL_law_879 : decode cL_law 879 = .ok (.invokestatic 112, 3) := by decide +kernel
theorem dL_law_882 : decode cL_law 882 = .ok (.istore 5, 2) := by decide +kernel
theorem dL_law_884 : decode cL_law 884 = .ok (.aload_n 2, 1) := by decide +kernel
theorem dL_law_885 : decode cL_law 885 = .ok (.aload_n 0, 1) := by decide +kernel
theorem dL_law_886 : decode cL_law 886 = .ok (.iload 4, 2) := by decide +kernel
theorem dL_law_888 : decode cL_law 888 = .ok (.iconst 1, 1) := by decide +kernel
theorem dL_law_889 : decode cL_law 889 = .ok (.iadd, 1) := by decide +kernel
theorem dL_law_890 : decode cL_law 890 = .ok (.iaload, 1) := by decide +kernel
theorem dL_law_891 : decode cL_law 891 = .ok (.aload_n 0, 1) := by decide +kernel
theorem dL_law_892 : decode cL_law 892 = .ok (.iload 4, 2) := by decide +kernel
theorem dL_law_894 : decode cL_law 894 = .ok (.iconst 2, 1) := by decide +kernel
theorem dL_law_895 : decode cL_law 895 = .ok (.iadd, 1) := by decide +kernel
theorem dL_law_896 : decode cL_law 896 = .ok (.iaload, 1) := by decide +kernel
theorem dL_law_897 : decode cL_law 897 = .ok (.invokevirtual 114, 3) := by decide +kernel
theorem dL_law_900 : decode cL_law 900 = .ok (.lstore 6, 2) := by decide +kernel
theorem dL_law_902 : decode cL_law 902 = .ok (.aload_n 2, 1) := by decide +kernel
theorem dL_law_903 : decode cL_law 903 = .ok (.invokevirtual 77, 3) := by decide +kernel
theorem dL_law_906 : decode cL_law 906 = .ok (.iload 5, 2) := by decide +kernel
theorem dL_law_908 : decode cL_law 908 = .ok (.if_icmp .eq 5, 3) := by decide +kernel
theorem dL_law_911 : decode cL_law 911 = .ok (.iconst 0, 1) := by decide +kernel
theorem dL_law_912 : decode cL_law 912 = .ok (.ireturn, 1) := by decide +kernel
theorem dL_law_913 : decode cL_law 913 = .ok (.iload 5, 2) := by decide +kernel
theorem dL_law_915 : decode cL_law 915 = .ok (.ifCond .ne 14, 3) := by decide +kernel
theorem dL_law_918 : decode cL_law 918 = .ok (.aload_n 3, 1) := by decide +kernel
theorem dL_law_919 : decode cL_law 919 = .ok (.iconst 0, 1) := by decide +kernel
theorem dL_law_920 : decode cL_law 920 = .ok (.laload, 1) := by decide +kernel
theorem dL_law_921 : decode cL_law 921 = .ok (.lload 6, 2) := by decide +kernel
theorem dL_law_923 : decode cL_law 923 = .ok (.lcmp, 1) := by decide +kernel
theorem dL_law_924 : decode cL_law 924 = .ok (.ifCond .eq 5, 3) := by decide +kernel
theorem dL_law_927 : decode cL_law 927 = .ok (.iconst 0, 1) := by decide +kernel
theorem dL_law_928 : decode cL_law 928 = .ok (.ireturn, 1) := by decide +kernel
theorem dL_law_929 : decode cL_law 929 = .ok (.goto 251, 3) := by decide +kernel
theorem dL_law_932 : decode cL_law 932 = .ok (.aload_n 1, 1) := by decide +kernel
theorem dL_law_933 : decode cL_law 933 = .ok (.aload_n 0, 1) := by decide +kernel
theorem dL_law_934 : decode cL_law 934 = .ok (.iload 4, 2) := by decide +kernel
theorem dL_law_936 : decode cL_law 936 = .ok (.iconst 1, 1) := by decide +kernel
theorem dL_law_937 : decode cL_law 937 = .ok (.iadd, 1) := by decide +kernel
theorem dL_law_938 : decode cL_law 938 = .ok (.iaload, 1) := by decide +kernel
theorem dL_law_939 : decode cL_law 939 = .ok (.aload_n 3, 1) := by decide +kernel
theorem dL_law_940 : decode cL_law 940 = .ok (.invokestatic 115, 3) := by decide +kernel
theorem dL_law_943 : decode cL_law 943 = .ok (.istore 5, 2) := by decide +kernel
theorem dL_law_945 : decode cL_law 945 = .ok (.aload_n 2, 1) := by decide +kernel
theorem dL_law_946 : decode cL_law 946 = .ok (.aload_n 0, 1) := by decide +kernel
theorem dL_law_947 : decode cL_law 947 = .ok (.iload 4, 2) := by decide +kernel
theorem dL_law_949 : decode cL_law 949 = .ok (.iconst 1, 1) := by decide +kernel
theorem dL_law_950 : decode cL_law 950 = .ok (.iadd, 1) := by decide +kernel
theorem dL_law_951 : decode cL_law 951 = .ok (.iaload, 1) := by decide +kernel
theorem dL_law_952 : decode cL_law 952 = .ok (.invokevirtual 118, 3) := by decide +kernel
theorem dL_law_955 : decode cL_law 955 = .ok (.istore 6, 2) := by decide +kernel
theorem dL_law_957 : decode cL_law 957 = .ok (.aload_n 2, 1) := by decide +kernel
theorem dL_law_958 : decode cL_law 958 = .ok (.invokevirtual 77, 3) := by decide +kernel
theorem dL_law_961 : decode cL_law 961 = .ok (.iload 5, 2) := by decide +kernel
theorem dL_law_963 : decode cL_law 963 = .ok (.if_icmp .eq 5, 3) := by decide +kernel
theorem dL_law_966 : decode cL_law 966 = .ok (.iconst 0, 1) := by decide +kernel
theorem dL_law_967 : decode cL_law 967 = .ok (.ireturn, 1) := by decide +kernel
theorem dL_law_968 : decode cL_law 968 = .ok (.iload 5, 2) := by decide +kernel
theorem dL_law_970 : decode cL_law 970 = .ok (.ifCond .ne 15, 3) := by decide +kernel
theorem dL_law_973 : decode cL_law 973 = .ok (.aload_n 3, 1) := by decide +kernel
theorem dL_law_974 : decode cL_law 974 = .ok (.iconst 0, 1) := by decide +kernel
theorem dL_law_975 : decode cL_law 975 = .ok (.laload, 1) := by decide +kernel
theorem dL_law_976 : decode cL_law 976 = .ok (.iload 6, 2) := by decide +kernel
theorem dL_law_978 : decode cL_law 978 = .ok (.i2l, 1) := by decide +kernel
theorem dL_law_979 : decode cL_law 979 = .ok (.lcmp, 1) := by decide +kernel
theorem dL_law_980 : decode cL_law 980 = .ok (.ifCond .eq 5, 3) := by decide +kernel
theorem dL_law_983 : decode cL_law 983 = .ok (.iconst 0, 1) := by decide +kernel
theorem dL_law_984 : decode cL_law 984 = .ok (.ireturn, 1) := by decide +kernel
theorem dL_law_985 : decode cL_law 985 = .ok (.goto 195, 3) := by decide +kernel
theorem dL_law_988 : decode cL_law 988 = .ok (.aload_n 1, 1) := by decide +kernel
theorem dL_law_989 : decode cL_law 989 = .ok (.aload_n 0, 1) := by decide +kernel
theorem dL_law_990 : decode cL_law 990 = .ok (.iload 4, 2) := by decide +kernel
theorem dL_law_992 : decode cL_law 992 = .ok (.iconst 1, 1) := by decide +kernel
theorem dL_law_993 : decode cL_law 993 = .ok (.iadd, 1) := by decide +kernel
theorem dL_law_994 : decode cL_law 994 = .ok (.iaload, 1) := by decide +kernel
theorem dL_law_995 : decode cL_law 995 = .ok (.aload_n 0, 1) := by decide +kernel
theorem dL_law_996 : decode cL_law 996 = .ok (.iload 4, 2) := by decide +kernel
theorem dL_law_998 : decode cL_law 998 = .ok (.iconst 2, 1) := by decide +kernel
theorem dL_law_999 : decode cL_law 999 = .ok (.iadd, 1) := by decide +kernel
theorem dL_law_1000 : decode cL_law 1000 = .ok (.iaload, 1) := by decide +kernel
theorem dL_law_1001 : decode cL_law 1001 = .ok (.aload_n 3, 1) := by decide +kernel
theorem dL_law_1002 : decode cL_law 1002 = .ok (.invokestatic 119, 3) := by decide +kernel
theorem dL_law_1005 : decode cL_law 1005 = .ok (.istore 5, 2) := by decide +kernel
theorem dL_law_1007 : decode cL_law 1007 = .ok (.aload_n 2, 1) := by decide +kernel
theorem dL_law_1008 : decode cL_law 1008 = .ok (.aload_n 0, 1) := by decide +kernel
theorem dL_law_1009 : decode cL_law 1009 = .ok (.iload 4, 2) := by decide +kernel
theorem dL_law_1011 : decode cL_law 1011 = .ok (.iconst 1, 1) := by decide +kernel
theorem dL_law_1012 : decode cL_law 1012 = .ok (.iadd, 1) := by decide +kernel
theorem dL_law_1013 : decode cL_law 1013 = .ok (.iaload, 1) := by decide +kernel
theorem dL_law_1014 : decode cL_law 1014 = .ok (.aload_n 0, 1) := by decide +kernel
theorem dL_law_1015 : decode cL_law 1015 = .ok (.iload 4, 2) := by decide +kernel
theorem dL_law_1017 : decode cL_law 1017 = .ok (.iconst 2, 1) := by decide +kernel
theorem dL_law_1018 : decode cL_law 1018 = .ok (.iadd, 1) := by decide +kernel
theorem dL_law_1019 : decode cL_law 1019 = .ok (.iaload, 1) := by decide +kernel
theorem dL_law_1020 : decode cL_law 1020 = .ok (.invokevirtual 121, 3) := by decide +kernel
theorem dL_law_1023 : decode cL_law 1023 = .ok (.istore 6, 2) := by decide +kernel
theorem dL_law_1025 : decode cL_law 1025 = .ok (.aload_n 2, 1) := by decide +kernel
theorem dL_law_1026 : decode cL_law 1026 = .ok (.invokevirtual 77, 3) := by decide +kernel
theorem dL_law_1029 : decode cL_law 1029 = .ok (.iload 5, 2) := by decide +kernel
theorem dL_law_1031 : decode cL_law 1031 = .ok (.if_icmp .eq 5, 3) := by decide +kernel
theorem dL_law_1034 : decode cL_law 1034 = .ok (.iconst 0, 1) := by decide +kernel
theorem dL_law_1035 : decode cL_law 1035 = .ok (.ireturn, 1) := by decide +kernel
theorem dL_law_1036 : decode cL_law 1036 = .ok (.iload 5, 2) := by decide +kernel
theorem dL_law_1038 : decode cL_law 1038 = .ok (.ifCond .ne 15, 3) := by decide +kernel
theorem dL_law_1041 : decode cL_law 1041 = .ok (.aload_n 3, 1) := by decide +kernel
theorem dL_law_1042 : decode cL_law 1042 = .ok (.iconst 0, 1) := by decide +kernel
theorem dL_law_1043 : decode cL_law 1043 = .ok (.laload, 1) := by decide +kernel
theorem dL_law_1044 : decode cL_law 1044 = .ok (.iload 6, 2) := by decide +kernel
theorem dL_law_1046 : decode cL_law 1046 = .ok (.i2l, 1) := by decide +kernel
theorem dL_law_1047 : decode cL_law 1047 = .ok (.lcmp, 1) := by decide +kernel
theorem dL_law_1048 : decode cL_law 1048 = .ok (.ifCond .eq 5, 3) := by decide +kernel
theorem dL_law_1051 : decode cL_law 1051 = .ok (.iconst 0, 1) := by decide +kernel
theorem dL_law_1052 : decode cL_law 1052 = .ok (.ireturn, 1) := by decide +kernel
theorem dL_law_1053 : decode cL_law 1053 = .ok (.goto 127, 3) := by decide +kernel
theorem dL_law_1056 : decode cL_law 1056 = .ok (.aload_n 1, 1) := by decide +kernel
theorem dL_law_1057 : decode cL_law 1057 = .ok (.aload_n 0, 1) := by decide +kernel
theorem dL_law_1058 : decode cL_law 1058 = .ok (.iload 4, 2) := by decide +kernel
theorem dL_law_1060 : decode cL_law 1060 = .ok (.iconst 1, 1) := by decide +kernel
theorem dL_law_1061 : decode cL_law 1061 = .ok (.iadd, 1) := by decide +kernel
theorem dL_law_1062 : decode cL_law 1062 = .ok (.iaload, 1) := by decide +kernel
theorem dL_law_1063 : decode cL_law 1063 = .ok (.aload_n 0, 1) := by decide +kernel
theorem dL_law_1064 : decode cL_law 1064 = .ok (.iload 4, 2) := by decide +kernel
theorem dL_law_1066 : decode cL_law 1066 = .ok (.iconst 2, 1) := by decide +kernel
theorem dL_law_1067 : decode cL_law 1067 = .ok (.iadd, 1) := by decide +kernel
theorem dL_law_1068 : decode cL_law 1068 = .ok (.iaload, 1) := by decide +kernel
theorem dL_law_1069 : decode cL_law 1069 = .ok (.aload_n 3, 1) := by decide +kernel
theorem dL_law_1070 : decode cL_law 1070 = .ok (.invokestatic 122, 3) := by decide +kernel
theorem dL_law_1073 : decode cL_law 1073 = .ok (.istore 5, 2) := by decide +kernel
theorem dL_law_1075 : decode cL_law 1075 = .ok (.aload_n 2, 1) := by decide +kernel
theorem dL_law_1076 : decode cL_law 1076 = .ok (.aload_n 0, 1) := by decide +kernel
theorem dL_law_1077 : decode cL_law 1077 = .ok (.iload 4, 2) := by decide +kernel
theorem dL_law_1079 : decode cL_law 1079 = .ok (.iconst 1, 1) := by decide +kernel
theorem dL_law_1080 : decode cL_law 1080 = .ok (.iadd, 1) := by decide +kernel
theorem dL_law_1081 : decode cL_law 1081 = .ok (.iaload, 1) := by decide +kernel
theorem dL_law_1082 : decode cL_law 1082 = .ok (.aload_n 0, 1) := by decide +kernel
theorem dL_law_1083 : decode cL_law 1083 = .ok (.iload 4, 2) := by decide +kernel
theorem dL_law_1085 : decode cL_law 1085 = .ok (.iconst 2, 1) := by decide +kernel
theorem dL_law_1086 : decode cL_law 1086 = .ok (.iadd, 1) := by decide +kernel
theorem dL_law_1087 : decode cL_law 1087 = .ok (.iaload, 1) := by decide +kernel
theorem dL_law_1088 : decode cL_law 1088 = .ok (.invokevirtual 124, 3) := by decide +kernel
theorem dL_law_1091 : decode cL_law 1091 = .ok (.istore 6, 2) := by decide +kernel
theorem dL_law_1093 : decode cL_law 1093 = .ok (.aload_n 2, 1) := by decide +kernel
theorem dL_law_1094 : decode cL_law 1094 = .ok (.invokevirtual 77, 3) := by decide +kernel
theorem dL_law_1097 : decode cL_law 1097 = .ok (.iload 5, 2) := by decide +kernel
theorem dL_law_1099 : decode cL_law 1099 = .ok (.if_icmp .eq 5, 3) := by decide +kernel
theorem dL_law_1102 : decode cL_law 1102 = .ok (.iconst 0, 1) := by decide +kernel
theorem dL_law_1103 : decode cL_law 1103 = .ok (.ireturn, 1) := by decide +kernel
theorem dL_law_1104 : decode cL_law 1104 = .ok (.iload 5, 2) := by decide +kernel
theorem dL_law_1106 : decode cL_law 1106 = .ok (.ifCond .ne 15, 3) := by decide +kernel
theorem dL_law_1109 : decode cL_law 1109 = .ok (.aload_n 3, 1) := by decide +kernel
theorem dL_law_1110 : decode cL_law 1110 = .ok (.iconst 0, 1) := by decide +kernel
theorem dL_law_1111 : decode cL_law 1111 = .ok (.laload, 1) := by decide +kernel
theorem dL_law_1112 : decode cL_law 1112 = .ok (.iload 6, 2) := by decide +kernel
theorem dL_law_1114 : decode cL_law 1114 = .ok (.i2l, 1) := by decide +kernel
theorem dL_law_1115 : decode cL_law 1115 = .ok (.lcmp, 1) := by decide +kernel
theorem dL_law_1116 : decode cL_law 1116 = .ok (.ifCond .eq 5, 3) := by decide +kernel
theorem dL_law_1119 : decode cL_law 1119 = .ok (.iconst 0, 1) := by decide +kernel
theorem dL_law_1120 : decode cL_law 1120 = .ok (.ireturn, 1) := by decide +kernel
theorem dL_law_1121 : decode cL_law 1121 = .ok (.goto 59, 3) := by decide +kernel
theorem dL_law_1124 : decode cL_law 1124 = .ok (.aload_n 1, 1) := by decide +kernel
theorem dL_law_1125 : decode cL_law 1125 = .ok (.aload_n 0, 1) := by decide +kernel
theorem dL_law_1126 : decode cL_law 1126 = .ok (.iload 4, 2) := by decide +kernel
theorem dL_law_1128 : decode cL_law 1128 = .ok (.iconst 1, 1) := by decide +kernel
theorem dL_law_1129 : decode cL_law 1129 = .ok (.iadd, 1) := by decide +kernel
theorem dL_law_1130 : decode cL_law 1130 = .ok (.iaload, 1) := by decide +kernel
theorem dL_law_1131 : decode cL_law 1131 = .ok (.aload_n 3, 1) := by decide +kernel
theorem dL_law_1132 : decode cL_law 1132 = .ok (.invokestatic 125, 3) := by decide +kernel
theorem dL_law_1135 : decode cL_law 1135 = .ok (.istore 5, 2) := by decide +kernel
theorem dL_law_1137 : decode cL_law 1137 = .ok (.aload_n 2, 1) := by decide +kernel
theorem dL_law_1138 : decode cL_law 1138 = .ok (.aload_n 0, 1) := by decide +kernel
theorem dL_law_1139 : decode cL_law 1139 = .ok (.iload 4, 2) := by decide +kernel
theorem dL_law_1141 : decode cL_law 1141 = .ok (.iconst 1, 1) := by decide +kernel
theorem dL_law_1142 : decode cL_law 1142 = .ok (.iadd, 1) := by decide +kernel
theorem dL_law_1143 : decode cL_law 1143 = .ok (.iaload, 1) := by decide +kernel
theorem dL_law_1144 : decode cL_law 1144 = .ok (.invokevirtual 127, 3) := by decide +kernel
theorem dL_law_1147 : decode cL_law 1147 = .ok (.istore 6, 2) := by decide +kernel
theorem dL_law_1149 : decode cL_law 1149 = .ok (.aload_n 2, 1) := by decide +kernel
theorem dL_law_1150 : decode cL_law 1150 = .ok (.invokevirtual 77, 3) := by decide +kernel
theorem dL_law_1153 : decode cL_law 1153 = .ok (.iload 5, 2) := by decide +kernel
theorem dL_law_1155 : decode cL_law 1155 = .ok (.if_icmp .eq 5, 3) := by decide +kernel
theorem dL_law_1158 : decode cL_law 1158 = .ok (.iconst 0, 1) := by decide +kernel
theorem dL_law_1159 : decode cL_law 1159 = .ok (.ireturn, 1) := by decide +kernel
theorem dL_law_1160 : decode cL_law 1160 = .ok (.iload 5, 2) := by decide +kernel
theorem dL_law_1162 : decode cL_law 1162 = .ok (.ifCond .ne 15, 3) := by decide +kernel
theorem dL_law_1165 : decode cL_law 1165 = .ok (.aload_n 3, 1) := by decide +kernel
theorem dL_law_1166 : decode cL_law 1166 = .ok (.iconst 0, 1) := by decide +kernel
theorem dL_law_1167 : decode cL_law 1167 = .ok (.laload, 1) := by decide +kernel
theorem dL_law_1168 : decode cL_law 1168 = .ok (.iload 6, 2) := by decide +kernel
theorem dL_law_1170 : decode cL_law 1170 = .ok (.i2l, 1) := by decide +kernel
theorem dL_law_1171 : decode cL_law 1171 = .ok (.lcmp, 1) := by decide +kernel
theorem dL_law_1172 : decode cL_law 1172 = .ok (.ifCond .eq 5, 3) := by decide +kernel
theorem dL_law_1175 : decode cL_law 1175 = .ok (.iconst 0, 1) := by decide +kernel
theorem dL_law_1176 : decode cL_law 1176 = .ok (.ireturn, 1) := by decide +kernel
theorem dL_law_1177 : decode cL_law 1177 = .ok (.goto 3, 3) := by decide +kernel
theorem dL_law_1180 : decode cL_law 1180 = .ok (.iinc 4 7, 3) := by decide +kernel
theorem dL_law_1183 : decode cL_law 1183 = .ok (.goto (-1160), 3) := by decide +kernel
theorem dL_law_1186 : decode cL_law 1186 = .ok (.iconst 1, 1) := by decide +kernel
theorem dL_law_1187 : decode cL_law 1187 = .ok (.ireturn, 1) := by decide +kernel
end
section
/-! ===== the words that every contract of mine asks for; the state; the judgement OK ===== -/
def GW : List Cond := lw_tbl.filter goodWord
theorem gw_in {w : Cond} (h : w ∈ lw_tbl) (g : goodWord w = true) : w ∈ GW := List.mem_filter.mpr ⟨h, g⟩
theorem gw_tbl {w : Cond} (h : w ∈ GW) : w ∈ lw_tbl := (List.mem_filter.mp h).1
theorem gw_good {w : Cond} (h : w ∈ GW) : goodWord w = true := (List.mem_filter.mp h).2
theorem gw_goodIn {big : List Cond} {x : Cond} (hx : x ∈ GW) (hb : ∀ w ∈ GW, w ∈ big) : GoodIn big (x :: GW) := by
  intro w hw
  rcases List.mem_cons.mp hw with rfl | hw
  · exact ⟨hb _ hx, good_of_word (gw_good hx)⟩
  · exact ⟨hb _ hw, good_of_word (gw_good hw)⟩
/-- the numbers of a state: what int, boolean and byte arrays and int fields hold (by the number of the cell, and the place), what long arrays hold -/
abbrev Sg : Type := (Nat → Nat → Int32) × (Nat → Nat → Int64)
def pI (σ : Sg) (k j : Nat) (v : Int32) : Sg := (fun a b => if a = k ∧ b = j then v else σ.1 a b, σ.2)
def pJ (σ : Sg) (k j : Nat) (v : Int64) : Sg := (σ.1, fun a b => if a = k ∧ b = j then v else σ.2 a b)
/-- a row of the int arrays anew -/
def pR (σ : Sg) (k : Nat) (f : Nat → Int32) : Sg := (fun a b => if a = k then f b else σ.1 a b, σ.2)
def pS (σ : Sg) (k : Nat) (f : Nat → Int64) : Sg := (σ.1, fun a b => if a = k then f b else σ.2 a b)
theorem pI_at (σ : Sg) (k j : Nat) (v : Int32) (a b : Nat) : (pI σ k j v).1 a b = if a = k ∧ b = j then v else σ.1 a b := rfl
theorem pI_J (σ : Sg) (k j : Nat) (v : Int32) : (pI σ k j v).2 = σ.2 := rfl
theorem pJ_at (σ : Sg) (k j : Nat) (v : Int64) (a b : Nat) : (pJ σ k j v).2 a b = if a = k ∧ b = j then v else σ.2 a b := rfl
theorem pJ_I (σ : Sg) (k j : Nat) (v : Int64) : (pJ σ k j v).1 = σ.1 := rfl
theorem pR_at (σ : Sg) (k : Nat) (f : Nat → Int32) (a b : Nat) : (pR σ k f).1 a b = if a = k then f b else σ.1 a b := rfl
theorem pR_J (σ : Sg) (k : Nat) (f : Nat → Int32) : (pR σ k f).2 = σ.2 := rfl
theorem pS_at (σ : Sg) (k : Nat) (f : Nat → Int64) (a b : Nat) : (pS σ k f).2 a b = if a = k then f b else σ.2 a b := rfl
theorem pS_I (σ : Sg) (k : Nat) (f : Nat → Int64) : (pS σ k f).1 = σ.1 := rfl
theorem pI_upd (σ : Sg) (k j : Nat) (v : Int32) : (pI σ k j v).1 k = upd (σ.1 k) j v := by
  funext b
  simp [pI, upd]
theorem pI_ne (σ : Sg) {k a : Nat} (j : Nat) (v : Int32) (h : a ≠ k) : (pI σ k j v).1 a = σ.1 a := by
  funext b
  simp [pI, h]
theorem pJ_upd (σ : Sg) (k j : Nat) (v : Int64) : (pJ σ k j v).2 k = vp_updL (σ.2 k) j v := by
  funext b
  simp [pJ, vp_updL]
theorem pJ_ne (σ : Sg) {k a : Nat} (j : Nat) (v : Int64) (h : a ≠ k) : (pJ σ k j v).2 a = σ.2 a := by
  funext b
  simp [pJ, h]
theorem pR_self (σ : Sg) (k : Nat) (f : Nat → Int32) : (pR σ k f).1 k = f := by
  funext b
  simp [pR]
theorem pR_ne (σ : Sg) {k a : Nat} (f : Nat → Int32) (h : a ≠ k) : (pR σ k f).1 a = σ.1 a := by
  funext b
  simp [pR, h]
theorem pS_self (σ : Sg) (k : Nat) (f : Nat → Int64) : (pS σ k f).2 k = f := by
  funext b
  simp [pS]
theorem pS_ne (σ : Sg) {k a : Nat} (f : Nat → Int64) (h : a ≠ k) : (pS σ k f).2 a = σ.2 a := by
  funext b
  simp [pS, h]
/-- the kind of a cell: 0 an int array, 1 long, 2 boolean, 3 byte, 4 of references (which cells), 5 + c an object of class c (a field: none a number, some r the cell r); its length -/
abbrev Kd : Type := Nat × Nat × List (Option Nat)
def CLs : List vw_C := [(RX0, TX0, 2), (RX1, TX1, 8), (RX2, TX2, 11), (RX3, TX3, 14), (RX4, TX4, 4), (RX5, TX5, 18), (RX6, TX6, 3), (RX7, TX7, 7), (RX8, TX8, 39)]
def fv1 (ad : Nat → Nat) (f : Nat → Int32) (j : Nat) (o : Option Nat) : Value := match o with
  | none => .int (f j)
  | some r => .ref (ad r)
def fvs (ad : Nat → Nat) (f : Nat → Int32) (fl : List (Option Nat)) : List Value := fl.mapIdx (fv1 ad f)
theorem fvs_at {ad : Nat → Nat} {f : Nat → Int32} {fl : List (Option Nat)} {j : Nat} {o : Option Nat} (h : fl[j]? = some o) : (fvs ad f fl)[j]? = some (fv1 ad f j o) := by
  unfold fvs
  rw [List.getElem?_mapIdx, h]
  rfl
theorem fvs_set {ad : Nat → Nat} {f : Nat → Int32} {fl : List (Option Nat)} {j : Nat} (h : fl[j]? = some none) (v : Int32) : (fvs ad f fl).set j (.int v) = fvs ad (upd f j v) fl := by
  apply List.ext_getElem?
  intro i
  rw [List.getElem?_set]
  unfold fvs
  rw [List.length_mapIdx, List.getElem?_mapIdx, List.getElem?_mapIdx]
  by_cases hi : j = i
  · subst hi
    obtain ⟨hl, he⟩ := List.getElem?_eq_some_iff.mp h
    simp [h, hl, fv1, upd]
    rw [he]
  · rw [if_neg hi]
    cases fl[i]? with
    | none => rfl
    | some o => cases o <;> simp [fv1, upd, Ne.symm hi]
abbrev Wm : Type := va_G × List Kd × (Nat → Nat) × (Nat → ClassId)
def cellOf (ad : Nat → Nat) (cA : Nat → ClassId) (kd : Kd) (f : Nat → Int32) (g : Nat → Int64) : va_E := match kd with
  | (0, n, _) => .inl (cA 0, n, .inl f)
  | (1, n, _) => .inl (cA 1, n, .inr (.inl g))
  | (2, n, _) => .inl (cA 2, n, .inl f)
  | (3, n, _) => .inl (cA 3, n, .inl f)
  | (4, n, fl) => .inl (cA 4, n, .inr (.inr (.inr (.inr (fun j => (fl.getD j none).map ad)))))
  | (c + 5, _, fl) => .inr (c, fvs ad f fl)
def wl (Ω : Wm) (σ : Sg) : va_W := Ω.2.1.mapIdx (fun k kd => (Ω.2.2.1 k, cellOf Ω.2.2.1 Ω.2.2.2 kd (σ.1 k) (σ.2 k)))
theorem wl_at {Ω : Wm} {σ : Sg} {k : Nat} {kd : Kd} (h : Ω.2.1[k]? = some kd) : (wl Ω σ)[k]? = some (Ω.2.2.1 k, cellOf Ω.2.2.1 Ω.2.2.2 kd (σ.1 k) (σ.2 k)) := by
  unfold wl
  rw [List.getElem?_mapIdx, h]
  rfl
theorem wl_len (Ω : Wm) (σ : Sg) : (wl Ω σ).length = Ω.2.1.length := by unfold wl; rw [List.length_mapIdx]
theorem wl_set {Ω : Wm} {σ σ' : Sg} {k : Nat} {kd : Kd} {e : va_E} (h : Ω.2.1[k]? = some kd) (he : e = cellOf Ω.2.2.1 Ω.2.2.2 kd (σ'.1 k) (σ'.2 k)) (h1 : ∀ a, a ≠ k → σ'.1 a = σ.1 a) (h2 : ∀ a, a ≠ k → σ'.2 a = σ.2 a) : (wl Ω σ).set k (Ω.2.2.1 k, e) = wl Ω σ' := by
  subst he
  have hl : k < Ω.2.1.length := (List.getElem?_eq_some_iff.mp h).1
  apply List.ext_getElem?
  intro i
  rw [List.getElem?_set]
  by_cases hi : k = i
  · subst hi
    rw [if_pos rfl, wl_len, if_pos hl, wl_at h]
  · rw [if_neg hi]
    unfold wl
    rw [List.getElem?_mapIdx, List.getElem?_mapIdx]
    simp only [h1 i (Ne.symm hi), h2 i (Ne.symm hi)]
def tys (Ω : Wm) : List (ClassId × FieldType) := [(Ω.2.2.2 0, .int), (Ω.2.2.2 1, .long), (Ω.2.2.2 2, .boolean), (Ω.2.2.2 3, .byte), (Ω.2.2.2 4, .object RX5)]
/-- which cells a method may change: the world's, and those that are made -/
def Ar (Ω : Wm) (sz : Nat) : Nat → Prop := fun q => (∃ k, k < Ω.2.1.length ∧ q = Ω.2.2.1 k) ∨ sz ≤ q
/-- the cells of the world are apart -/
def Dj (Ω : Wm) : Prop := ∀ i j, i < Ω.2.1.length → j < Ω.2.1.length → Ω.2.2.1 i = Ω.2.2.1 j → i = j
theorem Dj.D {Ω : Wm} (h : Dj Ω) (σ : Sg) (sz : Nat) : va_D (Ar Ω sz) (wl Ω σ) := by
  have key : ∀ (k : Nat) (q : Nat × va_E), (wl Ω σ)[k]? = some q → k < Ω.2.1.length ∧ q.1 = Ω.2.2.1 k := by
    intro k q hk
    have hl := (List.getElem?_eq_some_iff.mp hk).1
    rw [wl_len] at hl
    rw [wl_at (List.getElem?_eq_getElem hl)] at hk
    exact ⟨hl, by rw [← Option.some.inj hk]⟩
  refine ⟨fun i j x y hi hj hxy => ?_, fun k q hk => ?_⟩
  · obtain ⟨a1, a2⟩ := key i x hi
    obtain ⟨b1, b2⟩ := key j y hj
    exact h i j a1 b1 (by rw [← a2, ← b2]; exact hxy)
  · obtain ⟨a1, a2⟩ := key k q hk
    exact Or.inl ⟨k, a1, a2⟩
/-- the two arrays of constants of the hash: the class's statics -/
def K64 (j : Nat) : Int32 := (#[0x428a2f98, 0x71374491, 0xb5c0fbcf, 0xe9b5dba5, 0x3956c25b, 0x59f111f1, 0x923f82a4, 0xab1c5ed5, 0xd807aa98, 0x12835b01, 0x243185be, 0x550c7dc3, 0x72be5d74, 0x80deb1fe, 0x9bdc06a7, 0xc19bf174, 0xe49b69c1, 0xefbe4786, 0x0fc19dc6, 0x240ca1cc, 0x2de92c6f, 0x4a7484aa, 0x5cb0a9dc, 0x76f988da, 0x983e5152, 0xa831c66d, 0xb00327c8, 0xbf597fc7, 0xc6e00bf3, 0xd5a79147, 0x06ca6351, 0x14292967, 0x27b70a85, 0x2e1b2138, 0x4d2c6dfc, 0x53380d13, 0x650a7354, 0x766a0abb, 0x81c2c92e, 0x92722c85, 0xa2bfe8a1, 0xa81a664b, 0xc24b8b70, 0xc76c51a3, 0xd192e819, 0xd6990624, 0xf40e3585, 0x106aa070, 0x19a4c116, 0x1e376c08, 0x2748774c, 0x34b0bcb5, 0x391c0cb3, 0x4ed8aa4a, 0x5b9cca4f, 0x682e6ff3, 0x748f82ee, 0x78a5636f, 0x84c87814, 0x8cc70208, 0x90befffa, 0xa4506ceb, 0xbef9a3f7, 0xc67178f2] : Array Int32).getD j 0
def H8 (j : Nat) : Int32 := (#[0x6a09e667, 0xbb67ae85, 0x3c6ef372, 0xa54ff53a, 0x510e527f, 0x9b05688c, 0x1f83d9ab, 0x5be0cd19] : Array Int32).getD j 0
def IsS1 (Ω : Wm) (sz : Nat) (s : State) (t : Nat) (H : Heap) : Prop := va_Z RX4 "ROUND_WORDS" "[I" (.ref t) (Ar Ω sz) s H ∧ va_T .int t 64 (fun j => .int (K64 j)) (Ar Ω sz) s H
def IsS2 (Ω : Wm) (sz : Nat) (s : State) (t : Nat) (H : Heap) : Prop := va_Z RX4 "FIRST_STATE" "[I" (.ref t) (Ar Ω sz) s H ∧ va_X t 8 H8 s H ∧ t < H.size ∧ ¬ Ar Ω sz t
def St (Ω : Wm) (sz : Nat) (s : State) (H : Heap) : Prop := (∃ t, IsS1 Ω sz s t H) ∧ ∃ t, IsS2 Ω sz s t H
theorem Ar.mono {Ω : Wm} {a b : Nat} (h : a ≤ b) : ∀ q, Ar Ω b q → Ar Ω a q := fun _ hq => hq.imp id (Nat.le_trans h)
theorem St.moved {Ω : Wm} {sz : Nat} {u U : State} {H : Heap} (hvm : u.vm.Alike U.vm) (h : St Ω sz u H) : St Ω sz U H := by
  obtain ⟨⟨t, h1, h2⟩, t2, h3, h4, h5, h6⟩ := h
  exact ⟨⟨t, h1.moved hvm, h2.moved hvm⟩, t2, h3.moved hvm, h4.moved hvm, h5, h6⟩
theorem St.kept {Ω : Wm} {sz sz2 : Nat} {U : State} {H H1 : Heap} (hz : sz ≤ sz2) (hs : H.size ≤ H1.size) (h : St Ω sz U H) (hq : ∀ a : Nat, a < H.size → ¬ Ar Ω sz a → H1[a]? = H[a]?) : St Ω sz2 U H1 := by
  obtain ⟨⟨t, h1, h2⟩, t2, h3, h4, h5, h6⟩ := h
  exact ⟨⟨t, (h1.kept hq).narrow (Ar.mono hz), (h2.kept hq).narrow (Ar.mono hz)⟩, t2, (h3.kept hq).narrow (Ar.mono hz), h4.kept (hq t2 h5 h6), Nat.lt_of_lt_of_le h5 hs, fun z => h6 (Ar.mono hz _ z)⟩
/-- what a method of a world is called with: its room is rm, the world holds σ -/
def PB (Ω : Wm) (sz : Nat) (σ : Sg) (U : State) : Prop := U.heap.size = sz ∧ va_P Ω.1 CLs (wl Ω σ) U.heap ∧ va_K Ω.1 CLs (tys Ω) U ∧ Dj Ω ∧ St Ω sz U U.heap
def BA (Ω : Wm) (u : Sg) (t : State) : Prop := va_P Ω.1 CLs (wl Ω u) t.heap
abbrev Qt : Type := Nat → Array Value → State → Outcome → State → Prop
def Ct (l : Launch) (y : MethodName) (cc : ByteArray) (nL : Nat) (ret : Option FieldType) (fr lo : Nat) (Ω : Wm) (av : List Value) (σ : Sg) (Qc : Qt) : Prop :=
  ∀ sz, Met l y (.code y cc nL ret :: GW) ({ frames := fr, cells := 0, slots := 0, locals := lo }) (va_Pc av (PB Ω sz σ)) (Qc sz) 0 0 (Ar Ω sz)
def QI (Ω : Wm) (Po : Int32 → Sg → Prop) : Qt := fun sz => va_Qi Po (BA Ω) (Ar Ω sz)
def QL (Ω : Wm) (Po : Int64 → Sg → Prop) : Qt := fun sz => va_Ql Po (BA Ω) (Ar Ω sz)
def QV (Ω : Wm) (Po : Sg → Prop) : Qt := fun sz => va_Qv Po (BA Ω) (Ar Ω sz)
def QR (Ω : Wm) (Po : Nat → Sg → Prop) : Qt := fun sz => va_Qr (S := Nat × Sg) (fun u => Po u.1 u.2) (fun u a t => a = Ω.2.2.1 u.1 ∧ BA Ω u.2 t) (Ar Ω sz)
abbrev Gm : Type := Program × Launch × Env × Room × State × MethodId × Array Value × List Frame × Method × Code × (State → Prop)
def WW (Γ : Gm) (H : Heap) (locs : List Loc) (g : JFrame) : Prop := match Γ with
  | (p, l, e, R, s, m, args, below, meth, c, Q) => W p l e R s m args below meth c H locs 0 0 Q g
def gS (Γ : Gm) : State := Γ.2.2.2.2.1
def gM (Γ : Gm) : MethodId := Γ.2.2.2.2.2.1
/-- from here the method goes on well: at pc, with these locals, this stack, this state -/
def OK (Γ : Gm) (Ω : Wm) (nL : Nat) (pc : Nat) (L : List (Nat × Value)) (st : List Value) (σ : Sg) : Prop :=
  ∀ (ls : Array Slot) (H : Heap) (locs : List Loc), lv_has ls nL L → va_P Ω.1 CLs (wl Ω σ) H → va_S (Ar Ω (gS Γ).heap.size) (gS Γ).heap H locs → WW Γ H locs (F0 (gM Γ) pc ls st)
/-- what is fixed while a method runs -/
def Cx (Γ : Gm) (Ω : Wm) (cc : ByteArray) (nL : Nat) (own : String) (ret : Option FieldType) (fr lo : Nat) (l0 : Launch) (Qc : Qt) : Prop := match Γ with
  | (p, l, _, R, s, m, args, below, meth, c, Q) => p.tables.exec = Jvm.exec ∧ c.code = cc ∧ c.maxLocals = nL ∧ s.vm.findClass own = some m.cls ∧ (∀ w ∈ GW, w.before args s = true) ∧ va_K Ω.1 CLs (tys Ω) s ∧ Dj Ω ∧ St Ω s.heap.size s s.heap ∧ meth.locks = false ∧ meth.sig.returnType = ret ∧ R = ({ frames := fr, cells := 0, slots := 0, locals := lo } : Room) ∧ l = l0 ∧ Q = MQ below (Qc s.heap.size) args s 0 0 (Ar Ω s.heap.size)
theorem Ct.of {l : Launch} {y : MethodName} {cc : ByteArray} {nL : Nat} {ret : Option FieldType} {fr lo : Nat} {Ω : Wm} {av : List Value} {σ : Sg} {Qc : Qt} (hy : plainName y.cls = true) (hn : (lg_sl av).length ≤ nL)
    (h : ∀ Γ : Gm, Cx Γ Ω cc nL y.cls ret fr lo l Qc → OK Γ Ω nL 0 (lv_args 0 av) [] σ) : Ct l y cc nL ret fr lo Ω av σ Qc := by
  intro sz
  refine Met.ofW (cc := cc) (maxL := nL) (ret := ret) hy rfl ?_
  intro p e s m args below meth c s₁ B hml hv
  obtain ⟨rfl, hsz, hP, hK, hD, hSt⟩ := hv
  subst hsz
  have hts := atoms_spec (ws := .code y cc nL ret :: GW) B.pre
  have hl := lv_entry av (n := nL) hn
  rw [lg_entry_eq]
  exact h (p, l, e, _, s, m, _, below, meth, c, _) ⟨B.exec, B.bytes, hml, findClass_of_methodNamed B.named, fun w hw => hts w (List.mem_cons_of_mem _ hw), hK, hD, hSt, B.notSynchronized, B.returns, rfl, rfl, rfl⟩ _ _ _ hl hP va_S.rf
end
section
section OKR
variable {Γ : Gm} {Ω : Wm} {cc : ByteArray} {nL : Nat} {own : String} {ret : Option FieldType} {fr lo : Nat} {l0 : Launch} {Qc : Qt} {pc : Nat} {L : List (Nat × Value)} {st : List Value} {σ : Sg}
def iush (x y : Int32) : Int32 := (x.toUInt32 >>> (y.toUInt32 &&& Int32.toUInt32 31)).toInt32
def lush (x : Int64) (y : Int32) : Int64 := (x.toUInt64 >>> (y.toInt64.toUInt64 &&& Int64.toUInt64 63)).toInt64
def ishl (x y : Int32) : Int32 := x <<< (y &&& 31)
def ishr (x y : Int32) : Int32 := x >>> (y &&& 31)
def lshl (x : Int64) (y : Int32) : Int64 := x <<< (y.toInt64 &&& 63)
def lshr (x : Int64) (y : Int32) : Int64 := x >>> (y.toInt64 &&& 63)
def irem (x y : Int32) : Int32 := x - x / y * y
def i2b (x : Int32) : Int32 := x.toInt8.toInt32
def imax (x y : Int32) : Int32 := if x < y then y else x
def imin (x y : Int32) : Int32 := if y < x then y else x

theorem ok_iconst (C : Cx Γ Ω cc nL own ret fr lo l0 Qc) {n : Int} {v : Int32} (hdg : decode cc pc = .ok (.iconst n, 1)) (hv : Int32.ofInt n = v) (k : OK Γ Ω nL (pc + 1) L (.int v :: st) σ) : OK Γ Ω nL pc L (st) σ := by
  obtain ⟨p, l, e, R, s, m, args, below, meth, c, Q⟩ := Γ
  intro ls H locs hl hP hS
  exact lv_iconst C.1 C.2.1 hdg hv (k ls H locs hl hP hS)
theorem ok_bipush (C : Cx Γ Ω cc nL own ret fr lo l0 Qc) {n : Int} {v : Int32} (hdg : decode cc pc = .ok (.bipush n, 2)) (hv : (Int8.ofInt n).toInt32 = v) (k : OK Γ Ω nL (pc + 2) L (.int v :: st) σ) : OK Γ Ω nL pc L (st) σ := by
  obtain ⟨p, l, e, R, s, m, args, below, meth, c, Q⟩ := Γ
  intro ls H locs hl hP hS
  exact lv_bipush C.1 C.2.1 hdg hv (k ls H locs hl hP hS)
theorem ok_sipush (C : Cx Γ Ω cc nL own ret fr lo l0 Qc) {n : Int} {v : Int32} (hdg : decode cc pc = .ok (.sipush n, 3)) (hv : (Int16.ofInt n).toInt32 = v) (k : OK Γ Ω nL (pc + 3) L (.int v :: st) σ) : OK Γ Ω nL pc L (st) σ := by
  obtain ⟨p, l, e, R, s, m, args, below, meth, c, Q⟩ := Γ
  intro ls H locs hl hP hS
  exact lv_sipush C.1 C.2.1 hdg hv (k ls H locs hl hP hS)
theorem ok_lconst (C : Cx Γ Ω cc nL own ret fr lo l0 Qc) {n : Fin 2} {v : Int64} (hdg : decode cc pc = .ok (.lconst n, 1)) (hv : Int64.ofNat (n : Nat) = v) (k : OK Γ Ω nL (pc + 1) L (.long v :: st) σ) : OK Γ Ω nL pc L (st) σ := by
  obtain ⟨p, l, e, R, s, m, args, below, meth, c, Q⟩ := Γ
  intro ls H locs hl hP hS
  exact lv_lconst C.1 C.2.1 hdg hv (k ls H locs hl hP hS)
theorem ok_iload_n (C : Cx Γ Ω cc nL own ret fr lo l0 Qc) {q : Fin 4} {i : Nat} {x : Int32} (z : Nat) (hdg : decode cc pc = .ok (.iload_n q, 1)) (hi : (q : Nat) = i) (hz : L[z]? = some (i, .int x)) (k : OK Γ Ω nL (pc + 1) L (.int x :: st) σ) : OK Γ Ω nL pc L st σ := by
  obtain ⟨p, l, e, R, s, m, args, below, meth, c, Q⟩ := Γ
  intro ls H locs hl hP hS
  exact lv_iload_n C.1 C.2.1 hdg hi (lv_at hl z hz) (k ls H locs hl hP hS)
theorem ok_iload (C : Cx Γ Ω cc nL own ret fr lo l0 Qc) {i : Nat} {x : Int32} (z : Nat) (hdg : decode cc pc = .ok (.iload i, 2)) (hz : L[z]? = some (i, .int x)) (k : OK Γ Ω nL (pc + 2) L (.int x :: st) σ) : OK Γ Ω nL pc L st σ := by
  obtain ⟨p, l, e, R, s, m, args, below, meth, c, Q⟩ := Γ
  intro ls H locs hl hP hS
  exact lv_iload C.1 C.2.1 hdg (lv_at hl z hz) (k ls H locs hl hP hS)
theorem ok_lload_n (C : Cx Γ Ω cc nL own ret fr lo l0 Qc) {q : Fin 4} {i : Nat} {x : Int64} (z : Nat) (hdg : decode cc pc = .ok (.lload_n q, 1)) (hi : (q : Nat) = i) (hz : L[z]? = some (i, .long x)) (k : OK Γ Ω nL (pc + 1) L (.long x :: st) σ) : OK Γ Ω nL pc L st σ := by
  obtain ⟨p, l, e, R, s, m, args, below, meth, c, Q⟩ := Γ
  intro ls H locs hl hP hS
  exact lv_lload_n C.1 C.2.1 hdg hi (lv_at hl z hz) (k ls H locs hl hP hS)
theorem ok_lload (C : Cx Γ Ω cc nL own ret fr lo l0 Qc) {i : Nat} {x : Int64} (z : Nat) (hdg : decode cc pc = .ok (.lload i, 2)) (hz : L[z]? = some (i, .long x)) (k : OK Γ Ω nL (pc + 2) L (.long x :: st) σ) : OK Γ Ω nL pc L st σ := by
  obtain ⟨p, l, e, R, s, m, args, below, meth, c, Q⟩ := Γ
  intro ls H locs hl hP hS
  exact lv_lload C.1 C.2.1 hdg (lv_at hl z hz) (k ls H locs hl hP hS)
theorem ok_aload_n (C : Cx Γ Ω cc nL own ret fr lo l0 Qc) {q : Fin 4} {i a : Nat} (z : Nat) (hdg : decode cc pc = .ok (.aload_n q, 1)) (hi : (q : Nat) = i) (hz : L[z]? = some (i, .ref a)) (k : OK Γ Ω nL (pc + 1) L (.ref a :: st) σ) : OK Γ Ω nL pc L st σ := by
  obtain ⟨p, l, e, R, s, m, args, below, meth, c, Q⟩ := Γ
  intro ls H locs hl hP hS
  exact lv_aload_n C.1 C.2.1 hdg hi (lv_at hl z hz) (k ls H locs hl hP hS)
theorem ok_aload (C : Cx Γ Ω cc nL own ret fr lo l0 Qc) {i a : Nat} (z : Nat) (hdg : decode cc pc = .ok (.aload i, 2)) (hz : L[z]? = some (i, .ref a)) (k : OK Γ Ω nL (pc + 2) L (.ref a :: st) σ) : OK Γ Ω nL pc L st σ := by
  obtain ⟨p, l, e, R, s, m, args, below, meth, c, Q⟩ := Γ
  intro ls H locs hl hP hS
  exact lv_aload C.1 C.2.1 hdg (lv_at hl z hz) (k ls H locs hl hP hS)
theorem ok_istore_n (C : Cx Γ Ω cc nL own ret fr lo l0 Qc) {q : Fin 4} {i : Nat} {x : Int32} {L2 : List (Nat × Value)} (hdg : decode cc pc = .ok (.istore_n q, 1)) (hi : (q : Nat) = i) (hn : i < nL) (hL : (i, Value.int x) :: L.filter (fun q => !(q.1 == i) && !(q.1 + 1 == i && q.2.category == 2)) = L2) (k : OK Γ Ω nL (pc + 1) L2 st σ) : OK Γ Ω nL pc L (.int x :: st) σ := by
  obtain ⟨p, l, e, R, s, m, args, below, meth, c, Q⟩ := Γ
  intro ls H locs hl hP hS
  exact lv_istore_n C.1 C.2.1 hdg hi hl hn hL (fun ls2 h2 => k ls2 H locs h2 hP hS)
theorem ok_istore (C : Cx Γ Ω cc nL own ret fr lo l0 Qc) {i : Nat} {x : Int32} {L2 : List (Nat × Value)} (hdg : decode cc pc = .ok (.istore i, 2)) (hn : i < nL) (hL : (i, Value.int x) :: L.filter (fun q => !(q.1 == i) && !(q.1 + 1 == i && q.2.category == 2)) = L2) (k : OK Γ Ω nL (pc + 2) L2 st σ) : OK Γ Ω nL pc L (.int x :: st) σ := by
  obtain ⟨p, l, e, R, s, m, args, below, meth, c, Q⟩ := Γ
  intro ls H locs hl hP hS
  exact lv_istore C.1 C.2.1 hdg hl hn hL (fun ls2 h2 => k ls2 H locs h2 hP hS)
theorem ok_lstore_n (C : Cx Γ Ω cc nL own ret fr lo l0 Qc) {q : Fin 4} {i : Nat} {x : Int64} {L2 : List (Nat × Value)} (hdg : decode cc pc = .ok (.lstore_n q, 1)) (hi : (q : Nat) = i) (hn : i + 1 < nL) (hL : (i, Value.long x) :: L.filter (fun q => !(q.1 == i) && (!(q.1 == i + 1) && !(q.1 + 1 == i && q.2.category == 2))) = L2) (k : OK Γ Ω nL (pc + 1) L2 st σ) : OK Γ Ω nL pc L (.long x :: st) σ := by
  obtain ⟨p, l, e, R, s, m, args, below, meth, c, Q⟩ := Γ
  intro ls H locs hl hP hS
  exact lv_lstore_n C.1 C.2.1 hdg hi hl hn hL (fun ls2 h2 => k ls2 H locs h2 hP hS)
theorem ok_lstore (C : Cx Γ Ω cc nL own ret fr lo l0 Qc) {i : Nat} {x : Int64} {L2 : List (Nat × Value)} (hdg : decode cc pc = .ok (.lstore i, 2)) (hn : i + 1 < nL) (hL : (i, Value.long x) :: L.filter (fun q => !(q.1 == i) && (!(q.1 == i + 1) && !(q.1 + 1 == i && q.2.category == 2))) = L2) (k : OK Γ Ω nL (pc + 2) L2 st σ) : OK Γ Ω nL pc L (.long x :: st) σ := by
  obtain ⟨p, l, e, R, s, m, args, below, meth, c, Q⟩ := Γ
  intro ls H locs hl hP hS
  exact lv_lstore C.1 C.2.1 hdg hl hn hL (fun ls2 h2 => k ls2 H locs h2 hP hS)
theorem ok_astore_n (C : Cx Γ Ω cc nL own ret fr lo l0 Qc) {q : Fin 4} {i : Nat} {x : Nat} {L2 : List (Nat × Value)} (hdg : decode cc pc = .ok (.astore_n q, 1)) (hi : (q : Nat) = i) (hn : i < nL) (hL : (i, Value.ref x) :: L.filter (fun q => !(q.1 == i) && !(q.1 + 1 == i && q.2.category == 2)) = L2) (k : OK Γ Ω nL (pc + 1) L2 st σ) : OK Γ Ω nL pc L (.ref x :: st) σ := by
  obtain ⟨p, l, e, R, s, m, args, below, meth, c, Q⟩ := Γ
  intro ls H locs hl hP hS
  exact lv_astore_n C.1 C.2.1 hdg hi hl hn hL (fun ls2 h2 => k ls2 H locs h2 hP hS)
theorem ok_astore (C : Cx Γ Ω cc nL own ret fr lo l0 Qc) {i : Nat} {x : Nat} {L2 : List (Nat × Value)} (hdg : decode cc pc = .ok (.astore i, 2)) (hn : i < nL) (hL : (i, Value.ref x) :: L.filter (fun q => !(q.1 == i) && !(q.1 + 1 == i && q.2.category == 2)) = L2) (k : OK Γ Ω nL (pc + 2) L2 st σ) : OK Γ Ω nL pc L (.ref x :: st) σ := by
  obtain ⟨p, l, e, R, s, m, args, below, meth, c, Q⟩ := Γ
  intro ls H locs hl hP hS
  exact lv_astore C.1 C.2.1 hdg hl hn hL (fun ls2 h2 => k ls2 H locs h2 hP hS)
theorem ok_iinc (C : Cx Γ Ω cc nL own ret fr lo l0 Qc) {i : Nat} {n : Int} {x v : Int32} {L2 : List (Nat × Value)} (z : Nat) (hdg : decode cc pc = .ok (.iinc i n, 3)) (hz : L[z]? = some (i, .int x)) (hv : x + Int32.ofInt n = v) (hn : i < nL) (hL : (i, Value.int v) :: L.filter (fun q => !(q.1 == i) && !(q.1 + 1 == i && q.2.category == 2)) = L2) (k : OK Γ Ω nL (pc + 3) L2 st σ) : OK Γ Ω nL pc L st σ := by
  obtain ⟨p, l, e, R, s, m, args, below, meth, c, Q⟩ := Γ
  intro ls H locs hl hP hS
  exact lv_iinc C.1 C.2.1 hdg hl (k := z) hz hv hn hL (fun ls2 h2 => k ls2 H locs h2 hP hS)
theorem ok_iadd (C : Cx Γ Ω cc nL own ret fr lo l0 Qc) {x y : Int32} (hdg : decode cc pc = .ok (.iadd, 1)) (k : OK Γ Ω nL (pc + 1) L (.int (x + y) :: st) σ) : OK Γ Ω nL pc L (.int y :: .int x :: st) σ := by
  obtain ⟨p, l, e, R, s, m, args, below, meth, c, Q⟩ := Γ
  intro ls H locs hl hP hS
  exact lv_iadd C.1 C.2.1 hdg (k ls H locs hl hP hS)
theorem ok_isub (C : Cx Γ Ω cc nL own ret fr lo l0 Qc) {x y : Int32} (hdg : decode cc pc = .ok (.isub, 1)) (k : OK Γ Ω nL (pc + 1) L (.int (x - y) :: st) σ) : OK Γ Ω nL pc L (.int y :: .int x :: st) σ := by
  obtain ⟨p, l, e, R, s, m, args, below, meth, c, Q⟩ := Γ
  intro ls H locs hl hP hS
  exact lv_isub C.1 C.2.1 hdg (k ls H locs hl hP hS)
theorem ok_imul (C : Cx Γ Ω cc nL own ret fr lo l0 Qc) {x y : Int32} (hdg : decode cc pc = .ok (.imul, 1)) (k : OK Γ Ω nL (pc + 1) L (.int (x * y) :: st) σ) : OK Γ Ω nL pc L (.int y :: .int x :: st) σ := by
  obtain ⟨p, l, e, R, s, m, args, below, meth, c, Q⟩ := Γ
  intro ls H locs hl hP hS
  exact lv_imul C.1 C.2.1 hdg (k ls H locs hl hP hS)
theorem ok_iand (C : Cx Γ Ω cc nL own ret fr lo l0 Qc) {x y : Int32} (hdg : decode cc pc = .ok (.iand, 1)) (k : OK Γ Ω nL (pc + 1) L (.int (x &&& y) :: st) σ) : OK Γ Ω nL pc L (.int y :: .int x :: st) σ := by
  obtain ⟨p, l, e, R, s, m, args, below, meth, c, Q⟩ := Γ
  intro ls H locs hl hP hS
  exact lv_iand C.1 C.2.1 hdg (k ls H locs hl hP hS)
theorem ok_ior (C : Cx Γ Ω cc nL own ret fr lo l0 Qc) {x y : Int32} (hdg : decode cc pc = .ok (.ior, 1)) (k : OK Γ Ω nL (pc + 1) L (.int (x ||| y) :: st) σ) : OK Γ Ω nL pc L (.int y :: .int x :: st) σ := by
  obtain ⟨p, l, e, R, s, m, args, below, meth, c, Q⟩ := Γ
  intro ls H locs hl hP hS
  exact lv_ior C.1 C.2.1 hdg (k ls H locs hl hP hS)
theorem ok_ixor (C : Cx Γ Ω cc nL own ret fr lo l0 Qc) {x y : Int32} (hdg : decode cc pc = .ok (.ixor, 1)) (k : OK Γ Ω nL (pc + 1) L (.int (x ^^^ y) :: st) σ) : OK Γ Ω nL pc L (.int y :: .int x :: st) σ := by
  obtain ⟨p, l, e, R, s, m, args, below, meth, c, Q⟩ := Γ
  intro ls H locs hl hP hS
  exact lv_ixor C.1 C.2.1 hdg (k ls H locs hl hP hS)
theorem ok_ishl (C : Cx Γ Ω cc nL own ret fr lo l0 Qc) {x y : Int32} (hdg : decode cc pc = .ok (.ishl, 1)) (k : OK Γ Ω nL (pc + 1) L (.int (ishl x y) :: st) σ) : OK Γ Ω nL pc L (.int y :: .int x :: st) σ := by
  obtain ⟨p, l, e, R, s, m, args, below, meth, c, Q⟩ := Γ
  intro ls H locs hl hP hS
  exact lv_ishl C.1 C.2.1 hdg (k ls H locs hl hP hS)
theorem ok_ishr (C : Cx Γ Ω cc nL own ret fr lo l0 Qc) {x y : Int32} (hdg : decode cc pc = .ok (.ishr, 1)) (k : OK Γ Ω nL (pc + 1) L (.int (ishr x y) :: st) σ) : OK Γ Ω nL pc L (.int y :: .int x :: st) σ := by
  obtain ⟨p, l, e, R, s, m, args, below, meth, c, Q⟩ := Γ
  intro ls H locs hl hP hS
  exact lv_ishr C.1 C.2.1 hdg (k ls H locs hl hP hS)
theorem ok_ladd (C : Cx Γ Ω cc nL own ret fr lo l0 Qc) {x y : Int64} (hdg : decode cc pc = .ok (.ladd, 1)) (k : OK Γ Ω nL (pc + 1) L (.long (x + y) :: st) σ) : OK Γ Ω nL pc L (.long y :: .long x :: st) σ := by
  obtain ⟨p, l, e, R, s, m, args, below, meth, c, Q⟩ := Γ
  intro ls H locs hl hP hS
  exact lv_ladd C.1 C.2.1 hdg (k ls H locs hl hP hS)
theorem ok_lsub (C : Cx Γ Ω cc nL own ret fr lo l0 Qc) {x y : Int64} (hdg : decode cc pc = .ok (.lsub, 1)) (k : OK Γ Ω nL (pc + 1) L (.long (x - y) :: st) σ) : OK Γ Ω nL pc L (.long y :: .long x :: st) σ := by
  obtain ⟨p, l, e, R, s, m, args, below, meth, c, Q⟩ := Γ
  intro ls H locs hl hP hS
  exact lv_lsub C.1 C.2.1 hdg (k ls H locs hl hP hS)
theorem ok_lmul (C : Cx Γ Ω cc nL own ret fr lo l0 Qc) {x y : Int64} (hdg : decode cc pc = .ok (.lmul, 1)) (k : OK Γ Ω nL (pc + 1) L (.long (x * y) :: st) σ) : OK Γ Ω nL pc L (.long y :: .long x :: st) σ := by
  obtain ⟨p, l, e, R, s, m, args, below, meth, c, Q⟩ := Γ
  intro ls H locs hl hP hS
  exact lv_lmul C.1 C.2.1 hdg (k ls H locs hl hP hS)
theorem ok_land (C : Cx Γ Ω cc nL own ret fr lo l0 Qc) {x y : Int64} (hdg : decode cc pc = .ok (.land, 1)) (k : OK Γ Ω nL (pc + 1) L (.long (x &&& y) :: st) σ) : OK Γ Ω nL pc L (.long y :: .long x :: st) σ := by
  obtain ⟨p, l, e, R, s, m, args, below, meth, c, Q⟩ := Γ
  intro ls H locs hl hP hS
  exact lv_land C.1 C.2.1 hdg (k ls H locs hl hP hS)
theorem ok_lor (C : Cx Γ Ω cc nL own ret fr lo l0 Qc) {x y : Int64} (hdg : decode cc pc = .ok (.lor, 1)) (k : OK Γ Ω nL (pc + 1) L (.long (x ||| y) :: st) σ) : OK Γ Ω nL pc L (.long y :: .long x :: st) σ := by
  obtain ⟨p, l, e, R, s, m, args, below, meth, c, Q⟩ := Γ
  intro ls H locs hl hP hS
  exact lv_lor C.1 C.2.1 hdg (k ls H locs hl hP hS)
theorem ok_lxor (C : Cx Γ Ω cc nL own ret fr lo l0 Qc) {x y : Int64} (hdg : decode cc pc = .ok (.lxor, 1)) (k : OK Γ Ω nL (pc + 1) L (.long (x ^^^ y) :: st) σ) : OK Γ Ω nL pc L (.long y :: .long x :: st) σ := by
  obtain ⟨p, l, e, R, s, m, args, below, meth, c, Q⟩ := Γ
  intro ls H locs hl hP hS
  exact lv_lxor C.1 C.2.1 hdg (k ls H locs hl hP hS)
theorem ok_idiv (C : Cx Γ Ω cc nL own ret fr lo l0 Qc) {x y : Int32} (hdg : decode cc pc = .ok (.idiv, 1)) (hne : ¬ y = 0) (k : OK Γ Ω nL (pc + 1) L (.int (x / y) :: st) σ) : OK Γ Ω nL pc L (.int y :: .int x :: st) σ := by
  obtain ⟨p, l, e, R, s, m, args, below, meth, c, Q⟩ := Γ
  intro ls H locs hl hP hS
  exact lv_idiv C.1 C.2.1 hdg hne (k ls H locs hl hP hS)
theorem ok_irem (C : Cx Γ Ω cc nL own ret fr lo l0 Qc) {x y : Int32} (hdg : decode cc pc = .ok (.irem, 1)) (hne : ¬ y = 0) (k : OK Γ Ω nL (pc + 1) L (.int (irem x y) :: st) σ) : OK Γ Ω nL pc L (.int y :: .int x :: st) σ := by
  obtain ⟨p, l, e, R, s, m, args, below, meth, c, Q⟩ := Γ
  intro ls H locs hl hP hS
  exact lv_irem C.1 C.2.1 hdg hne (k ls H locs hl hP hS)
theorem ok_ineg (C : Cx Γ Ω cc nL own ret fr lo l0 Qc) {x : Int32} (hdg : decode cc pc = .ok (.ineg, 1)) (k : OK Γ Ω nL (pc + 1) L (.int (-x) :: st) σ) : OK Γ Ω nL pc L (.int x :: st) σ := by
  obtain ⟨p, l, e, R, s, m, args, below, meth, c, Q⟩ := Γ
  intro ls H locs hl hP hS
  exact lv_ineg C.1 C.2.1 hdg (k ls H locs hl hP hS)
theorem ok_iushr (C : Cx Γ Ω cc nL own ret fr lo l0 Qc) {x y : Int32} (hdg : decode cc pc = .ok (.iushr, 1)) (k : OK Γ Ω nL (pc + 1) L (.int (iush x y) :: st) σ) : OK Γ Ω nL pc L (.int y :: .int x :: st) σ := by
  obtain ⟨p, l, e, R, s, m, args, below, meth, c, Q⟩ := Γ
  intro ls H locs hl hP hS
  exact lv_iushr C.1 C.2.1 hdg rfl (k ls H locs hl hP hS)
theorem ok_lushr (C : Cx Γ Ω cc nL own ret fr lo l0 Qc) {x : Int64} {y : Int32} (hdg : decode cc pc = .ok (.lushr, 1)) (k : OK Γ Ω nL (pc + 1) L (.long (lush x y) :: st) σ) : OK Γ Ω nL pc L (.int y :: .long x :: st) σ := by
  obtain ⟨p, l, e, R, s, m, args, below, meth, c, Q⟩ := Γ
  intro ls H locs hl hP hS
  exact lv_lushr C.1 C.2.1 hdg rfl (k ls H locs hl hP hS)
theorem ok_lshl (C : Cx Γ Ω cc nL own ret fr lo l0 Qc) {x : Int64} {y : Int32} (hdg : decode cc pc = .ok (.lshl, 1)) (k : OK Γ Ω nL (pc + 1) L (.long (lshl x y) :: st) σ) : OK Γ Ω nL pc L (.int y :: .long x :: st) σ := by
  obtain ⟨p, l, e, R, s, m, args, below, meth, c, Q⟩ := Γ
  intro ls H locs hl hP hS
  exact lv_lshl C.1 C.2.1 hdg rfl (k ls H locs hl hP hS)
theorem ok_lshr (C : Cx Γ Ω cc nL own ret fr lo l0 Qc) {x : Int64} {y : Int32} (hdg : decode cc pc = .ok (.lshr, 1)) (k : OK Γ Ω nL (pc + 1) L (.long (lshr x y) :: st) σ) : OK Γ Ω nL pc L (.int y :: .long x :: st) σ := by
  obtain ⟨p, l, e, R, s, m, args, below, meth, c, Q⟩ := Γ
  intro ls H locs hl hP hS
  exact lv_lshr C.1 C.2.1 hdg rfl (k ls H locs hl hP hS)
theorem ok_i2l (C : Cx Γ Ω cc nL own ret fr lo l0 Qc) {x : Int32} (hdg : decode cc pc = .ok (.i2l, 1)) (k : OK Γ Ω nL (pc + 1) L (.long x.toInt64 :: st) σ) : OK Γ Ω nL pc L (.int x :: st) σ := by
  obtain ⟨p, l, e, R, s, m, args, below, meth, c, Q⟩ := Γ
  intro ls H locs hl hP hS
  exact lv_i2l C.1 C.2.1 hdg rfl (k ls H locs hl hP hS)
theorem ok_l2i (C : Cx Γ Ω cc nL own ret fr lo l0 Qc) {x : Int64} (hdg : decode cc pc = .ok (.l2i, 1)) (k : OK Γ Ω nL (pc + 1) L (.int x.toInt32 :: st) σ) : OK Γ Ω nL pc L (.long x :: st) σ := by
  obtain ⟨p, l, e, R, s, m, args, below, meth, c, Q⟩ := Γ
  intro ls H locs hl hP hS
  exact lv_l2i C.1 C.2.1 hdg rfl (k ls H locs hl hP hS)
theorem ok_i2b (C : Cx Γ Ω cc nL own ret fr lo l0 Qc) {x : Int32} (hdg : decode cc pc = .ok (.i2b, 1)) (k : OK Γ Ω nL (pc + 1) L (.int (i2b x) :: st) σ) : OK Γ Ω nL pc L (.int x :: st) σ := by
  obtain ⟨p, l, e, R, s, m, args, below, meth, c, Q⟩ := Γ
  intro ls H locs hl hP hS
  exact lv_i2b C.1 C.2.1 hdg rfl (k ls H locs hl hP hS)
theorem ok_lcmp (C : Cx Γ Ω cc nL own ret fr lo l0 Qc) {x y : Int64} (hdg : decode cc pc = .ok (.lcmp, 1)) (k : OK Γ Ω nL (pc + 1) L (.int (lg_cmp x y) :: st) σ) : OK Γ Ω nL pc L (.long y :: .long x :: st) σ := by
  obtain ⟨p, l, e, R, s, m, args, below, meth, c, Q⟩ := Γ
  intro ls H locs hl hP hS
  exact W.lcmp C.1 C.2.1 hdg (k ls H locs hl hP hS)
theorem ok_dup (C : Cx Γ Ω cc nL own ret fr lo l0 Qc) {va : Value} (hdg : decode cc pc = .ok (.dup, 1)) (h1 : va.category = 1) (k : OK Γ Ω nL (pc + 1) L (va :: va :: st) σ) : OK Γ Ω nL pc L (va :: st) σ := by
  obtain ⟨p, l, e, R, s, m, args, below, meth, c, Q⟩ := Γ
  intro ls H locs hl hP hS
  exact lv_dup C.1 C.2.1 hdg h1 (k ls H locs hl hP hS)
theorem ok_dup_x1 (C : Cx Γ Ω cc nL own ret fr lo l0 Qc) {va vb : Value} (hdg : decode cc pc = .ok (.dup_x1, 1)) (h1 : va.category = 1) (h2 : vb.category = 1) (k : OK Γ Ω nL (pc + 1) L (va :: vb :: va :: st) σ) : OK Γ Ω nL pc L (va :: vb :: st) σ := by
  obtain ⟨p, l, e, R, s, m, args, below, meth, c, Q⟩ := Γ
  intro ls H locs hl hP hS
  exact lv_dup_x1 C.1 C.2.1 hdg h1 h2 (k ls H locs hl hP hS)
theorem ok_dup2_11 (C : Cx Γ Ω cc nL own ret fr lo l0 Qc) {va vb : Value} (hdg : decode cc pc = .ok (.dup2, 1)) (h1 : va.category = 1) (h2 : vb.category = 1) (k : OK Γ Ω nL (pc + 1) L (va :: vb :: va :: vb :: st) σ) : OK Γ Ω nL pc L (va :: vb :: st) σ := by
  obtain ⟨p, l, e, R, s, m, args, below, meth, c, Q⟩ := Γ
  intro ls H locs hl hP hS
  exact lv_dup2_11 C.1 C.2.1 hdg h1 h2 (k ls H locs hl hP hS)
theorem ok_dup_x2 (C : Cx Γ Ω cc nL own ret fr lo l0 Qc) {va vb vc : Value} (hdg : decode cc pc = .ok (.dup_x2, 1)) (h1 : va.category = 1) (h2 : vb.category = 1) (h3 : vc.category = 1) (k : OK Γ Ω nL (pc + 1) L (va :: vb :: vc :: va :: st) σ) : OK Γ Ω nL pc L (va :: vb :: vc :: st) σ := by
  obtain ⟨p, l, e, R, s, m, args, below, meth, c, Q⟩ := Γ
  intro ls H locs hl hP hS
  exact lv_dup_x2 C.1 C.2.1 hdg h1 h2 h3 (k ls H locs hl hP hS)
theorem ok_pop (C : Cx Γ Ω cc nL own ret fr lo l0 Qc) {va : Value} (hdg : decode cc pc = .ok (.pop, 1)) (h1 : va.category = 1) (k : OK Γ Ω nL (pc + 1) L (st) σ) : OK Γ Ω nL pc L (va :: st) σ := by
  obtain ⟨p, l, e, R, s, m, args, below, meth, c, Q⟩ := Γ
  intro ls H locs hl hP hS
  exact lv_pop C.1 C.2.1 hdg h1 (k ls H locs hl hP hS)
theorem ok_if_eq (C : Cx Γ Ω cc nL own ret fr lo l0 Qc) {x : Int32} {off : Int} (tgt : Nat) (hdg : decode cc pc = .ok (.ifCond .eq off, 3)) (ht : (pc : Int) + off = (tgt : Int)) (k1 : x = 0 → OK Γ Ω nL tgt L st σ) (k2 : ¬ x = 0 → OK Γ Ω nL (pc + 3) L st σ) : OK Γ Ω nL pc L (.int x :: st) σ := by
  obtain ⟨p, l, e, R, s, m, args, below, meth, c, Q⟩ := Γ
  intro ls H locs hl hP hS
  exact lv_if_eq C.1 C.2.1 hdg ht (fun h => k1 h ls H locs hl hP hS) (fun h => k2 h ls H locs hl hP hS)
theorem ok_if_ne (C : Cx Γ Ω cc nL own ret fr lo l0 Qc) {x : Int32} {off : Int} (tgt : Nat) (hdg : decode cc pc = .ok (.ifCond .ne off, 3)) (ht : (pc : Int) + off = (tgt : Int)) (k1 : ¬ x = 0 → OK Γ Ω nL tgt L st σ) (k2 : x = 0 → OK Γ Ω nL (pc + 3) L st σ) : OK Γ Ω nL pc L (.int x :: st) σ := by
  obtain ⟨p, l, e, R, s, m, args, below, meth, c, Q⟩ := Γ
  intro ls H locs hl hP hS
  exact lv_if_ne C.1 C.2.1 hdg ht (fun h => k1 h ls H locs hl hP hS) (fun h => k2 h ls H locs hl hP hS)
theorem ok_if_lt (C : Cx Γ Ω cc nL own ret fr lo l0 Qc) {x : Int32} {off : Int} (tgt : Nat) (hdg : decode cc pc = .ok (.ifCond .lt off, 3)) (ht : (pc : Int) + off = (tgt : Int)) (k1 : x < 0 → OK Γ Ω nL tgt L st σ) (k2 : ¬ x < 0 → OK Γ Ω nL (pc + 3) L st σ) : OK Γ Ω nL pc L (.int x :: st) σ := by
  obtain ⟨p, l, e, R, s, m, args, below, meth, c, Q⟩ := Γ
  intro ls H locs hl hP hS
  exact lv_if_lt C.1 C.2.1 hdg ht (fun h => k1 h ls H locs hl hP hS) (fun h => k2 h ls H locs hl hP hS)
theorem ok_if_ge (C : Cx Γ Ω cc nL own ret fr lo l0 Qc) {x : Int32} {off : Int} (tgt : Nat) (hdg : decode cc pc = .ok (.ifCond .ge off, 3)) (ht : (pc : Int) + off = (tgt : Int)) (k1 : 0 ≤ x → OK Γ Ω nL tgt L st σ) (k2 : ¬ 0 ≤ x → OK Γ Ω nL (pc + 3) L st σ) : OK Γ Ω nL pc L (.int x :: st) σ := by
  obtain ⟨p, l, e, R, s, m, args, below, meth, c, Q⟩ := Γ
  intro ls H locs hl hP hS
  exact lv_if_ge C.1 C.2.1 hdg ht (fun h => k1 h ls H locs hl hP hS) (fun h => k2 h ls H locs hl hP hS)
theorem ok_if_gt (C : Cx Γ Ω cc nL own ret fr lo l0 Qc) {x : Int32} {off : Int} (tgt : Nat) (hdg : decode cc pc = .ok (.ifCond .gt off, 3)) (ht : (pc : Int) + off = (tgt : Int)) (k1 : 0 < x → OK Γ Ω nL tgt L st σ) (k2 : ¬ 0 < x → OK Γ Ω nL (pc + 3) L st σ) : OK Γ Ω nL pc L (.int x :: st) σ := by
  obtain ⟨p, l, e, R, s, m, args, below, meth, c, Q⟩ := Γ
  intro ls H locs hl hP hS
  exact lv_if_gt C.1 C.2.1 hdg ht (fun h => k1 h ls H locs hl hP hS) (fun h => k2 h ls H locs hl hP hS)
theorem ok_if_le (C : Cx Γ Ω cc nL own ret fr lo l0 Qc) {x : Int32} {off : Int} (tgt : Nat) (hdg : decode cc pc = .ok (.ifCond .le off, 3)) (ht : (pc : Int) + off = (tgt : Int)) (k1 : x ≤ 0 → OK Γ Ω nL tgt L st σ) (k2 : ¬ x ≤ 0 → OK Γ Ω nL (pc + 3) L st σ) : OK Γ Ω nL pc L (.int x :: st) σ := by
  obtain ⟨p, l, e, R, s, m, args, below, meth, c, Q⟩ := Γ
  intro ls H locs hl hP hS
  exact lv_if_le C.1 C.2.1 hdg ht (fun h => k1 h ls H locs hl hP hS) (fun h => k2 h ls H locs hl hP hS)
theorem ok_icmp_eq (C : Cx Γ Ω cc nL own ret fr lo l0 Qc) {x y : Int32} {off : Int} (tgt : Nat) (hdg : decode cc pc = .ok (.if_icmp .eq off, 3)) (ht : (pc : Int) + off = (tgt : Int)) (k1 : x = y → OK Γ Ω nL tgt L st σ) (k2 : ¬ x = y → OK Γ Ω nL (pc + 3) L st σ) : OK Γ Ω nL pc L (.int y :: .int x :: st) σ := by
  obtain ⟨p, l, e, R, s, m, args, below, meth, c, Q⟩ := Γ
  intro ls H locs hl hP hS
  exact lv_icmp_eq C.1 C.2.1 hdg ht (fun h => k1 h ls H locs hl hP hS) (fun h => k2 h ls H locs hl hP hS)
theorem ok_icmp_ne (C : Cx Γ Ω cc nL own ret fr lo l0 Qc) {x y : Int32} {off : Int} (tgt : Nat) (hdg : decode cc pc = .ok (.if_icmp .ne off, 3)) (ht : (pc : Int) + off = (tgt : Int)) (k1 : ¬ x = y → OK Γ Ω nL tgt L st σ) (k2 : x = y → OK Γ Ω nL (pc + 3) L st σ) : OK Γ Ω nL pc L (.int y :: .int x :: st) σ := by
  obtain ⟨p, l, e, R, s, m, args, below, meth, c, Q⟩ := Γ
  intro ls H locs hl hP hS
  exact lv_icmp_ne C.1 C.2.1 hdg ht (fun h => k1 h ls H locs hl hP hS) (fun h => k2 h ls H locs hl hP hS)
theorem ok_icmp_lt (C : Cx Γ Ω cc nL own ret fr lo l0 Qc) {x y : Int32} {off : Int} (tgt : Nat) (hdg : decode cc pc = .ok (.if_icmp .lt off, 3)) (ht : (pc : Int) + off = (tgt : Int)) (k1 : x < y → OK Γ Ω nL tgt L st σ) (k2 : ¬ x < y → OK Γ Ω nL (pc + 3) L st σ) : OK Γ Ω nL pc L (.int y :: .int x :: st) σ := by
  obtain ⟨p, l, e, R, s, m, args, below, meth, c, Q⟩ := Γ
  intro ls H locs hl hP hS
  exact lv_icmp_lt C.1 C.2.1 hdg ht (fun h => k1 h ls H locs hl hP hS) (fun h => k2 h ls H locs hl hP hS)
theorem ok_icmp_ge (C : Cx Γ Ω cc nL own ret fr lo l0 Qc) {x y : Int32} {off : Int} (tgt : Nat) (hdg : decode cc pc = .ok (.if_icmp .ge off, 3)) (ht : (pc : Int) + off = (tgt : Int)) (k1 : y ≤ x → OK Γ Ω nL tgt L st σ) (k2 : ¬ y ≤ x → OK Γ Ω nL (pc + 3) L st σ) : OK Γ Ω nL pc L (.int y :: .int x :: st) σ := by
  obtain ⟨p, l, e, R, s, m, args, below, meth, c, Q⟩ := Γ
  intro ls H locs hl hP hS
  exact lv_icmp_ge C.1 C.2.1 hdg ht (fun h => k1 h ls H locs hl hP hS) (fun h => k2 h ls H locs hl hP hS)
theorem ok_icmp_gt (C : Cx Γ Ω cc nL own ret fr lo l0 Qc) {x y : Int32} {off : Int} (tgt : Nat) (hdg : decode cc pc = .ok (.if_icmp .gt off, 3)) (ht : (pc : Int) + off = (tgt : Int)) (k1 : y < x → OK Γ Ω nL tgt L st σ) (k2 : ¬ y < x → OK Γ Ω nL (pc + 3) L st σ) : OK Γ Ω nL pc L (.int y :: .int x :: st) σ := by
  obtain ⟨p, l, e, R, s, m, args, below, meth, c, Q⟩ := Γ
  intro ls H locs hl hP hS
  exact lv_icmp_gt C.1 C.2.1 hdg ht (fun h => k1 h ls H locs hl hP hS) (fun h => k2 h ls H locs hl hP hS)
theorem ok_icmp_le (C : Cx Γ Ω cc nL own ret fr lo l0 Qc) {x y : Int32} {off : Int} (tgt : Nat) (hdg : decode cc pc = .ok (.if_icmp .le off, 3)) (ht : (pc : Int) + off = (tgt : Int)) (k1 : x ≤ y → OK Γ Ω nL tgt L st σ) (k2 : ¬ x ≤ y → OK Γ Ω nL (pc + 3) L st σ) : OK Γ Ω nL pc L (.int y :: .int x :: st) σ := by
  obtain ⟨p, l, e, R, s, m, args, below, meth, c, Q⟩ := Γ
  intro ls H locs hl hP hS
  exact lv_icmp_le C.1 C.2.1 hdg ht (fun h => k1 h ls H locs hl hP hS) (fun h => k2 h ls H locs hl hP hS)
theorem ok_goto (C : Cx Γ Ω cc nL own ret fr lo l0 Qc) {off : Int} (tgt : Nat) (hdg : decode cc pc = .ok (.goto off, 3)) (ht : (pc : Int) + off = (tgt : Int)) (k : OK Γ Ω nL tgt L st σ) : OK Γ Ω nL pc L st σ := by
  obtain ⟨p, l, e, R, s, m, args, below, meth, c, Q⟩ := Γ
  intro ls H locs hl hP hS
  exact lv_goto C.1 C.2.1 hdg ht (k ls H locs hl hP hS)
theorem ok_tableIn (C : Cx Γ Ω cc nL own ret fr lo l0 Qc) {dflt lw hi off : Int} {offs : Array Int} {len : Nat} {x : Int32} (tgt : Nat) (hdg : decode cc pc = .ok (.tableswitch dflt lw hi offs, len)) (h1 : ¬ x.toInt < lw) (h2 : ¬ hi < x.toInt) (ho : offs[(x.toInt - lw).toNat]? = some off) (ht : (pc : Int) + off = (tgt : Int)) (k : OK Γ Ω nL tgt L st σ) : OK Γ Ω nL pc L (.int x :: st) σ := by
  obtain ⟨p, l, e, R, s, m, args, below, meth, c, Q⟩ := Γ
  intro ls H locs hl hP hS
  exact lv_tableIn C.1 C.2.1 hdg h1 h2 ho ht (k ls H locs hl hP hS)
theorem ok_tableOut (C : Cx Γ Ω cc nL own ret fr lo l0 Qc) {dflt lw hi : Int} {offs : Array Int} {len : Nat} {x : Int32} (tgt : Nat) (hdg : decode cc pc = .ok (.tableswitch dflt lw hi offs, len)) (h : x.toInt < lw ∨ hi < x.toInt) (ht : (pc : Int) + dflt = (tgt : Int)) (k : OK Γ Ω nL tgt L st σ) : OK Γ Ω nL pc L (.int x :: st) σ := by
  obtain ⟨p, l, e, R, s, m, args, below, meth, c, Q⟩ := Γ
  intro ls H locs hl hP hS
  exact lv_tableOut C.1 C.2.1 hdg h ht (k ls H locs hl hP hS)
theorem ok_ldc (C : Cx Γ Ω cc nL own ret fr lo l0 Qc) {ix : Nat} {v : Int32} (hc : Cond.constant own ix v ∈ GW) (hdg : decode cc pc = .ok (.ldc ix, 2)) (k : OK Γ Ω nL (pc + 2) L (.int v :: st) σ) : OK Γ Ω nL pc L st σ := by
  obtain ⟨p, l, e, R, s, m, args, below, meth, c, Q⟩ := Γ
  intro ls H locs hl hP hS
  exact lv_ldc C.1 C.2.1 C.2.2.2.1 (C.2.2.2.2.1 _ hc) hdg (k ls H locs hl hP hS)
theorem ok_ldcw (C : Cx Γ Ω cc nL own ret fr lo l0 Qc) {ix : Nat} {v : Int32} (hc : Cond.constant own ix v ∈ GW) (hdg : decode cc pc = .ok (.ldc_w ix, 3)) (k : OK Γ Ω nL (pc + 3) L (.int v :: st) σ) : OK Γ Ω nL pc L st σ := by
  obtain ⟨p, l, e, R, s, m, args, below, meth, c, Q⟩ := Γ
  intro ls H locs hl hP hS
  exact lv_ldcw C.1 C.2.1 C.2.2.2.1 (C.2.2.2.2.1 _ hc) hdg (k ls H locs hl hP hS)
theorem ok_ldc2 (C : Cx Γ Ω cc nL own ret fr lo l0 Qc) {ix : Nat} {v : Int64} (hc : Cond.constantLong own ix v ∈ GW) (hdg : decode cc pc = .ok (.ldc2_w ix, 3)) (k : OK Γ Ω nL (pc + 3) L (.long v :: st) σ) : OK Γ Ω nL pc L st σ := by
  obtain ⟨p, l, e, R, s, m, args, below, meth, c, Q⟩ := Γ
  intro ls H locs hl hP hS
  exact lv_ldc2 C.1 C.2.1 C.2.2.2.1 (C.2.2.2.2.1 _ hc) hdg (k ls H locs hl hP hS)
theorem ok_sub {L2 : List (Nat × Value)} (zs : List Nat) (hz : lv_pick L zs = L2) (k : OK Γ Ω nL pc L2 st σ) : OK Γ Ω nL pc L st σ := fun ls H locs hl hP hS => k ls H locs (lv_sub hl zs hz) hP hS
theorem ok_getI (C : Cx Γ Ω cc nL own ret fr lo l0 Qc) {ref C0 : String} {T : u_T} {N ci ix : Nat} (hin : ∀ w ∈ u_ws C0 T N, w ∈ GW) {q : Nat} {fl : List (Option Nat)} {n0 : Nat} (hq : Ω.2.1[q]? = some (ci + 5, n0, fl)) (hc : CLs[ci]? = some (C0, T, N)) (j : Nat) (hj : j < N) (hlink : Cond.fieldLink own ix ref (T j).2.1 (T j).2.2.1 ∈ GW) (hsame : ∀ (s : State) x, s.fieldFound? (T j).1 (T j).2.1 (T j).2.2.1 = some x → s.fieldFound? ref (T j).2.1 (T j).2.2.1 = some x) (hf : fl[j]? = some none) (hdg : decode cc pc = .ok (.getfield ix, 3)) (k : OK Γ Ω nL (pc + 3) L (.int (σ.1 q j) :: st) σ) : OK Γ Ω nL pc L (.ref (Ω.2.2.1 q) :: st) σ := by
  obtain ⟨p, l, e, R, s, m, args, below, meth, c, Q⟩ := Γ
  intro ls H locs hl hP hS
  exact va_get C.1 C.2.1 C.2.2.2.2.1 hin C.2.2.2.1 C.2.2.2.2.2.1 hP q (wl_at hq) hc j hj (C.2.2.2.2.1 _ hlink) (hsame _) (fvs_at hf) hdg (k ls H locs hl hP hS)
theorem ok_getIN (C : Cx Γ Ω cc nL own ret fr lo l0 Qc) {ref C0 : String} {T : u_T} {N ci ix : Nat} (hin : ∀ w ∈ u_ws C0 T N, w ∈ GW) {q : Nat} {fl : List (Option Nat)} {n0 : Nat} (hq : Ω.2.1[q]? = some (ci + 5, n0, fl)) (hc : CLs[ci]? = some (C0, T, N)) (j : Nat) (hj : j < N) {host : String} (hlink : Cond.fieldLinkNest own ix ref (T j).2.1 (T j).2.2.1 host ∈ GW) (hsame : ∀ (s : State) x, s.fieldFound? (T j).1 (T j).2.1 (T j).2.2.1 = some x → s.fieldFound? ref (T j).2.1 (T j).2.2.1 = some x) (hf : fl[j]? = some none) (hdg : decode cc pc = .ok (.getfield ix, 3)) (k : OK Γ Ω nL (pc + 3) L (.int (σ.1 q j) :: st) σ) : OK Γ Ω nL pc L (.ref (Ω.2.2.1 q) :: st) σ := by
  obtain ⟨p, l, e, R, s, m, args, below, meth, c, Q⟩ := Γ
  intro ls H locs hl hP hS
  exact va_getN C.1 C.2.1 C.2.2.2.2.1 hin C.2.2.2.1 C.2.2.2.2.2.1 hP q (wl_at hq) hc j hj (C.2.2.2.2.1 _ hlink) (hsame _) (fvs_at hf) hdg (k ls H locs hl hP hS)
theorem ok_getR (C : Cx Γ Ω cc nL own ret fr lo l0 Qc) {ref C0 : String} {T : u_T} {N ci ix : Nat} (hin : ∀ w ∈ u_ws C0 T N, w ∈ GW) {q : Nat} {fl : List (Option Nat)} {n0 : Nat} (hq : Ω.2.1[q]? = some (ci + 5, n0, fl)) (hc : CLs[ci]? = some (C0, T, N)) (j : Nat) (hj : j < N) (hlink : Cond.fieldLink own ix ref (T j).2.1 (T j).2.2.1 ∈ GW) (hsame : ∀ (s : State) x, s.fieldFound? (T j).1 (T j).2.1 (T j).2.2.1 = some x → s.fieldFound? ref (T j).2.1 (T j).2.2.1 = some x) {r : Nat} (hf : fl[j]? = some (some r)) (hdg : decode cc pc = .ok (.getfield ix, 3)) (k : OK Γ Ω nL (pc + 3) L (.ref (Ω.2.2.1 r) :: st) σ) : OK Γ Ω nL pc L (.ref (Ω.2.2.1 q) :: st) σ := by
  obtain ⟨p, l, e, R, s, m, args, below, meth, c, Q⟩ := Γ
  intro ls H locs hl hP hS
  exact va_get C.1 C.2.1 C.2.2.2.2.1 hin C.2.2.2.1 C.2.2.2.2.2.1 hP q (wl_at hq) hc j hj (C.2.2.2.2.1 _ hlink) (hsame _) (fvs_at hf) hdg (k ls H locs hl hP hS)
theorem ok_getRN (C : Cx Γ Ω cc nL own ret fr lo l0 Qc) {ref C0 : String} {T : u_T} {N ci ix : Nat} (hin : ∀ w ∈ u_ws C0 T N, w ∈ GW) {q : Nat} {fl : List (Option Nat)} {n0 : Nat} (hq : Ω.2.1[q]? = some (ci + 5, n0, fl)) (hc : CLs[ci]? = some (C0, T, N)) (j : Nat) (hj : j < N) {host : String} (hlink : Cond.fieldLinkNest own ix ref (T j).2.1 (T j).2.2.1 host ∈ GW) (hsame : ∀ (s : State) x, s.fieldFound? (T j).1 (T j).2.1 (T j).2.2.1 = some x → s.fieldFound? ref (T j).2.1 (T j).2.2.1 = some x) {r : Nat} (hf : fl[j]? = some (some r)) (hdg : decode cc pc = .ok (.getfield ix, 3)) (k : OK Γ Ω nL (pc + 3) L (.ref (Ω.2.2.1 r) :: st) σ) : OK Γ Ω nL pc L (.ref (Ω.2.2.1 q) :: st) σ := by
  obtain ⟨p, l, e, R, s, m, args, below, meth, c, Q⟩ := Γ
  intro ls H locs hl hP hS
  exact va_getN C.1 C.2.1 C.2.2.2.2.1 hin C.2.2.2.1 C.2.2.2.2.2.1 hP q (wl_at hq) hc j hj (C.2.2.2.2.1 _ hlink) (hsame _) (fvs_at hf) hdg (k ls H locs hl hP hS)
theorem ok_putI (C : Cx Γ Ω cc nL own ret fr lo l0 Qc) {ref C0 : String} {T : u_T} {N ci ix : Nat} (hin : ∀ w ∈ u_ws C0 T N, w ∈ GW) {q : Nat} {fl : List (Option Nat)} {n0 : Nat} (hq : Ω.2.1[q]? = some (ci + 5, n0, fl)) (hc : CLs[ci]? = some (C0, T, N)) (j : Nat) (hj : j < N) (hlink : Cond.fieldLink own ix ref (T j).2.1 (T j).2.2.1 ∈ GW) (hsame : ∀ (s : State) x, s.fieldFound? (T j).1 (T j).2.1 (T j).2.2.1 = some x → s.fieldFound? ref (T j).2.1 (T j).2.2.1 = some x) (ty0 : Nat → FieldType) (hty : ∀ k, k < N → parseFieldDescriptor (T k).2.2.1 = some (ty0 k)) (hnm : ∀ a, a < N → ∀ b, b < N → a ≠ b → (T a).2.1 ≠ (T b).2.1) (hfin : (T j).2.2.2 = false) {v : Int32} (hd : parseFieldDescriptor (T j).2.2.1 = some (ty0 j)) (hnr : narrow (ty0 j) (.int v) = .int v) (hft : fits (ty0 j) (.int v) = true) (hf : fl[j]? = some none) (hdg : decode cc pc = .ok (.putfield ix, 3)) (k : OK Γ Ω nL (pc + 3) L st (pI σ q j v)) : OK Γ Ω nL pc L (.int v :: .ref (Ω.2.2.1 q) :: st) σ := by
  obtain ⟨p, l, e, R, s, m, args, below, meth, c, Q⟩ := Γ
  intro ls H locs hl hP hS
  refine va_put C.1 C.2.1 C.2.2.2.2.1 hin ty0 hty hnm C.2.2.2.1 C.2.2.2.2.2.1 hP (C.2.2.2.2.2.2.1.D σ s.heap.size) hS q (wl_at hq) hc j hj (C.2.2.2.2.1 _ hlink) (hsame _) hfin hd hnr hft (by unfold fvs; rw [List.length_mapIdx]; exact (List.getElem?_eq_some_iff.mp hf).1) hdg (fun H1 locs1 hP1 _ hS1 => ?_)
  have e : (wl Ω σ).set q (Ω.2.2.1 q, .inr (ci, (fvs Ω.2.2.1 (σ.1 q) fl).set j (.int v))) = wl Ω (pI σ q j v) := wl_set hq (by rw [pI_upd, fvs_set hf]; try rfl) (fun a h => pI_ne σ j v h) (fun a _ => rfl)
  exact k ls H1 locs1 hl (e ▸ hP1) hS1
theorem ok_putIN (C : Cx Γ Ω cc nL own ret fr lo l0 Qc) {ref C0 : String} {T : u_T} {N ci ix : Nat} (hin : ∀ w ∈ u_ws C0 T N, w ∈ GW) {q : Nat} {fl : List (Option Nat)} {n0 : Nat} (hq : Ω.2.1[q]? = some (ci + 5, n0, fl)) (hc : CLs[ci]? = some (C0, T, N)) (j : Nat) (hj : j < N) {host : String} (hlink : Cond.fieldLinkNest own ix ref (T j).2.1 (T j).2.2.1 host ∈ GW) (hsame : ∀ (s : State) x, s.fieldFound? (T j).1 (T j).2.1 (T j).2.2.1 = some x → s.fieldFound? ref (T j).2.1 (T j).2.2.1 = some x) (ty0 : Nat → FieldType) (hty : ∀ k, k < N → parseFieldDescriptor (T k).2.2.1 = some (ty0 k)) (hnm : ∀ a, a < N → ∀ b, b < N → a ≠ b → (T a).2.1 ≠ (T b).2.1) (hfin : (T j).2.2.2 = false) {v : Int32} (hd : parseFieldDescriptor (T j).2.2.1 = some (ty0 j)) (hnr : narrow (ty0 j) (.int v) = .int v) (hft : fits (ty0 j) (.int v) = true) (hf : fl[j]? = some none) (hdg : decode cc pc = .ok (.putfield ix, 3)) (k : OK Γ Ω nL (pc + 3) L st (pI σ q j v)) : OK Γ Ω nL pc L (.int v :: .ref (Ω.2.2.1 q) :: st) σ := by
  obtain ⟨p, l, e, R, s, m, args, below, meth, c, Q⟩ := Γ
  intro ls H locs hl hP hS
  refine va_putN C.1 C.2.1 C.2.2.2.2.1 hin ty0 hty hnm C.2.2.2.1 C.2.2.2.2.2.1 hP (C.2.2.2.2.2.2.1.D σ s.heap.size) hS q (wl_at hq) hc j hj (C.2.2.2.2.1 _ hlink) (hsame _) hfin hd hnr hft (by unfold fvs; rw [List.length_mapIdx]; exact (List.getElem?_eq_some_iff.mp hf).1) hdg (fun H1 locs1 hP1 _ hS1 => ?_)
  have e : (wl Ω σ).set q (Ω.2.2.1 q, .inr (ci, (fvs Ω.2.2.1 (σ.1 q) fl).set j (.int v))) = wl Ω (pI σ q j v) := wl_set hq (by rw [pI_upd, fvs_set hf]; try rfl) (fun a h => pI_ne σ j v h) (fun a _ => rfl)
  exact k ls H1 locs1 hl (e ▸ hP1) hS1
theorem ok_iald (C : Cx Γ Ω cc nL own ret fr lo l0 Qc) {q n : Nat} {fl : List (Option Nat)} (hq : Ω.2.1[q]? = some (0, n, fl)) {i : Int32} (hi : vp_in i n) (hdg : decode cc pc = .ok (.iaload, 1)) (k : OK Γ Ω nL (pc + 1) L (.int (σ.1 q i.toNatClampNeg) :: st) σ) : OK Γ Ω nL pc L (.int i :: .ref (Ω.2.2.1 q) :: st) σ := by
  obtain ⟨p, l, e, R, s, m, args, below, meth, c, Q⟩ := Γ
  intro ls H locs hl hP hS
  exact va_iald C.1 C.2.1 C.2.2.2.2.2.1 hP q 0 (wl_at hq) rfl hi hdg (k ls H locs hl hP hS)
theorem ok_zald (C : Cx Γ Ω cc nL own ret fr lo l0 Qc) {q n : Nat} {fl : List (Option Nat)} (hq : Ω.2.1[q]? = some (2, n, fl)) {i : Int32} (hi : vp_in i n) (hdg : decode cc pc = .ok (.baload, 1)) (k : OK Γ Ω nL (pc + 1) L (.int (σ.1 q i.toNatClampNeg) :: st) σ) : OK Γ Ω nL pc L (.int i :: .ref (Ω.2.2.1 q) :: st) σ := by
  obtain ⟨p, l, e, R, s, m, args, below, meth, c, Q⟩ := Γ
  intro ls H locs hl hP hS
  exact va_zald C.1 C.2.1 C.2.2.2.2.2.1 hP q 2 (wl_at hq) rfl hi hdg (k ls H locs hl hP hS)
theorem ok_bald (C : Cx Γ Ω cc nL own ret fr lo l0 Qc) {q n : Nat} {fl : List (Option Nat)} (hq : Ω.2.1[q]? = some (3, n, fl)) {i : Int32} (hi : vp_in i n) (hdg : decode cc pc = .ok (.baload, 1)) (k : OK Γ Ω nL (pc + 1) L (.int (σ.1 q i.toNatClampNeg) :: st) σ) : OK Γ Ω nL pc L (.int i :: .ref (Ω.2.2.1 q) :: st) σ := by
  obtain ⟨p, l, e, R, s, m, args, below, meth, c, Q⟩ := Γ
  intro ls H locs hl hP hS
  exact va_bald C.1 C.2.1 C.2.2.2.2.2.1 hP q 3 (wl_at hq) rfl hi hdg (k ls H locs hl hP hS)
theorem ok_lald (C : Cx Γ Ω cc nL own ret fr lo l0 Qc) {q n : Nat} {fl : List (Option Nat)} (hq : Ω.2.1[q]? = some (1, n, fl)) {i : Int32} (hi : vp_in i n) (hdg : decode cc pc = .ok (.laload, 1)) (k : OK Γ Ω nL (pc + 1) L (.long (σ.2 q i.toNatClampNeg) :: st) σ) : OK Γ Ω nL pc L (.int i :: .ref (Ω.2.2.1 q) :: st) σ := by
  obtain ⟨p, l, e, R, s, m, args, below, meth, c, Q⟩ := Γ
  intro ls H locs hl hP hS
  exact va_lald C.1 C.2.1 C.2.2.2.2.2.1 hP q 1 (wl_at hq) rfl hi hdg (k ls H locs hl hP hS)
theorem ok_iast (C : Cx Γ Ω cc nL own ret fr lo l0 Qc) {q n : Nat} {fl : List (Option Nat)} (hq : Ω.2.1[q]? = some (0, n, fl)) {i x : Int32} (hi : vp_in i n) (hdg : decode cc pc = .ok (.iastore, 1)) (k : OK Γ Ω nL (pc + 1) L st (pI σ q i.toNatClampNeg x)) : OK Γ Ω nL pc L (.int x :: .int i :: .ref (Ω.2.2.1 q) :: st) σ := by
  obtain ⟨p, l, e, R, s, m, args, below, meth, c, Q⟩ := Γ
  intro ls H locs hl hP hS
  refine va_iast C.1 C.2.1 C.2.2.2.2.2.1 hP (C.2.2.2.2.2.2.1.D σ s.heap.size) hS q 0 (wl_at hq) rfl hi hdg (fun H1 locs1 hP1 _ hS1 => ?_)
  exact k ls H1 locs1 hl ((wl_set (σ := σ) (σ' := pI σ q i.toNatClampNeg x) hq (by rw [pI_upd]) (fun a h => pI_ne σ _ _ h) (fun a _ => rfl)) ▸ hP1) hS1
theorem ok_zast (C : Cx Γ Ω cc nL own ret fr lo l0 Qc) {q n : Nat} {fl : List (Option Nat)} (hq : Ω.2.1[q]? = some (2, n, fl)) {i x : Int32} (hi : vp_in i n) (hdg : decode cc pc = .ok (.bastore, 1)) (k : OK Γ Ω nL (pc + 1) L st (pI σ q i.toNatClampNeg (vp_nar .boolean x))) : OK Γ Ω nL pc L (.int x :: .int i :: .ref (Ω.2.2.1 q) :: st) σ := by
  obtain ⟨p, l, e, R, s, m, args, below, meth, c, Q⟩ := Γ
  intro ls H locs hl hP hS
  refine va_zast C.1 C.2.1 C.2.2.2.2.2.1 hP (C.2.2.2.2.2.2.1.D σ s.heap.size) hS q 2 (wl_at hq) rfl hi hdg (fun H1 locs1 hP1 _ hS1 => ?_)
  exact k ls H1 locs1 hl ((wl_set (σ := σ) (σ' := pI σ q i.toNatClampNeg (vp_nar .boolean x)) hq (by rw [pI_upd]) (fun a h => pI_ne σ _ _ h) (fun a _ => rfl)) ▸ hP1) hS1
theorem ok_bast (C : Cx Γ Ω cc nL own ret fr lo l0 Qc) {q n : Nat} {fl : List (Option Nat)} (hq : Ω.2.1[q]? = some (3, n, fl)) {i x : Int32} (hi : vp_in i n) (hdg : decode cc pc = .ok (.bastore, 1)) (k : OK Γ Ω nL (pc + 1) L st (pI σ q i.toNatClampNeg (vp_nar .byte x))) : OK Γ Ω nL pc L (.int x :: .int i :: .ref (Ω.2.2.1 q) :: st) σ := by
  obtain ⟨p, l, e, R, s, m, args, below, meth, c, Q⟩ := Γ
  intro ls H locs hl hP hS
  refine va_bast C.1 C.2.1 C.2.2.2.2.2.1 hP (C.2.2.2.2.2.2.1.D σ s.heap.size) hS q 3 (wl_at hq) rfl hi hdg (fun H1 locs1 hP1 _ hS1 => ?_)
  exact k ls H1 locs1 hl ((wl_set (σ := σ) (σ' := pI σ q i.toNatClampNeg (vp_nar .byte x)) hq (by rw [pI_upd]) (fun a h => pI_ne σ _ _ h) (fun a _ => rfl)) ▸ hP1) hS1
theorem ok_last (C : Cx Γ Ω cc nL own ret fr lo l0 Qc) {q n : Nat} {fl : List (Option Nat)} (hq : Ω.2.1[q]? = some (1, n, fl)) {i : Int32} {x : Int64} (hi : vp_in i n) (hdg : decode cc pc = .ok (.lastore, 1)) (k : OK Γ Ω nL (pc + 1) L st (pJ σ q i.toNatClampNeg x)) : OK Γ Ω nL pc L (.long x :: .int i :: .ref (Ω.2.2.1 q) :: st) σ := by
  obtain ⟨p, l, e, R, s, m, args, below, meth, c, Q⟩ := Γ
  intro ls H locs hl hP hS
  refine va_last C.1 C.2.1 C.2.2.2.2.2.1 hP (C.2.2.2.2.2.2.1.D σ s.heap.size) hS q 1 (wl_at hq) rfl hi hdg (fun H1 locs1 hP1 _ hS1 => ?_)
  exact k ls H1 locs1 hl ((wl_set (σ := σ) (σ' := pJ σ q i.toNatClampNeg x) hq (by rw [pJ_upd]) (fun a _ => rfl) (fun a h => pJ_ne σ _ _ h)) ▸ hP1) hS1
theorem ok_alen (C : Cx Γ Ω cc nL own ret fr lo l0 Qc) {q n : Nat} {fl : List (Option Nat)} (t : Nat) (ht : t < 4) (hq : Ω.2.1[q]? = some (t, n, fl)) (hdg : decode cc pc = .ok (.arraylength, 1)) (k : OK Γ Ω nL (pc + 1) L (.int (nI n) :: st) σ) : OK Γ Ω nL pc L (.ref (Ω.2.2.1 q) :: st) σ := by
  obtain ⟨p, l, e, R, s, m, args, below, meth, c, Q⟩ := Γ
  intro ls H locs hl hP hS
  match t, ht, hq with
  | 0, _, hq => exact va_alen C.1 C.2.1 C.2.2.2.2.2.1 hP q 0 (wl_at hq) rfl rfl hdg (k ls H locs hl hP hS)
  | 1, _, hq => exact va_alen C.1 C.2.1 C.2.2.2.2.2.1 hP q 1 (wl_at hq) rfl rfl hdg (k ls H locs hl hP hS)
  | 2, _, hq => exact va_alen C.1 C.2.1 C.2.2.2.2.2.1 hP q 2 (wl_at hq) rfl rfl hdg (k ls H locs hl hP hS)
  | 3, _, hq => exact va_alen C.1 C.2.1 C.2.2.2.2.2.1 hP q 3 (wl_at hq) rfl rfl hdg (k ls H locs hl hP hS)
theorem ok_aald (C : Cx Γ Ω cc nL own ret fr lo l0 Qc) {q n : Nat} {fl : List (Option Nat)} (hq : Ω.2.1[q]? = some (4, n, fl)) {i : Int32} (hi : vp_in i n) {r : Nat} (hr : fl.getD i.toNatClampNeg none = some r) (hdg : decode cc pc = .ok (.aaload, 1)) (k : OK Γ Ω nL (pc + 1) L (.ref (Ω.2.2.1 r) :: st) σ) : OK Γ Ω nL pc L (.int i :: .ref (Ω.2.2.1 q) :: st) σ := by
  obtain ⟨p, l, e, R, s, m, args, below, meth, c, Q⟩ := Γ
  intro ls H locs hl hP hS
  refine va_aldq C.1 C.2.1 C.2.2.2.2.2.1 hP q 4 (wl_at hq) rfl hi hdg ?_
  show W p l e R s m args below meth c H locs 0 0 Q (F0 m (pc + 1) ls (va_rf ((fl.getD i.toNatClampNeg none).map Ω.2.2.1) :: st))
  rw [hr]
  exact k ls H locs hl hP hS
theorem ok_gets1 (C : Cx Γ Ω cc nL own ret fr lo l0 Qc) {ix : Nat} (hlink : Cond.fieldLink own ix RX4 "ROUND_WORDS" "[I" ∈ GW) (hdg : decode cc pc = .ok (.getstatic ix, 3)) (k : ∀ t, IsS1 Ω (gS Γ).heap.size (gS Γ) t (gS Γ).heap → OK Γ Ω nL (pc + 3) L (.ref t :: st) σ) : OK Γ Ω nL pc L st σ := by
  obtain ⟨p, l, e, R, s, m, args, below, meth, c, Q⟩ := Γ
  intro ls H locs hl hP hS
  obtain ⟨⟨t, ht⟩, -⟩ := C.2.2.2.2.2.2.2.1
  exact va_gets C.1 C.2.1 ht.1 hS C.2.2.2.1 (C.2.2.2.2.1 _ hlink) (fun _ h => h) hdg (k t ht ls H locs hl hP hS)
theorem ok_gets2 (C : Cx Γ Ω cc nL own ret fr lo l0 Qc) {ix : Nat} (hlink : Cond.fieldLink own ix RX4 "FIRST_STATE" "[I" ∈ GW) (hdg : decode cc pc = .ok (.getstatic ix, 3)) (k : ∀ t, IsS2 Ω (gS Γ).heap.size (gS Γ) t (gS Γ).heap → OK Γ Ω nL (pc + 3) L (.ref t :: st) σ) : OK Γ Ω nL pc L st σ := by
  obtain ⟨p, l, e, R, s, m, args, below, meth, c, Q⟩ := Γ
  intro ls H locs hl hP hS
  obtain ⟨-, t, ht⟩ := C.2.2.2.2.2.2.2.1
  exact va_gets C.1 C.2.1 ht.1 hS C.2.2.2.1 (C.2.2.2.2.1 _ hlink) (fun _ h => h) hdg (k t ht ls H locs hl hP hS)
theorem ok_iald1 (C : Cx Γ Ω cc nL own ret fr lo l0 Qc) {t : Nat} (ht : IsS1 Ω (gS Γ).heap.size (gS Γ) t (gS Γ).heap) {i : Int32} (hi : vp_in i 64) (hdg : decode cc pc = .ok (.iaload, 1)) (k : OK Γ Ω nL (pc + 1) L (.int (K64 i.toNatClampNeg) :: st) σ) : OK Γ Ω nL pc L (.int i :: .ref t :: st) σ := by
  obtain ⟨p, l, e, R, s, m, args, below, meth, c, Q⟩ := Γ
  intro ls H locs hl hP hS
  exact va_ti C.1 C.2.1 ht.2 hS hi rfl hdg (k ls H locs hl hP hS)
theorem ok_copyi (C : Cx Γ Ω cc nL own ret fr lo l0 Qc) {ix : Nat} (h1 : Cond.methodLink own ix arraycopyName ∈ GW) (h2 : Cond.native arraycopyName ∈ GW) (h3 : Cond.static arraycopyName ∈ GW) (h4 : Cond.initialized "java/lang/System" ∈ GW) {q0 q1 n0 n1 : Nat} {fl0 fl1 : List (Option Nat)} (hq0 : Ω.2.1[q0]? = some (0, n0, fl0)) (hq1 : Ω.2.1[q1]? = some (0, n1, fl1)) {sp dp n : Int32} (g1 : ¬ sp < 0) (g2 : ¬ dp < 0) (g3 : ¬ n < 0) (g4 : sp.toNatClampNeg + n.toNatClampNeg ≤ n0) (g5 : dp.toNatClampNeg + n.toNatClampNeg ≤ n1) (hfr : 1 ≤ fr) (hlo : (st.map fun v => v.category).sum + (nativeFrameWords "java/lang/System" "arraycopy" 5 + 11) ≤ lo) (hdg : decode cc pc = .ok (.invokestatic ix, 3)) (k : OK Γ Ω nL (pc + 3) L st (pR σ q1 (va_cpy (σ.1 q0) (σ.1 q1) sp.toNatClampNeg dp.toNatClampNeg n.toNatClampNeg))) : OK Γ Ω nL pc L (.int n :: .int dp :: .ref (Ω.2.2.1 q1) :: .int sp :: .ref (Ω.2.2.1 q0) :: st) σ := by
  obtain ⟨p, l, e, R, s, m, args, below, meth, c, Q⟩ := Γ
  intro ls H locs hl hP hS
  obtain ⟨c1, c2, c3, c4, c5, c6, c7, c8, c9, c10, c11, c12, c13⟩ := C
  subst c11
  refine va_copyi c1 c2 (c3.trans hl.1.symm) c4 (c5 _ h1) (c5 _ h2) (c5 _ h3) (c5 _ h4) c6 hP (c7.D σ s.heap.size) hS q0 q1 0 0 (wl_at hq0) (wl_at hq1) rfl rfl rfl g1 g2 g3 g4 g5 (fun i _ => rfl) hfr hlo hdg (fun H1 locs1 hP1 _ hS1 => ?_)
  exact k ls H1 locs1 hl ((wl_set (σ := σ) (σ' := pR σ q1 (va_cpy (σ.1 q0) (σ.1 q1) sp.toNatClampNeg dp.toNatClampNeg n.toNatClampNeg)) hq1 (by rw [pR_self]) (fun a h => pR_ne σ _ h) (fun a _ => rfl)) ▸ hP1) hS1
theorem ok_copyx (C : Cx Γ Ω cc nL own ret fr lo l0 Qc) {ix : Nat} (h1 : Cond.methodLink own ix arraycopyName ∈ GW) (h2 : Cond.native arraycopyName ∈ GW) (h3 : Cond.static arraycopyName ∈ GW) (h4 : Cond.initialized "java/lang/System" ∈ GW) {t : Nat} (ht : IsS2 Ω (gS Γ).heap.size (gS Γ) t (gS Γ).heap) {q1 n1 : Nat} {fl1 : List (Option Nat)} (hq1 : Ω.2.1[q1]? = some (0, n1, fl1)) {sp dp n : Int32} (g1 : ¬ sp < 0) (g2 : ¬ dp < 0) (g3 : ¬ n < 0) (g4 : sp.toNatClampNeg + n.toNatClampNeg ≤ 8) (g5 : dp.toNatClampNeg + n.toNatClampNeg ≤ n1) (hfr : 1 ≤ fr) (hlo : (st.map fun v => v.category).sum + (nativeFrameWords "java/lang/System" "arraycopy" 5 + 11) ≤ lo) (hdg : decode cc pc = .ok (.invokestatic ix, 3)) (k : OK Γ Ω nL (pc + 3) L st (pR σ q1 (va_cpy H8 (σ.1 q1) sp.toNatClampNeg dp.toNatClampNeg n.toNatClampNeg))) : OK Γ Ω nL pc L (.int n :: .int dp :: .ref (Ω.2.2.1 q1) :: .int sp :: .ref t :: st) σ := by
  obtain ⟨p, l, e, R, s, m, args, below, meth, c, Q⟩ := Γ
  intro ls H locs hl hP hS
  obtain ⟨c1, c2, c3, c4, c5, c6, c7, c8, c9, c10, c11, c12, c13⟩ := C
  subst c11
  refine va_copyx c1 c2 (c3.trans hl.1.symm) c4 (c5 _ h1) (c5 _ h2) (c5 _ h3) (c5 _ h4) c6 hP (c7.D σ s.heap.size) hS ht.2.1 ht.2.2.1 ht.2.2.2 q1 0 (wl_at hq1) rfl g1 g2 g3 g4 g5 hfr hlo hdg (fun H1 locs1 hP1 _ hS1 => ?_)
  exact k ls H1 locs1 hl ((wl_set (σ := σ) (σ' := pR σ q1 (va_cpy H8 (σ.1 q1) sp.toNatClampNeg dp.toNatClampNeg n.toNatClampNeg)) hq1 (by rw [pR_self]) (fun a h => pR_ne σ _ h) (fun a _ => rfl)) ▸ hP1) hS1
theorem ok_mmax (C : Cx Γ Ω cc nL own ret fr lo l0 Qc) {ix : Nat} (h1 : Cond.methodLink own ix Lib.Math.max.name ∈ GW) (h2 : Cond.static Lib.Math.max.name ∈ GW) (h3 : Cond.initialized "java/lang/Math" ∈ GW) (h4 : Cond.code Lib.Math.max.name Lib.Math.max.code 2 (some .int) ∈ GW) (hfr : 1 ≤ fr) (hlo : (st.map fun v => v.category).sum + 13 ≤ lo) {x y : Int32} (hdg : decode cc pc = .ok (.invokestatic ix, 3)) (k : OK Γ Ω nL (pc + 3) L (.int (imax x y) :: st) σ) : OK Γ Ω nL pc L (.int y :: .int x :: st) σ := by
  obtain ⟨p, l, e, R, s, m, args, below, meth, c, Q⟩ := Γ
  intro ls H locs hl hP hS
  obtain ⟨c1, c2, c3, c4, c5, c6, c7, c8, c9, c10, c11, c12, c13⟩ := C
  subst c11
  exact va_mmax c1 c2 (c3.trans hl.1.symm) c4 (c5 _ h1) (c5 _ h2) (c5 _ h3) (c5 _ h4) hfr hlo (Nat.zero_le _) (Nat.zero_le _) hdg (k ls H locs hl hP hS)
theorem ok_mmin (C : Cx Γ Ω cc nL own ret fr lo l0 Qc) {ix : Nat} (h1 : Cond.methodLink own ix Lib.Math.min.name ∈ GW) (h2 : Cond.static Lib.Math.min.name ∈ GW) (h3 : Cond.initialized "java/lang/Math" ∈ GW) (h4 : Cond.code Lib.Math.min.name Lib.Math.min.code 2 (some .int) ∈ GW) (hfr : 1 ≤ fr) (hlo : (st.map fun v => v.category).sum + 13 ≤ lo) {x y : Int32} (hdg : decode cc pc = .ok (.invokestatic ix, 3)) (k : OK Γ Ω nL (pc + 3) L (.int (imin x y) :: st) σ) : OK Γ Ω nL pc L (.int y :: .int x :: st) σ := by
  obtain ⟨p, l, e, R, s, m, args, below, meth, c, Q⟩ := Γ
  intro ls H locs hl hP hS
  obtain ⟨c1, c2, c3, c4, c5, c6, c7, c8, c9, c10, c11, c12, c13⟩ := C
  subst c11
  exact va_mmin c1 c2 (c3.trans hl.1.symm) c4 (c5 _ h1) (c5 _ h2) (c5 _ h3) (c5 _ h4) hfr hlo (Nat.zero_le _) (Nat.zero_le _) hdg (k ls H locs hl hP hS)
theorem ok_iret (C : Cx Γ Ω cc nL own ret fr lo l0 Qc) {Po : Int32 → Sg → Prop} (hQ : Qc = QI Ω Po) (hr : ret = some .int) {v : Int32} (hdg : decode cc pc = .ok (.ireturn, 1)) (hpo : Po v σ) : OK Γ Ω nL pc L [.int v] σ := by
  obtain ⟨p, l, e, R, s, m, args, below, meth, c, Q⟩ := Γ
  intro ls H locs hl hP hS
  obtain ⟨c1, c2, c3, c4, c5, c6, c7, c8, c9, c10, c11, c12, c13⟩ := C
  subst c13 hQ
  exact W.iret c1 c2 (hr ▸ c10) (fun t ht hW => ⟨⟨v, σ, rfl, hpo, (show va_P Ω.1 CLs (wl Ω σ) t.heap by rw [ht]; exact hP)⟩, hS.F ht⟩) hS.2.2 hdg c9
theorem ok_lret (C : Cx Γ Ω cc nL own ret fr lo l0 Qc) {Po : Int64 → Sg → Prop} (hQ : Qc = QL Ω Po) (hr : ret = some .long) {v : Int64} (hdg : decode cc pc = .ok (.lreturn, 1)) (hpo : Po v σ) : OK Γ Ω nL pc L [.long v] σ := by
  obtain ⟨p, l, e, R, s, m, args, below, meth, c, Q⟩ := Γ
  intro ls H locs hl hP hS
  obtain ⟨c1, c2, c3, c4, c5, c6, c7, c8, c9, c10, c11, c12, c13⟩ := C
  subst c13 hQ
  exact W.lret c1 c2 (hr ▸ c10) (fun t ht hW => ⟨⟨v, σ, rfl, hpo, (show va_P Ω.1 CLs (wl Ω σ) t.heap by rw [ht]; exact hP)⟩, hS.F ht⟩) hS.2.2 hdg c9
theorem ok_zret (C : Cx Γ Ω cc nL own ret fr lo l0 Qc) {Po : Int32 → Sg → Prop} (hQ : Qc = QI Ω Po) {v : Int32} {ty : FieldType} (hr : ret = some ty) (hn : narrow ty (.int v) = .int v) (hdg : decode cc pc = .ok (.ireturn, 1)) (hpo : Po v σ) : OK Γ Ω nL pc L [.int v] σ := by
  obtain ⟨p, l, e, R, s, m, args, below, meth, c, Q⟩ := Γ
  intro ls H locs hl hP hS
  obtain ⟨c1, c2, c3, c4, c5, c6, c7, c8, c9, c10, c11, c12, c13⟩ := C
  subst c13 hQ
  exact W.zret c1 c2 (hr ▸ c10) hn (fun t ht hW => ⟨⟨v, σ, rfl, hpo, (show va_P Ω.1 CLs (wl Ω σ) t.heap by rw [ht]; exact hP)⟩, hS.F ht⟩) hS.2.2 hdg c9
theorem ok_vret (C : Cx Γ Ω cc nL own ret fr lo l0 Qc) {Po : Sg → Prop} (hQ : Qc = QV Ω Po) (hr : ret = none) (hdg : decode cc pc = .ok (.return_, 1)) (hpo : Po σ) : OK Γ Ω nL pc L [] σ := by
  obtain ⟨p, l, e, R, s, m, args, below, meth, c, Q⟩ := Γ
  intro ls H locs hl hP hS
  obtain ⟨c1, c2, c3, c4, c5, c6, c7, c8, c9, c10, c11, c12, c13⟩ := C
  subst c13 hQ
  exact W.vret c1 c2 (hr ▸ c10) (fun t ht hW => ⟨⟨σ, rfl, hpo, (show va_P Ω.1 CLs (wl Ω σ) t.heap by rw [ht]; exact hP)⟩, hS.F ht⟩) hS.2.2 hdg c9
theorem ok_aret (C : Cx Γ Ω cc nL own ret fr lo l0 Qc) {Po : Nat → Sg → Prop} (hQ : Qc = QR Ω Po) {C1 : String} (hr : ret = some (.object C1)) {q : Nat} (hdg : decode cc pc = .ok (.areturn, 1)) (hpo : Po q σ) : OK Γ Ω nL pc L [.ref (Ω.2.2.1 q)] σ := by
  obtain ⟨p, l, e, R, s, m, args, below, meth, c, Q⟩ := Γ
  intro ls H locs hl hP hS
  obtain ⟨c1, c2, c3, c4, c5, c6, c7, c8, c9, c10, c11, c12, c13⟩ := C
  subst c13 hQ
  exact W.aret c1 c2 (hr ▸ c10) (Or.inl ⟨_, rfl⟩) (Or.inr ⟨_, rfl⟩) (fun t ht hW => ⟨⟨(q, σ), _, rfl, hpo, rfl, (show va_P Ω.1 CLs (wl Ω σ) t.heap by rw [ht]; exact hP)⟩, hS.F ht⟩) hS.2.2 hdg c9
end OKR
end
section
section OKC
variable {Γ : Gm} {Ω : Wm} {cc bytes : ByteArray} {nL maxL n ix fr2 lo2 : Nat} {own : String} {ret ret2 : Option FieldType} {fr lo : Nat} {l0 : Launch} {Qc Qd : Qt} {pc : Nat} {L : List (Nat × Value)} {st rest As : List Value} {σ : Sg} {y : MethodName}
theorem pb_blind (Ω : Wm) (av : List Value) (sz : Nat) (σ : Sg) : FrameBlind (va_Pc av (PB Ω sz σ)) := fun a U g mk q => by
  obtain ⟨q0, q1, q2, q3, q4, q5⟩ := q
  exact ⟨q0, q1, q2, va_K.moved (u := U) (U := U.calling g mk a) (Vm.Alike.refl U.vm) q3, q4, St.moved (u := U) (U := U.calling g mk a) (Vm.Alike.refl U.vm) q5⟩
theorem pb_at {s : State} {H : Heap} {locs : List Loc} {av : List Value} (hK : va_K Ω.1 CLs (tys Ω) s) (hD : Dj Ω) (hSt : St Ω s.heap.size s s.heap) (hP : va_P Ω.1 CLs (wl Ω σ) H) (hS : va_S (Ar Ω s.heap.size) s.heap H locs) : ∀ U : State, U.heap = H → s.WarmedH U.vm → va_Pc av (PB Ω H.size σ) av.toArray U := by
  intro U hU hW
  subst hU
  exact ⟨rfl, rfl, hP, va_K.moved hW.alike hK, hD, (hSt.kept hS.1 hS.1 hS.2.1).moved hW.alike⟩

theorem ok_callVi (C : Cx Γ Ω cc nL own ret fr lo l0 Qc) {Po : Int32 → Sg → Prop} {q ci n0 N : Nat} {fl : List (Option Nat)} {T : u_T} (hq : Ω.2.1[q]? = some (ci + 5, n0, fl)) (hc : CLs[ci]? = some (y.cls, T, N)) (hM : Ct l0 y bytes maxL ret2 fr2 lo2 Ω (.ref (Ω.2.2.1 q) :: As) σ (QI Ω Po)) (hl : Cond.methodLink own ix y ∈ GW) (hin : Cond.instanceMethod y ∈ GW) (hse : Cond.selects y.cls y y ∈ GW) (hcode : Cond.code y bytes maxL ret2 ∈ GW) (hini : Cond.initialized y.cls ∈ GW) (hd : y.cls ≠ "java/lang/invoke/MethodHandle" ∧ y.cls ≠ "java/lang/invoke/VarHandle" ∧ (parseMethodDescriptor y.desc).map (fun d => d.parameters.length) = some n) (hn : As.length = n) (hR : fr2 + 1 ≤ fr ∧ 8 + (maxL + 11) + lo2 ≤ lo) (hw : (rest.map fun v => v.category).sum ≤ 8) (hst : st = As.reverse ++ .ref (Ω.2.2.1 q) :: rest) (hdg : decode cc pc = .ok (.invokevirtual ix, 3)) (k : ∀ r u, Po r u → OK Γ Ω nL (pc + 3) L (.int r :: rest) u) : OK Γ Ω nL pc L st σ := by
  obtain ⟨p, l, e, R, s, m, args, below, meth, c, Q⟩ := Γ
  obtain ⟨c1, c2, c3, c4, c5, c6, c7, c8, c9, c10, c11, c12, c13⟩ := C
  subst c11 c12
  intro ls H locs hl2 hP hS
  refine va_calli (a := (Value.ref (Ω.2.2.1 q) :: As).toArray) (va_runV ⟨c1, c2, c3, c4, c5⟩ (hM H.size) ⟨callB_of n c5 (gw_goodIn hcode (fun _ h => h)) rfl rfl rfl (c5 _ hini) (c5 _ hl) hd hR, c5 _ hin, c5 _ hse⟩ ⟨pb_blind _ _ _ _, va_recv c6 hP hc (wl_at hq), pb_at c6 c7 c8 hP hS⟩ rfl hn hl2.1 hst (lv_room hw) hdg ⟨Nat.zero_le _, Nat.zero_le _⟩) hS (fun q _ h => Ar.mono hS.1 q h) (fun q h => Ar.mono hS.1 q h) (fun r u t H1 locs1 e1 _ hp hB _ _ hS1 => k r u hp ls H1 locs1 hl2 (e1 ▸ hB) hS1)
theorem ok_callVl (C : Cx Γ Ω cc nL own ret fr lo l0 Qc) {Po : Int64 → Sg → Prop} {q ci n0 N : Nat} {fl : List (Option Nat)} {T : u_T} (hq : Ω.2.1[q]? = some (ci + 5, n0, fl)) (hc : CLs[ci]? = some (y.cls, T, N)) (hM : Ct l0 y bytes maxL ret2 fr2 lo2 Ω (.ref (Ω.2.2.1 q) :: As) σ (QL Ω Po)) (hl : Cond.methodLink own ix y ∈ GW) (hin : Cond.instanceMethod y ∈ GW) (hse : Cond.selects y.cls y y ∈ GW) (hcode : Cond.code y bytes maxL ret2 ∈ GW) (hini : Cond.initialized y.cls ∈ GW) (hd : y.cls ≠ "java/lang/invoke/MethodHandle" ∧ y.cls ≠ "java/lang/invoke/VarHandle" ∧ (parseMethodDescriptor y.desc).map (fun d => d.parameters.length) = some n) (hn : As.length = n) (hR : fr2 + 1 ≤ fr ∧ 8 + (maxL + 11) + lo2 ≤ lo) (hw : (rest.map fun v => v.category).sum ≤ 8) (hst : st = As.reverse ++ .ref (Ω.2.2.1 q) :: rest) (hdg : decode cc pc = .ok (.invokevirtual ix, 3)) (k : ∀ r u, Po r u → OK Γ Ω nL (pc + 3) L (.long r :: rest) u) : OK Γ Ω nL pc L st σ := by
  obtain ⟨p, l, e, R, s, m, args, below, meth, c, Q⟩ := Γ
  obtain ⟨c1, c2, c3, c4, c5, c6, c7, c8, c9, c10, c11, c12, c13⟩ := C
  subst c11 c12
  intro ls H locs hl2 hP hS
  refine va_calll (a := (Value.ref (Ω.2.2.1 q) :: As).toArray) (va_runV ⟨c1, c2, c3, c4, c5⟩ (hM H.size) ⟨callB_of n c5 (gw_goodIn hcode (fun _ h => h)) rfl rfl rfl (c5 _ hini) (c5 _ hl) hd hR, c5 _ hin, c5 _ hse⟩ ⟨pb_blind _ _ _ _, va_recv c6 hP hc (wl_at hq), pb_at c6 c7 c8 hP hS⟩ rfl hn hl2.1 hst (lv_room hw) hdg ⟨Nat.zero_le _, Nat.zero_le _⟩) hS (fun q _ h => Ar.mono hS.1 q h) (fun q h => Ar.mono hS.1 q h) (fun r u t H1 locs1 e1 _ hp hB _ _ hS1 => k r u hp ls H1 locs1 hl2 (e1 ▸ hB) hS1)
theorem ok_callVv (C : Cx Γ Ω cc nL own ret fr lo l0 Qc) {Po : Sg → Prop} {q ci n0 N : Nat} {fl : List (Option Nat)} {T : u_T} (hq : Ω.2.1[q]? = some (ci + 5, n0, fl)) (hc : CLs[ci]? = some (y.cls, T, N)) (hM : Ct l0 y bytes maxL ret2 fr2 lo2 Ω (.ref (Ω.2.2.1 q) :: As) σ (QV Ω Po)) (hl : Cond.methodLink own ix y ∈ GW) (hin : Cond.instanceMethod y ∈ GW) (hse : Cond.selects y.cls y y ∈ GW) (hcode : Cond.code y bytes maxL ret2 ∈ GW) (hini : Cond.initialized y.cls ∈ GW) (hd : y.cls ≠ "java/lang/invoke/MethodHandle" ∧ y.cls ≠ "java/lang/invoke/VarHandle" ∧ (parseMethodDescriptor y.desc).map (fun d => d.parameters.length) = some n) (hn : As.length = n) (hR : fr2 + 1 ≤ fr ∧ 8 + (maxL + 11) + lo2 ≤ lo) (hw : (rest.map fun v => v.category).sum ≤ 8) (hst : st = As.reverse ++ .ref (Ω.2.2.1 q) :: rest) (hdg : decode cc pc = .ok (.invokevirtual ix, 3)) (k : ∀ u, Po u → OK Γ Ω nL (pc + 3) L rest u) : OK Γ Ω nL pc L st σ := by
  obtain ⟨p, l, e, R, s, m, args, below, meth, c, Q⟩ := Γ
  obtain ⟨c1, c2, c3, c4, c5, c6, c7, c8, c9, c10, c11, c12, c13⟩ := C
  subst c11 c12
  intro ls H locs hl2 hP hS
  refine va_callv (a := (Value.ref (Ω.2.2.1 q) :: As).toArray) (va_runV ⟨c1, c2, c3, c4, c5⟩ (hM H.size) ⟨callB_of n c5 (gw_goodIn hcode (fun _ h => h)) rfl rfl rfl (c5 _ hini) (c5 _ hl) hd hR, c5 _ hin, c5 _ hse⟩ ⟨pb_blind _ _ _ _, va_recv c6 hP hc (wl_at hq), pb_at c6 c7 c8 hP hS⟩ rfl hn hl2.1 hst (lv_room hw) hdg ⟨Nat.zero_le _, Nat.zero_le _⟩) hS (fun q _ h => Ar.mono hS.1 q h) (fun q h => Ar.mono hS.1 q h) (fun u t H1 locs1 e1 _ hp hB _ _ hS1 => k u hp ls H1 locs1 hl2 (e1 ▸ hB) hS1)
theorem ok_callVr (C : Cx Γ Ω cc nL own ret fr lo l0 Qc) {Po : Nat → Sg → Prop} {q ci n0 N : Nat} {fl : List (Option Nat)} {T : u_T} (hq : Ω.2.1[q]? = some (ci + 5, n0, fl)) (hc : CLs[ci]? = some (y.cls, T, N)) (hM : Ct l0 y bytes maxL ret2 fr2 lo2 Ω (.ref (Ω.2.2.1 q) :: As) σ (QR Ω Po)) (hl : Cond.methodLink own ix y ∈ GW) (hin : Cond.instanceMethod y ∈ GW) (hse : Cond.selects y.cls y y ∈ GW) (hcode : Cond.code y bytes maxL ret2 ∈ GW) (hini : Cond.initialized y.cls ∈ GW) (hd : y.cls ≠ "java/lang/invoke/MethodHandle" ∧ y.cls ≠ "java/lang/invoke/VarHandle" ∧ (parseMethodDescriptor y.desc).map (fun d => d.parameters.length) = some n) (hn : As.length = n) (hR : fr2 + 1 ≤ fr ∧ 8 + (maxL + 11) + lo2 ≤ lo) (hw : (rest.map fun v => v.category).sum ≤ 8) (hst : st = As.reverse ++ .ref (Ω.2.2.1 q) :: rest) (hdg : decode cc pc = .ok (.invokevirtual ix, 3)) (k : ∀ r u, Po r u → OK Γ Ω nL (pc + 3) L (.ref (Ω.2.2.1 r) :: rest) u) : OK Γ Ω nL pc L st σ := by
  obtain ⟨p, l, e, R, s, m, args, below, meth, c, Q⟩ := Γ
  obtain ⟨c1, c2, c3, c4, c5, c6, c7, c8, c9, c10, c11, c12, c13⟩ := C
  subst c11 c12
  intro ls H locs hl2 hP hS
  refine va_callr (a := (Value.ref (Ω.2.2.1 q) :: As).toArray) (va_runV ⟨c1, c2, c3, c4, c5⟩ (hM H.size) ⟨callB_of n c5 (gw_goodIn hcode (fun _ h => h)) rfl rfl rfl (c5 _ hini) (c5 _ hl) hd hR, c5 _ hin, c5 _ hse⟩ ⟨pb_blind _ _ _ _, va_recv c6 hP hc (wl_at hq), pb_at c6 c7 c8 hP hS⟩ rfl hn hl2.1 hst (lv_room hw) hdg ⟨Nat.zero_le _, Nat.zero_le _⟩) hS (fun q _ h => Ar.mono hS.1 q h) (fun q h => Ar.mono hS.1 q h) (fun u ra t H1 locs1 e1 _ hp hB _ _ hS1 => by obtain ⟨hr1, hB⟩ := hB; subst hr1; exact k u.1 u.2 hp ls H1 locs1 hl2 (e1 ▸ hB) hS1)
theorem ok_callSi (C : Cx Γ Ω cc nL own ret fr lo l0 Qc) {Po : Int32 → Sg → Prop}  (hM : Ct l0 y bytes maxL ret2 fr2 lo2 Ω As σ (QI Ω Po)) (hl : Cond.methodLink own ix y ∈ GW) (hstat : Cond.static y ∈ GW) (hcode : Cond.code y bytes maxL ret2 ∈ GW) (hini : Cond.initialized y.cls ∈ GW) (hd : y.cls ≠ "java/lang/invoke/MethodHandle" ∧ y.cls ≠ "java/lang/invoke/VarHandle" ∧ (parseMethodDescriptor y.desc).map (fun d => d.parameters.length) = some n) (hn : As.length = n) (hR : fr2 + 1 ≤ fr ∧ 8 + (maxL + 11) + lo2 ≤ lo) (hw : (rest.map fun v => v.category).sum ≤ 8) (hst : st = As.reverse ++ rest) (hdg : decode cc pc = .ok (.invokestatic ix, 3)) (k : ∀ r u, Po r u → OK Γ Ω nL (pc + 3) L (.int r :: rest) u) : OK Γ Ω nL pc L st σ := by
  obtain ⟨p, l, e, R, s, m, args, below, meth, c, Q⟩ := Γ
  obtain ⟨c1, c2, c3, c4, c5, c6, c7, c8, c9, c10, c11, c12, c13⟩ := C
  subst c11 c12
  intro ls H locs hl2 hP hS
  refine va_calli (a := As.toArray) (va_runS ⟨c1, c2, c3, c4, c5⟩ (hM H.size) ⟨callB_of n c5 (gw_goodIn hcode (fun _ h => h)) rfl rfl rfl (c5 _ hini) (c5 _ hl) hd hR, c5 _ hstat⟩ ⟨pb_blind _ _ _ _, pb_at c6 c7 c8 hP hS⟩ rfl hn hl2.1 hst (lv_room hw) hdg ⟨Nat.zero_le _, Nat.zero_le _⟩) hS (fun q _ h => Ar.mono hS.1 q h) (fun q h => Ar.mono hS.1 q h) (fun r u t H1 locs1 e1 _ hp hB _ _ hS1 => k r u hp ls H1 locs1 hl2 (e1 ▸ hB) hS1)
theorem ok_callSl (C : Cx Γ Ω cc nL own ret fr lo l0 Qc) {Po : Int64 → Sg → Prop}  (hM : Ct l0 y bytes maxL ret2 fr2 lo2 Ω As σ (QL Ω Po)) (hl : Cond.methodLink own ix y ∈ GW) (hstat : Cond.static y ∈ GW) (hcode : Cond.code y bytes maxL ret2 ∈ GW) (hini : Cond.initialized y.cls ∈ GW) (hd : y.cls ≠ "java/lang/invoke/MethodHandle" ∧ y.cls ≠ "java/lang/invoke/VarHandle" ∧ (parseMethodDescriptor y.desc).map (fun d => d.parameters.length) = some n) (hn : As.length = n) (hR : fr2 + 1 ≤ fr ∧ 8 + (maxL + 11) + lo2 ≤ lo) (hw : (rest.map fun v => v.category).sum ≤ 8) (hst : st = As.reverse ++ rest) (hdg : decode cc pc = .ok (.invokestatic ix, 3)) (k : ∀ r u, Po r u → OK Γ Ω nL (pc + 3) L (.long r :: rest) u) : OK Γ Ω nL pc L st σ := by
  obtain ⟨p, l, e, R, s, m, args, below, meth, c, Q⟩ := Γ
  obtain ⟨c1, c2, c3, c4, c5, c6, c7, c8, c9, c10, c11, c12, c13⟩ := C
  subst c11 c12
  intro ls H locs hl2 hP hS
  refine va_calll (a := As.toArray) (va_runS ⟨c1, c2, c3, c4, c5⟩ (hM H.size) ⟨callB_of n c5 (gw_goodIn hcode (fun _ h => h)) rfl rfl rfl (c5 _ hini) (c5 _ hl) hd hR, c5 _ hstat⟩ ⟨pb_blind _ _ _ _, pb_at c6 c7 c8 hP hS⟩ rfl hn hl2.1 hst (lv_room hw) hdg ⟨Nat.zero_le _, Nat.zero_le _⟩) hS (fun q _ h => Ar.mono hS.1 q h) (fun q h => Ar.mono hS.1 q h) (fun r u t H1 locs1 e1 _ hp hB _ _ hS1 => k r u hp ls H1 locs1 hl2 (e1 ▸ hB) hS1)
theorem ok_callSv (C : Cx Γ Ω cc nL own ret fr lo l0 Qc) {Po : Sg → Prop}  (hM : Ct l0 y bytes maxL ret2 fr2 lo2 Ω As σ (QV Ω Po)) (hl : Cond.methodLink own ix y ∈ GW) (hstat : Cond.static y ∈ GW) (hcode : Cond.code y bytes maxL ret2 ∈ GW) (hini : Cond.initialized y.cls ∈ GW) (hd : y.cls ≠ "java/lang/invoke/MethodHandle" ∧ y.cls ≠ "java/lang/invoke/VarHandle" ∧ (parseMethodDescriptor y.desc).map (fun d => d.parameters.length) = some n) (hn : As.length = n) (hR : fr2 + 1 ≤ fr ∧ 8 + (maxL + 11) + lo2 ≤ lo) (hw : (rest.map fun v => v.category).sum ≤ 8) (hst : st = As.reverse ++ rest) (hdg : decode cc pc = .ok (.invokestatic ix, 3)) (k : ∀ u, Po u → OK Γ Ω nL (pc + 3) L rest u) : OK Γ Ω nL pc L st σ := by
  obtain ⟨p, l, e, R, s, m, args, below, meth, c, Q⟩ := Γ
  obtain ⟨c1, c2, c3, c4, c5, c6, c7, c8, c9, c10, c11, c12, c13⟩ := C
  subst c11 c12
  intro ls H locs hl2 hP hS
  refine va_callv (a := As.toArray) (va_runS ⟨c1, c2, c3, c4, c5⟩ (hM H.size) ⟨callB_of n c5 (gw_goodIn hcode (fun _ h => h)) rfl rfl rfl (c5 _ hini) (c5 _ hl) hd hR, c5 _ hstat⟩ ⟨pb_blind _ _ _ _, pb_at c6 c7 c8 hP hS⟩ rfl hn hl2.1 hst (lv_room hw) hdg ⟨Nat.zero_le _, Nat.zero_le _⟩) hS (fun q _ h => Ar.mono hS.1 q h) (fun q h => Ar.mono hS.1 q h) (fun u t H1 locs1 e1 _ hp hB _ _ hS1 => k u hp ls H1 locs1 hl2 (e1 ▸ hB) hS1)
theorem ok_callSr (C : Cx Γ Ω cc nL own ret fr lo l0 Qc) {Po : Nat → Sg → Prop}  (hM : Ct l0 y bytes maxL ret2 fr2 lo2 Ω As σ (QR Ω Po)) (hl : Cond.methodLink own ix y ∈ GW) (hstat : Cond.static y ∈ GW) (hcode : Cond.code y bytes maxL ret2 ∈ GW) (hini : Cond.initialized y.cls ∈ GW) (hd : y.cls ≠ "java/lang/invoke/MethodHandle" ∧ y.cls ≠ "java/lang/invoke/VarHandle" ∧ (parseMethodDescriptor y.desc).map (fun d => d.parameters.length) = some n) (hn : As.length = n) (hR : fr2 + 1 ≤ fr ∧ 8 + (maxL + 11) + lo2 ≤ lo) (hw : (rest.map fun v => v.category).sum ≤ 8) (hst : st = As.reverse ++ rest) (hdg : decode cc pc = .ok (.invokestatic ix, 3)) (k : ∀ r u, Po r u → OK Γ Ω nL (pc + 3) L (.ref (Ω.2.2.1 r) :: rest) u) : OK Γ Ω nL pc L st σ := by
  obtain ⟨p, l, e, R, s, m, args, below, meth, c, Q⟩ := Γ
  obtain ⟨c1, c2, c3, c4, c5, c6, c7, c8, c9, c10, c11, c12, c13⟩ := C
  subst c11 c12
  intro ls H locs hl2 hP hS
  refine va_callr (a := As.toArray) (va_runS ⟨c1, c2, c3, c4, c5⟩ (hM H.size) ⟨callB_of n c5 (gw_goodIn hcode (fun _ h => h)) rfl rfl rfl (c5 _ hini) (c5 _ hl) hd hR, c5 _ hstat⟩ ⟨pb_blind _ _ _ _, pb_at c6 c7 c8 hP hS⟩ rfl hn hl2.1 hst (lv_room hw) hdg ⟨Nat.zero_le _, Nat.zero_le _⟩) hS (fun q _ h => Ar.mono hS.1 q h) (fun q h => Ar.mono hS.1 q h) (fun u ra t H1 locs1 e1 _ hp hB _ _ hS1 => by obtain ⟨hr1, hB⟩ := hB; subst hr1; exact k u.1 u.2 hp ls H1 locs1 hl2 (e1 ▸ hB) hS1)
theorem ok_callVNi (C : Cx Γ Ω cc nL own ret fr lo l0 Qc) {Po : Int32 → Sg → Prop} {q ci n0 N : Nat} {fl : List (Option Nat)} {T : u_T} (hq : Ω.2.1[q]? = some (ci + 5, n0, fl)) (hc : CLs[ci]? = some (y.cls, T, N)) (hM : Ct l0 y bytes maxL ret2 fr2 lo2 Ω (.ref (Ω.2.2.1 q) :: As) σ (QI Ω Po)) {host : String} (hl : Cond.methodLinkNest own ix y host ∈ GW) (hin : Cond.instanceMethod y ∈ GW) (hse : Cond.selects y.cls y y ∈ GW) (hcode : Cond.code y bytes maxL ret2 ∈ GW) (hini : Cond.initialized y.cls ∈ GW) (hd : y.cls ≠ "java/lang/invoke/MethodHandle" ∧ y.cls ≠ "java/lang/invoke/VarHandle" ∧ (parseMethodDescriptor y.desc).map (fun d => d.parameters.length) = some n) (hn : As.length = n) (hR : fr2 + 1 ≤ fr ∧ 8 + (maxL + 11) + lo2 ≤ lo) (hw : (rest.map fun v => v.category).sum ≤ 8) (hst : st = As.reverse ++ .ref (Ω.2.2.1 q) :: rest) (hdg : decode cc pc = .ok (.invokevirtual ix, 3)) (k : ∀ r u, Po r u → OK Γ Ω nL (pc + 3) L (.int r :: rest) u) : OK Γ Ω nL pc L st σ := by
  obtain ⟨p, l, e, R, s, m, args, below, meth, c, Q⟩ := Γ
  obtain ⟨c1, c2, c3, c4, c5, c6, c7, c8, c9, c10, c11, c12, c13⟩ := C
  subst c11 c12
  intro ls H locs hl2 hP hS
  refine va_calli (a := (Value.ref (Ω.2.2.1 q) :: As).toArray) (va_runVN ⟨c1, c2, c3, c4, c5⟩ (hM H.size) ⟨va_cnB n c5 (gw_goodIn hcode (fun _ h => h)) rfl rfl rfl (c5 _ hl) (c5 _ hini) hd hR, c5 _ hin, c5 _ hse⟩ ⟨pb_blind _ _ _ _, va_recv c6 hP hc (wl_at hq), pb_at c6 c7 c8 hP hS⟩ rfl hn hl2.1 hst (lv_room hw) hdg ⟨Nat.zero_le _, Nat.zero_le _⟩) hS (fun q _ h => Ar.mono hS.1 q h) (fun q h => Ar.mono hS.1 q h) (fun r u t H1 locs1 e1 _ hp hB _ _ hS1 => k r u hp ls H1 locs1 hl2 (e1 ▸ hB) hS1)
theorem ok_callVNl (C : Cx Γ Ω cc nL own ret fr lo l0 Qc) {Po : Int64 → Sg → Prop} {q ci n0 N : Nat} {fl : List (Option Nat)} {T : u_T} (hq : Ω.2.1[q]? = some (ci + 5, n0, fl)) (hc : CLs[ci]? = some (y.cls, T, N)) (hM : Ct l0 y bytes maxL ret2 fr2 lo2 Ω (.ref (Ω.2.2.1 q) :: As) σ (QL Ω Po)) {host : String} (hl : Cond.methodLinkNest own ix y host ∈ GW) (hin : Cond.instanceMethod y ∈ GW) (hse : Cond.selects y.cls y y ∈ GW) (hcode : Cond.code y bytes maxL ret2 ∈ GW) (hini : Cond.initialized y.cls ∈ GW) (hd : y.cls ≠ "java/lang/invoke/MethodHandle" ∧ y.cls ≠ "java/lang/invoke/VarHandle" ∧ (parseMethodDescriptor y.desc).map (fun d => d.parameters.length) = some n) (hn : As.length = n) (hR : fr2 + 1 ≤ fr ∧ 8 + (maxL + 11) + lo2 ≤ lo) (hw : (rest.map fun v => v.category).sum ≤ 8) (hst : st = As.reverse ++ .ref (Ω.2.2.1 q) :: rest) (hdg : decode cc pc = .ok (.invokevirtual ix, 3)) (k : ∀ r u, Po r u → OK Γ Ω nL (pc + 3) L (.long r :: rest) u) : OK Γ Ω nL pc L st σ := by
  obtain ⟨p, l, e, R, s, m, args, below, meth, c, Q⟩ := Γ
  obtain ⟨c1, c2, c3, c4, c5, c6, c7, c8, c9, c10, c11, c12, c13⟩ := C
  subst c11 c12
  intro ls H locs hl2 hP hS
  refine va_calll (a := (Value.ref (Ω.2.2.1 q) :: As).toArray) (va_runVN ⟨c1, c2, c3, c4, c5⟩ (hM H.size) ⟨va_cnB n c5 (gw_goodIn hcode (fun _ h => h)) rfl rfl rfl (c5 _ hl) (c5 _ hini) hd hR, c5 _ hin, c5 _ hse⟩ ⟨pb_blind _ _ _ _, va_recv c6 hP hc (wl_at hq), pb_at c6 c7 c8 hP hS⟩ rfl hn hl2.1 hst (lv_room hw) hdg ⟨Nat.zero_le _, Nat.zero_le _⟩) hS (fun q _ h => Ar.mono hS.1 q h) (fun q h => Ar.mono hS.1 q h) (fun r u t H1 locs1 e1 _ hp hB _ _ hS1 => k r u hp ls H1 locs1 hl2 (e1 ▸ hB) hS1)
theorem ok_callVNv (C : Cx Γ Ω cc nL own ret fr lo l0 Qc) {Po : Sg → Prop} {q ci n0 N : Nat} {fl : List (Option Nat)} {T : u_T} (hq : Ω.2.1[q]? = some (ci + 5, n0, fl)) (hc : CLs[ci]? = some (y.cls, T, N)) (hM : Ct l0 y bytes maxL ret2 fr2 lo2 Ω (.ref (Ω.2.2.1 q) :: As) σ (QV Ω Po)) {host : String} (hl : Cond.methodLinkNest own ix y host ∈ GW) (hin : Cond.instanceMethod y ∈ GW) (hse : Cond.selects y.cls y y ∈ GW) (hcode : Cond.code y bytes maxL ret2 ∈ GW) (hini : Cond.initialized y.cls ∈ GW) (hd : y.cls ≠ "java/lang/invoke/MethodHandle" ∧ y.cls ≠ "java/lang/invoke/VarHandle" ∧ (parseMethodDescriptor y.desc).map (fun d => d.parameters.length) = some n) (hn : As.length = n) (hR : fr2 + 1 ≤ fr ∧ 8 + (maxL + 11) + lo2 ≤ lo) (hw : (rest.map fun v => v.category).sum ≤ 8) (hst : st = As.reverse ++ .ref (Ω.2.2.1 q) :: rest) (hdg : decode cc pc = .ok (.invokevirtual ix, 3)) (k : ∀ u, Po u → OK Γ Ω nL (pc + 3) L rest u) : OK Γ Ω nL pc L st σ := by
  obtain ⟨p, l, e, R, s, m, args, below, meth, c, Q⟩ := Γ
  obtain ⟨c1, c2, c3, c4, c5, c6, c7, c8, c9, c10, c11, c12, c13⟩ := C
  subst c11 c12
  intro ls H locs hl2 hP hS
  refine va_callv (a := (Value.ref (Ω.2.2.1 q) :: As).toArray) (va_runVN ⟨c1, c2, c3, c4, c5⟩ (hM H.size) ⟨va_cnB n c5 (gw_goodIn hcode (fun _ h => h)) rfl rfl rfl (c5 _ hl) (c5 _ hini) hd hR, c5 _ hin, c5 _ hse⟩ ⟨pb_blind _ _ _ _, va_recv c6 hP hc (wl_at hq), pb_at c6 c7 c8 hP hS⟩ rfl hn hl2.1 hst (lv_room hw) hdg ⟨Nat.zero_le _, Nat.zero_le _⟩) hS (fun q _ h => Ar.mono hS.1 q h) (fun q h => Ar.mono hS.1 q h) (fun u t H1 locs1 e1 _ hp hB _ _ hS1 => k u hp ls H1 locs1 hl2 (e1 ▸ hB) hS1)
theorem ok_callVNr (C : Cx Γ Ω cc nL own ret fr lo l0 Qc) {Po : Nat → Sg → Prop} {q ci n0 N : Nat} {fl : List (Option Nat)} {T : u_T} (hq : Ω.2.1[q]? = some (ci + 5, n0, fl)) (hc : CLs[ci]? = some (y.cls, T, N)) (hM : Ct l0 y bytes maxL ret2 fr2 lo2 Ω (.ref (Ω.2.2.1 q) :: As) σ (QR Ω Po)) {host : String} (hl : Cond.methodLinkNest own ix y host ∈ GW) (hin : Cond.instanceMethod y ∈ GW) (hse : Cond.selects y.cls y y ∈ GW) (hcode : Cond.code y bytes maxL ret2 ∈ GW) (hini : Cond.initialized y.cls ∈ GW) (hd : y.cls ≠ "java/lang/invoke/MethodHandle" ∧ y.cls ≠ "java/lang/invoke/VarHandle" ∧ (parseMethodDescriptor y.desc).map (fun d => d.parameters.length) = some n) (hn : As.length = n) (hR : fr2 + 1 ≤ fr ∧ 8 + (maxL + 11) + lo2 ≤ lo) (hw : (rest.map fun v => v.category).sum ≤ 8) (hst : st = As.reverse ++ .ref (Ω.2.2.1 q) :: rest) (hdg : decode cc pc = .ok (.invokevirtual ix, 3)) (k : ∀ r u, Po r u → OK Γ Ω nL (pc + 3) L (.ref (Ω.2.2.1 r) :: rest) u) : OK Γ Ω nL pc L st σ := by
  obtain ⟨p, l, e, R, s, m, args, below, meth, c, Q⟩ := Γ
  obtain ⟨c1, c2, c3, c4, c5, c6, c7, c8, c9, c10, c11, c12, c13⟩ := C
  subst c11 c12
  intro ls H locs hl2 hP hS
  refine va_callr (a := (Value.ref (Ω.2.2.1 q) :: As).toArray) (va_runVN ⟨c1, c2, c3, c4, c5⟩ (hM H.size) ⟨va_cnB n c5 (gw_goodIn hcode (fun _ h => h)) rfl rfl rfl (c5 _ hl) (c5 _ hini) hd hR, c5 _ hin, c5 _ hse⟩ ⟨pb_blind _ _ _ _, va_recv c6 hP hc (wl_at hq), pb_at c6 c7 c8 hP hS⟩ rfl hn hl2.1 hst (lv_room hw) hdg ⟨Nat.zero_le _, Nat.zero_le _⟩) hS (fun q _ h => Ar.mono hS.1 q h) (fun q h => Ar.mono hS.1 q h) (fun u ra t H1 locs1 e1 _ hp hB _ _ hS1 => by obtain ⟨hr1, hB⟩ := hB; subst hr1; exact k u.1 u.2 hp ls H1 locs1 hl2 (e1 ▸ hB) hS1)
theorem ok_callSNi (C : Cx Γ Ω cc nL own ret fr lo l0 Qc) {Po : Int32 → Sg → Prop}  (hM : Ct l0 y bytes maxL ret2 fr2 lo2 Ω As σ (QI Ω Po)) {host : String} (hl : Cond.methodLinkNest own ix y host ∈ GW) (hstat : Cond.static y ∈ GW) (hcode : Cond.code y bytes maxL ret2 ∈ GW) (hini : Cond.initialized y.cls ∈ GW) (hd : y.cls ≠ "java/lang/invoke/MethodHandle" ∧ y.cls ≠ "java/lang/invoke/VarHandle" ∧ (parseMethodDescriptor y.desc).map (fun d => d.parameters.length) = some n) (hn : As.length = n) (hR : fr2 + 1 ≤ fr ∧ 8 + (maxL + 11) + lo2 ≤ lo) (hw : (rest.map fun v => v.category).sum ≤ 8) (hst : st = As.reverse ++ rest) (hdg : decode cc pc = .ok (.invokestatic ix, 3)) (k : ∀ r u, Po r u → OK Γ Ω nL (pc + 3) L (.int r :: rest) u) : OK Γ Ω nL pc L st σ := by
  obtain ⟨p, l, e, R, s, m, args, below, meth, c, Q⟩ := Γ
  obtain ⟨c1, c2, c3, c4, c5, c6, c7, c8, c9, c10, c11, c12, c13⟩ := C
  subst c11 c12
  intro ls H locs hl2 hP hS
  refine va_calli (a := As.toArray) (va_runSN ⟨c1, c2, c3, c4, c5⟩ (hM H.size) ⟨va_cnB n c5 (gw_goodIn hcode (fun _ h => h)) rfl rfl rfl (c5 _ hl) (c5 _ hini) hd hR, c5 _ hstat, trivial⟩ ⟨pb_blind _ _ _ _, pb_at c6 c7 c8 hP hS⟩ rfl hn hl2.1 hst (lv_room hw) hdg ⟨Nat.zero_le _, Nat.zero_le _⟩) hS (fun q _ h => Ar.mono hS.1 q h) (fun q h => Ar.mono hS.1 q h) (fun r u t H1 locs1 e1 _ hp hB _ _ hS1 => k r u hp ls H1 locs1 hl2 (e1 ▸ hB) hS1)
theorem ok_callSNl (C : Cx Γ Ω cc nL own ret fr lo l0 Qc) {Po : Int64 → Sg → Prop}  (hM : Ct l0 y bytes maxL ret2 fr2 lo2 Ω As σ (QL Ω Po)) {host : String} (hl : Cond.methodLinkNest own ix y host ∈ GW) (hstat : Cond.static y ∈ GW) (hcode : Cond.code y bytes maxL ret2 ∈ GW) (hini : Cond.initialized y.cls ∈ GW) (hd : y.cls ≠ "java/lang/invoke/MethodHandle" ∧ y.cls ≠ "java/lang/invoke/VarHandle" ∧ (parseMethodDescriptor y.desc).map (fun d => d.parameters.length) = some n) (hn : As.length = n) (hR : fr2 + 1 ≤ fr ∧ 8 + (maxL + 11) + lo2 ≤ lo) (hw : (rest.map fun v => v.category).sum ≤ 8) (hst : st = As.reverse ++ rest) (hdg : decode cc pc = .ok (.invokestatic ix, 3)) (k : ∀ r u, Po r u → OK Γ Ω nL (pc + 3) L (.long r :: rest) u) : OK Γ Ω nL pc L st σ := by
  obtain ⟨p, l, e, R, s, m, args, below, meth, c, Q⟩ := Γ
  obtain ⟨c1, c2, c3, c4, c5, c6, c7, c8, c9, c10, c11, c12, c13⟩ := C
  subst c11 c12
  intro ls H locs hl2 hP hS
  refine va_calll (a := As.toArray) (va_runSN ⟨c1, c2, c3, c4, c5⟩ (hM H.size) ⟨va_cnB n c5 (gw_goodIn hcode (fun _ h => h)) rfl rfl rfl (c5 _ hl) (c5 _ hini) hd hR, c5 _ hstat, trivial⟩ ⟨pb_blind _ _ _ _, pb_at c6 c7 c8 hP hS⟩ rfl hn hl2.1 hst (lv_room hw) hdg ⟨Nat.zero_le _, Nat.zero_le _⟩) hS (fun q _ h => Ar.mono hS.1 q h) (fun q h => Ar.mono hS.1 q h) (fun r u t H1 locs1 e1 _ hp hB _ _ hS1 => k r u hp ls H1 locs1 hl2 (e1 ▸ hB) hS1)
theorem ok_callSNv (C : Cx Γ Ω cc nL own ret fr lo l0 Qc) {Po : Sg → Prop}  (hM : Ct l0 y bytes maxL ret2 fr2 lo2 Ω As σ (QV Ω Po)) {host : String} (hl : Cond.methodLinkNest own ix y host ∈ GW) (hstat : Cond.static y ∈ GW) (hcode : Cond.code y bytes maxL ret2 ∈ GW) (hini : Cond.initialized y.cls ∈ GW) (hd : y.cls ≠ "java/lang/invoke/MethodHandle" ∧ y.cls ≠ "java/lang/invoke/VarHandle" ∧ (parseMethodDescriptor y.desc).map (fun d => d.parameters.length) = some n) (hn : As.length = n) (hR : fr2 + 1 ≤ fr ∧ 8 + (maxL + 11) + lo2 ≤ lo) (hw : (rest.map fun v => v.category).sum ≤ 8) (hst : st = As.reverse ++ rest) (hdg : decode cc pc = .ok (.invokestatic ix, 3)) (k : ∀ u, Po u → OK Γ Ω nL (pc + 3) L rest u) : OK Γ Ω nL pc L st σ := by
  obtain ⟨p, l, e, R, s, m, args, below, meth, c, Q⟩ := Γ
  obtain ⟨c1, c2, c3, c4, c5, c6, c7, c8, c9, c10, c11, c12, c13⟩ := C
  subst c11 c12
  intro ls H locs hl2 hP hS
  refine va_callv (a := As.toArray) (va_runSN ⟨c1, c2, c3, c4, c5⟩ (hM H.size) ⟨va_cnB n c5 (gw_goodIn hcode (fun _ h => h)) rfl rfl rfl (c5 _ hl) (c5 _ hini) hd hR, c5 _ hstat, trivial⟩ ⟨pb_blind _ _ _ _, pb_at c6 c7 c8 hP hS⟩ rfl hn hl2.1 hst (lv_room hw) hdg ⟨Nat.zero_le _, Nat.zero_le _⟩) hS (fun q _ h => Ar.mono hS.1 q h) (fun q h => Ar.mono hS.1 q h) (fun u t H1 locs1 e1 _ hp hB _ _ hS1 => k u hp ls H1 locs1 hl2 (e1 ▸ hB) hS1)
theorem ok_callSNr (C : Cx Γ Ω cc nL own ret fr lo l0 Qc) {Po : Nat → Sg → Prop}  (hM : Ct l0 y bytes maxL ret2 fr2 lo2 Ω As σ (QR Ω Po)) {host : String} (hl : Cond.methodLinkNest own ix y host ∈ GW) (hstat : Cond.static y ∈ GW) (hcode : Cond.code y bytes maxL ret2 ∈ GW) (hini : Cond.initialized y.cls ∈ GW) (hd : y.cls ≠ "java/lang/invoke/MethodHandle" ∧ y.cls ≠ "java/lang/invoke/VarHandle" ∧ (parseMethodDescriptor y.desc).map (fun d => d.parameters.length) = some n) (hn : As.length = n) (hR : fr2 + 1 ≤ fr ∧ 8 + (maxL + 11) + lo2 ≤ lo) (hw : (rest.map fun v => v.category).sum ≤ 8) (hst : st = As.reverse ++ rest) (hdg : decode cc pc = .ok (.invokestatic ix, 3)) (k : ∀ r u, Po r u → OK Γ Ω nL (pc + 3) L (.ref (Ω.2.2.1 r) :: rest) u) : OK Γ Ω nL pc L st σ := by
  obtain ⟨p, l, e, R, s, m, args, below, meth, c, Q⟩ := Γ
  obtain ⟨c1, c2, c3, c4, c5, c6, c7, c8, c9, c10, c11, c12, c13⟩ := C
  subst c11 c12
  intro ls H locs hl2 hP hS
  refine va_callr (a := As.toArray) (va_runSN ⟨c1, c2, c3, c4, c5⟩ (hM H.size) ⟨va_cnB n c5 (gw_goodIn hcode (fun _ h => h)) rfl rfl rfl (c5 _ hl) (c5 _ hini) hd hR, c5 _ hstat, trivial⟩ ⟨pb_blind _ _ _ _, pb_at c6 c7 c8 hP hS⟩ rfl hn hl2.1 hst (lv_room hw) hdg ⟨Nat.zero_le _, Nat.zero_le _⟩) hS (fun q _ h => Ar.mono hS.1 q h) (fun q h => Ar.mono hS.1 q h) (fun u ra t H1 locs1 e1 _ hp hB _ _ hS1 => by obtain ⟨hr1, hB⟩ := hB; subst hr1; exact k u.1 u.2 hp ls H1 locs1 hl2 (e1 ▸ hB) hS1)
end OKC
end
