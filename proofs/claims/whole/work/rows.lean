section
-- ===== PART A: goes FIRST, ahead of the names: the tables' words, and 'selects' of the private methods out of them =====
/-- a private method of a class that the tables say can be made, by its rows of tables_1 -/
def lw_okq (q : MethodName × Nat) : Prop := (q.1.cls ≠ "java/lang/invoke/MethodHandle" ∧ q.1.cls ≠ "java/lang/invoke/VarHandle") ∧ Cond.instantiable q.1.cls q.2 ∈ tables_1 ∧ Cond.privateMethod q.1 ∈ tables_1 ∧ Cond.instanceMethod q.1 ∈ tables_1
theorem lw_p0 : lw_okq (⟨"java/util/ArrayList", "add", "(Ljava/lang/Object;[Ljava/lang/Object;I)V"⟩, 3) := ⟨⟨by decide +kernel, by decide +kernel⟩, List.mem_of_getElem? (i := 42) (by decide +kernel), List.mem_of_getElem? (i := 198) (by decide +kernel), List.mem_of_getElem? (i := 199) (by decide +kernel)⟩
theorem lw_p1 : lw_okq (⟨"java/util/ArrayList", "grow", "()[Ljava/lang/Object;"⟩, 3) := ⟨⟨by decide +kernel, by decide +kernel⟩, List.mem_of_getElem? (i := 42) (by decide +kernel), List.mem_of_getElem? (i := 202) (by decide +kernel), List.mem_of_getElem? (i := 203) (by decide +kernel)⟩
theorem lw_p2 : lw_okq (⟨"java/util/ArrayList", "grow", "(I)[Ljava/lang/Object;"⟩, 3) := ⟨⟨by decide +kernel, by decide +kernel⟩, List.mem_of_getElem? (i := 42) (by decide +kernel), List.mem_of_getElem? (i := 206) (by decide +kernel), List.mem_of_getElem? (i := 207) (by decide +kernel)⟩
theorem lw_p3 : lw_okq (⟨"LockedHouse", "playing", "()I"⟩, 6) := ⟨⟨by decide +kernel, by decide +kernel⟩, List.mem_of_getElem? (i := 28) (by decide +kernel), List.mem_of_getElem? (i := 362) (by decide +kernel), List.mem_of_getElem? (i := 363) (by decide +kernel)⟩
theorem lw_p4 : lw_okq (⟨"LockedHouse", "walked", "()LLockedHouse$Walk;"⟩, 6) := ⟨⟨by decide +kernel, by decide +kernel⟩, List.mem_of_getElem? (i := 28) (by decide +kernel), List.mem_of_getElem? (i := 573) (by decide +kernel), List.mem_of_getElem? (i := 574) (by decide +kernel)⟩
theorem lw_p5 : lw_okq (⟨"LockedHouse", "widen", "()V"⟩, 6) := ⟨⟨by decide +kernel, by decide +kernel⟩, List.mem_of_getElem? (i := 28) (by decide +kernel), List.mem_of_getElem? (i := 577) (by decide +kernel), List.mem_of_getElem? (i := 578) (by decide +kernel)⟩
theorem lw_p6 : lw_okq (⟨"LockedHouse$Walk", "fits", "(I)Z"⟩, 12) := ⟨⟨by decide +kernel, by decide +kernel⟩, List.mem_of_getElem? (i := 253) (by decide +kernel), List.mem_of_getElem? (i := 600) (by decide +kernel), List.mem_of_getElem? (i := 601) (by decide +kernel)⟩
theorem lw_p7 : lw_okq (⟨"LockedHouse$House", "canDo", "(ILLockedHouse$Step;I)Z"⟩, 6) := ⟨⟨by decide +kernel, by decide +kernel⟩, List.mem_of_getElem? (i := 36) (by decide +kernel), List.mem_of_getElem? (i := 620) (by decide +kernel), List.mem_of_getElem? (i := 621) (by decide +kernel)⟩
theorem lw_p8 : lw_okq (⟨"LockedHouse$House", "isAllOnceDone", "(I)Z"⟩, 6) := ⟨⟨by decide +kernel, by decide +kernel⟩, List.mem_of_getElem? (i := 36) (by decide +kernel), List.mem_of_getElem? (i := 632) (by decide +kernel), List.mem_of_getElem? (i := 633) (by decide +kernel)⟩
theorem lw_p9 : lw_okq (⟨"LockedHouse$Walk", "joinBehind", "(ILLockedHouse$Line;II)V"⟩, 12) := ⟨⟨by decide +kernel, by decide +kernel⟩, List.mem_of_getElem? (i := 253) (by decide +kernel), List.mem_of_getElem? (i := 636) (by decide +kernel), List.mem_of_getElem? (i := 637) (by decide +kernel)⟩
theorem lw_p10 : lw_okq (⟨"LockedHouse$Walk", "isOpen", "(II)Z"⟩, 12) := ⟨⟨by decide +kernel, by decide +kernel⟩, List.mem_of_getElem? (i := 253) (by decide +kernel), List.mem_of_getElem? (i := 641) (by decide +kernel), List.mem_of_getElem? (i := 642) (by decide +kernel)⟩
theorem lw_p11 : lw_okq (⟨"LockedHouse", "measured", "()LLockedHouse$Walk;"⟩, 6) := ⟨⟨by decide +kernel, by decide +kernel⟩, List.mem_of_getElem? (i := 28) (by decide +kernel), List.mem_of_getElem? (i := 700) (by decide +kernel), List.mem_of_getElem? (i := 701) (by decide +kernel)⟩
theorem lw_p12 : lw_okq (⟨"LockedHouse$Heap", "lift", "(II)V"⟩, 4) := ⟨⟨by decide +kernel, by decide +kernel⟩, List.mem_of_getElem? (i := 280) (by decide +kernel), List.mem_of_getElem? (i := 721) (by decide +kernel), List.mem_of_getElem? (i := 722) (by decide +kernel)⟩
theorem lw_p13 : lw_okq (⟨"LockedHouse$Heap", "codeAt", "(I)I"⟩, 4) := ⟨⟨by decide +kernel, by decide +kernel⟩, List.mem_of_getElem? (i := 280) (by decide +kernel), List.mem_of_getElem? (i := 725) (by decide +kernel), List.mem_of_getElem? (i := 726) (by decide +kernel)⟩
theorem lw_p14 : lw_okq (⟨"LockedHouse$Heap", "place", "(II)V"⟩, 4) := ⟨⟨by decide +kernel, by decide +kernel⟩, List.mem_of_getElem? (i := 280) (by decide +kernel), List.mem_of_getElem? (i := 733) (by decide +kernel), List.mem_of_getElem? (i := 734) (by decide +kernel)⟩
theorem lw_p15 : lw_okq (⟨"LockedHouse$Heap", "sink", "(I)V"⟩, 4) := ⟨⟨by decide +kernel, by decide +kernel⟩, List.mem_of_getElem? (i := 280) (by decide +kernel), List.mem_of_getElem? (i := 745) (by decide +kernel), List.mem_of_getElem? (i := 746) (by decide +kernel)⟩
def lw_privs_1 : List (MethodName × Nat) := [(⟨"java/util/ArrayList", "add", "(Ljava/lang/Object;[Ljava/lang/Object;I)V"⟩, 3), (⟨"java/util/ArrayList", "grow", "()[Ljava/lang/Object;"⟩, 3), (⟨"java/util/ArrayList", "grow", "(I)[Ljava/lang/Object;"⟩, 3), (⟨"LockedHouse", "playing", "()I"⟩, 6), (⟨"LockedHouse", "walked", "()LLockedHouse$Walk;"⟩, 6), (⟨"LockedHouse", "widen", "()V"⟩, 6), (⟨"LockedHouse$Walk", "fits", "(I)Z"⟩, 12), (⟨"LockedHouse$House", "canDo", "(ILLockedHouse$Step;I)Z"⟩, 6), (⟨"LockedHouse$House", "isAllOnceDone", "(I)Z"⟩, 6), (⟨"LockedHouse$Walk", "joinBehind", "(ILLockedHouse$Line;II)V"⟩, 12), (⟨"LockedHouse$Walk", "isOpen", "(II)Z"⟩, 12), (⟨"LockedHouse", "measured", "()LLockedHouse$Walk;"⟩, 6), (⟨"LockedHouse$Heap", "lift", "(II)V"⟩, 4), (⟨"LockedHouse$Heap", "codeAt", "(I)I"⟩, 4), (⟨"LockedHouse$Heap", "place", "(II)V"⟩, 4), (⟨"LockedHouse$Heap", "sink", "(I)V"⟩, 4)]
theorem lw_r1 : ∀ q ∈ lw_privs_1, lw_okq q := List.forall_mem_cons.mpr ⟨lw_p0, List.forall_mem_cons.mpr ⟨lw_p1, List.forall_mem_cons.mpr ⟨lw_p2, List.forall_mem_cons.mpr ⟨lw_p3, List.forall_mem_cons.mpr ⟨lw_p4, List.forall_mem_cons.mpr ⟨lw_p5, List.forall_mem_cons.mpr ⟨lw_p6, List.forall_mem_cons.mpr ⟨lw_p7, List.forall_mem_cons.mpr ⟨lw_p8, List.forall_mem_cons.mpr ⟨lw_p9, List.forall_mem_cons.mpr ⟨lw_p10, List.forall_mem_cons.mpr ⟨lw_p11, List.forall_mem_cons.mpr ⟨lw_p12, List.forall_mem_cons.mpr ⟨lw_p13, List.forall_mem_cons.mpr ⟨lw_p14, List.forall_mem_cons.mpr ⟨lw_p15, fun _ h => absurd h List.not_mem_nil⟩⟩⟩⟩⟩⟩⟩⟩⟩⟩⟩⟩⟩⟩⟩⟩
theorem lw_p16 : lw_okq (⟨"LockedHouse$Walk", "offerAhead", "(II)V"⟩, 12) := ⟨⟨by decide +kernel, by decide +kernel⟩, List.mem_of_getElem? (i := 253) (by decide +kernel), List.mem_of_getElem? (i := 749) (by decide +kernel), List.mem_of_getElem? (i := 750) (by decide +kernel)⟩
theorem lw_p17 : lw_okq (⟨"LockedHouse$Walk", "findLongest", "()I"⟩, 12) := ⟨⟨by decide +kernel, by decide +kernel⟩, List.mem_of_getElem? (i := 253) (by decide +kernel), List.mem_of_getElem? (i := 801) (by decide +kernel), List.mem_of_getElem? (i := 802) (by decide +kernel)⟩
theorem lw_p18 : lw_okq (⟨"LockedHouse$Walk", "countArrivals", "()V"⟩, 12) := ⟨⟨by decide +kernel, by decide +kernel⟩, List.mem_of_getElem? (i := 253) (by decide +kernel), List.mem_of_getElem? (i := 805) (by decide +kernel), List.mem_of_getElem? (i := 806) (by decide +kernel)⟩
theorem lw_p19 : lw_okq (⟨"LockedHouse$Walk", "arriveFrom", "(II)V"⟩, 12) := ⟨⟨by decide +kernel, by decide +kernel⟩, List.mem_of_getElem? (i := 253) (by decide +kernel), List.mem_of_getElem? (i := 810) (by decide +kernel), List.mem_of_getElem? (i := 811) (by decide +kernel)⟩
theorem lw_p20 : lw_okq (⟨"LockedHouse$House", "nextBack", "(I)I"⟩, 6) := ⟨⟨by decide +kernel, by decide +kernel⟩, List.mem_of_getElem? (i := 36) (by decide +kernel), List.mem_of_getElem? (i := 894) (by decide +kernel), List.mem_of_getElem? (i := 895) (by decide +kernel)⟩
theorem lw_p21 : lw_okq (⟨"LockedHouse$House", "isRuleSo", "(ILLockedHouse$Prop;)Z"⟩, 6) := ⟨⟨by decide +kernel, by decide +kernel⟩, List.mem_of_getElem? (i := 36) (by decide +kernel), List.mem_of_getElem? (i := 902) (by decide +kernel), List.mem_of_getElem? (i := 903) (by decide +kernel)⟩
theorem lw_p22 : lw_okq (⟨"LockedHouse$House", "isLeanedOn", "(II)Z"⟩, 6) := ⟨⟨by decide +kernel, by decide +kernel⟩, List.mem_of_getElem? (i := 36) (by decide +kernel), List.mem_of_getElem? (i := 907) (by decide +kernel), List.mem_of_getElem? (i := 908) (by decide +kernel)⟩
theorem lw_p23 : lw_okq (⟨"LockedHouse", "plays", "(I)Z"⟩, 6) := ⟨⟨by decide +kernel, by decide +kernel⟩, List.mem_of_getElem? (i := 28) (by decide +kernel), List.mem_of_getElem? (i := 924) (by decide +kernel), List.mem_of_getElem? (i := 925) (by decide +kernel)⟩
theorem lw_p24 : lw_okq (⟨"LockedHouse", "isTaken", "(II)Z"⟩, 6) := ⟨⟨by decide +kernel, by decide +kernel⟩, List.mem_of_getElem? (i := 28) (by decide +kernel), List.mem_of_getElem? (i := 928) (by decide +kernel), List.mem_of_getElem? (i := 929) (by decide +kernel)⟩
theorem lw_p25 : lw_okq (⟨"java/lang/Throwable", "fillInStackTrace", "(I)Ljava/lang/Throwable;"⟩, 6) := ⟨⟨by decide +kernel, by decide +kernel⟩, List.mem_of_getElem? (i := 1010) (by decide +kernel), List.mem_of_getElem? (i := 1008) (by decide +kernel), List.mem_of_getElem? (i := 1009) (by decide +kernel)⟩
theorem lw_p26 : lw_okq (⟨"LockedHouseModel", "plays", "()Z"⟩, 54) := ⟨⟨by decide +kernel, by decide +kernel⟩, List.mem_of_getElem? (i := 1057) (by decide +kernel), List.mem_of_getElem? (i := 1236) (by decide +kernel), List.mem_of_getElem? (i := 1237) (by decide +kernel)⟩
theorem lw_p27 : lw_okq (⟨"LockedHouseModel", "allCodes", "()I"⟩, 54) := ⟨⟨by decide +kernel, by decide +kernel⟩, List.mem_of_getElem? (i := 1057) (by decide +kernel), List.mem_of_getElem? (i := 1245) (by decide +kernel), List.mem_of_getElem? (i := 1246) (by decide +kernel)⟩
theorem lw_p28 : lw_okq (⟨"LockedHouseModel", "isStep", "(I)Z"⟩, 54) := ⟨⟨by decide +kernel, by decide +kernel⟩, List.mem_of_getElem? (i := 1057) (by decide +kernel), List.mem_of_getElem? (i := 1264) (by decide +kernel), List.mem_of_getElem? (i := 1265) (by decide +kernel)⟩
theorem lw_p29 : lw_okq (⟨"LockedHouseModel", "isPair", "(II)Z"⟩, 54) := ⟨⟨by decide +kernel, by decide +kernel⟩, List.mem_of_getElem? (i := 1057) (by decide +kernel), List.mem_of_getElem? (i := 1268) (by decide +kernel), List.mem_of_getElem? (i := 1269) (by decide +kernel)⟩
theorem lw_p30 : lw_okq (⟨"LockedHouseModel", "isProp", "(I)Z"⟩, 54) := ⟨⟨by decide +kernel, by decide +kernel⟩, List.mem_of_getElem? (i := 1057) (by decide +kernel), List.mem_of_getElem? (i := 1272) (by decide +kernel), List.mem_of_getElem? (i := 1273) (by decide +kernel)⟩
theorem lw_p31 : lw_okq (⟨"LockedHouseModel", "refuse", "()I"⟩, 54) := ⟨⟨by decide +kernel, by decide +kernel⟩, List.mem_of_getElem? (i := 1057) (by decide +kernel), List.mem_of_getElem? (i := 1304) (by decide +kernel), List.mem_of_getElem? (i := 1305) (by decide +kernel)⟩
def lw_privs_2 : List (MethodName × Nat) := [(⟨"LockedHouse$Walk", "offerAhead", "(II)V"⟩, 12), (⟨"LockedHouse$Walk", "findLongest", "()I"⟩, 12), (⟨"LockedHouse$Walk", "countArrivals", "()V"⟩, 12), (⟨"LockedHouse$Walk", "arriveFrom", "(II)V"⟩, 12), (⟨"LockedHouse$House", "nextBack", "(I)I"⟩, 6), (⟨"LockedHouse$House", "isRuleSo", "(ILLockedHouse$Prop;)Z"⟩, 6), (⟨"LockedHouse$House", "isLeanedOn", "(II)Z"⟩, 6), (⟨"LockedHouse", "plays", "(I)Z"⟩, 6), (⟨"LockedHouse", "isTaken", "(II)Z"⟩, 6), (⟨"java/lang/Throwable", "fillInStackTrace", "(I)Ljava/lang/Throwable;"⟩, 6), (⟨"LockedHouseModel", "plays", "()Z"⟩, 54), (⟨"LockedHouseModel", "allCodes", "()I"⟩, 54), (⟨"LockedHouseModel", "isStep", "(I)Z"⟩, 54), (⟨"LockedHouseModel", "isPair", "(II)Z"⟩, 54), (⟨"LockedHouseModel", "isProp", "(I)Z"⟩, 54), (⟨"LockedHouseModel", "refuse", "()I"⟩, 54)]
theorem lw_r2 : ∀ q ∈ lw_privs_2, lw_okq q := List.forall_mem_cons.mpr ⟨lw_p16, List.forall_mem_cons.mpr ⟨lw_p17, List.forall_mem_cons.mpr ⟨lw_p18, List.forall_mem_cons.mpr ⟨lw_p19, List.forall_mem_cons.mpr ⟨lw_p20, List.forall_mem_cons.mpr ⟨lw_p21, List.forall_mem_cons.mpr ⟨lw_p22, List.forall_mem_cons.mpr ⟨lw_p23, List.forall_mem_cons.mpr ⟨lw_p24, List.forall_mem_cons.mpr ⟨lw_p25, List.forall_mem_cons.mpr ⟨lw_p26, List.forall_mem_cons.mpr ⟨lw_p27, List.forall_mem_cons.mpr ⟨lw_p28, List.forall_mem_cons.mpr ⟨lw_p29, List.forall_mem_cons.mpr ⟨lw_p30, List.forall_mem_cons.mpr ⟨lw_p31, fun _ h => absurd h List.not_mem_nil⟩⟩⟩⟩⟩⟩⟩⟩⟩⟩⟩⟩⟩⟩⟩⟩
theorem lw_p32 : lw_okq (⟨"LockedHouseModel", "weigh", "()V"⟩, 54) := ⟨⟨by decide +kernel, by decide +kernel⟩, List.mem_of_getElem? (i := 1057) (by decide +kernel), List.mem_of_getElem? (i := 1312) (by decide +kernel), List.mem_of_getElem? (i := 1313) (by decide +kernel)⟩
theorem lw_p33 : lw_okq (⟨"LockedHouseModel", "fresh", "()V"⟩, 54) := ⟨⟨by decide +kernel, by decide +kernel⟩, List.mem_of_getElem? (i := 1057) (by decide +kernel), List.mem_of_getElem? (i := 1320) (by decide +kernel), List.mem_of_getElem? (i := 1321) (by decide +kernel)⟩
theorem lw_p34 : lw_okq (⟨"LockedHouseModel", "done", "(III)I"⟩, 54) := ⟨⟨by decide +kernel, by decide +kernel⟩, List.mem_of_getElem? (i := 1057) (by decide +kernel), List.mem_of_getElem? (i := 1324) (by decide +kernel), List.mem_of_getElem? (i := 1325) (by decide +kernel)⟩
theorem lw_p35 : lw_okq (⟨"LockedHouseModel", "isEnd", "(I)Z"⟩, 54) := ⟨⟨by decide +kernel, by decide +kernel⟩, List.mem_of_getElem? (i := 1057) (by decide +kernel), List.mem_of_getElem? (i := 1328) (by decide +kernel), List.mem_of_getElem? (i := 1329) (by decide +kernel)⟩
theorem lw_p36 : lw_okq (⟨"LockedHouseModel", "stateOf", "(II)I"⟩, 54) := ⟨⟨by decide +kernel, by decide +kernel⟩, List.mem_of_getElem? (i := 1057) (by decide +kernel), List.mem_of_getElem? (i := 1332) (by decide +kernel), List.mem_of_getElem? (i := 1333) (by decide +kernel)⟩
theorem lw_p37 : lw_okq (⟨"LockedHouseModel", "hasNeeds", "(II)Z"⟩, 54) := ⟨⟨by decide +kernel, by decide +kernel⟩, List.mem_of_getElem? (i := 1057) (by decide +kernel), List.mem_of_getElem? (i := 1336) (by decide +kernel), List.mem_of_getElem? (i := 1337) (by decide +kernel)⟩
theorem lw_p38 : lw_okq (⟨"LockedHouseModel", "wasDone", "(II)Z"⟩, 54) := ⟨⟨by decide +kernel, by decide +kernel⟩, List.mem_of_getElem? (i := 1057) (by decide +kernel), List.mem_of_getElem? (i := 1340) (by decide +kernel), List.mem_of_getElem? (i := 1341) (by decide +kernel)⟩
theorem lw_p39 : lw_okq (⟨"LockedHouseModel", "allOnce", "(I)Z"⟩, 54) := ⟨⟨by decide +kernel, by decide +kernel⟩, List.mem_of_getElem? (i := 1057) (by decide +kernel), List.mem_of_getElem? (i := 1344) (by decide +kernel), List.mem_of_getElem? (i := 1345) (by decide +kernel)⟩
theorem lw_p40 : lw_okq (⟨"LockedHouseModel", "walks", "()V"⟩, 54) := ⟨⟨by decide +kernel, by decide +kernel⟩, List.mem_of_getElem? (i := 1057) (by decide +kernel), List.mem_of_getElem? (i := 1348) (by decide +kernel), List.mem_of_getElem? (i := 1349) (by decide +kernel)⟩
theorem lw_p41 : lw_okq (⟨"LockedHouseModel", "measures", "()V"⟩, 54) := ⟨⟨by decide +kernel, by decide +kernel⟩, List.mem_of_getElem? (i := 1057) (by decide +kernel), List.mem_of_getElem? (i := 1352) (by decide +kernel), List.mem_of_getElem? (i := 1353) (by decide +kernel)⟩
theorem lw_p42 : lw_okq (⟨"LockedHouseModel", "turnsRound", "()V"⟩, 54) := ⟨⟨by decide +kernel, by decide +kernel⟩, List.mem_of_getElem? (i := 1057) (by decide +kernel), List.mem_of_getElem? (i := 1356) (by decide +kernel), List.mem_of_getElem? (i := 1357) (by decide +kernel)⟩
theorem lw_p43 : lw_okq (⟨"LockedHouseModel", "puts", "(II)V"⟩, 54) := ⟨⟨by decide +kernel, by decide +kernel⟩, List.mem_of_getElem? (i := 1057) (by decide +kernel), List.mem_of_getElem? (i := 1361) (by decide +kernel), List.mem_of_getElem? (i := 1362) (by decide +kernel)⟩
theorem lw_p44 : lw_okq (⟨"LockedHouseModel", "takes", "()I"⟩, 54) := ⟨⟨by decide +kernel, by decide +kernel⟩, List.mem_of_getElem? (i := 1057) (by decide +kernel), List.mem_of_getElem? (i := 1365) (by decide +kernel), List.mem_of_getElem? (i := 1366) (by decide +kernel)⟩
theorem lw_p45 : lw_okq (⟨"LockedHouseModel", "rises", "(I)V"⟩, 54) := ⟨⟨by decide +kernel, by decide +kernel⟩, List.mem_of_getElem? (i := 1057) (by decide +kernel), List.mem_of_getElem? (i := 1369) (by decide +kernel), List.mem_of_getElem? (i := 1370) (by decide +kernel)⟩
theorem lw_p46 : lw_okq (⟨"LockedHouseModel", "isCode", "(I)Z"⟩, 54) := ⟨⟨by decide +kernel, by decide +kernel⟩, List.mem_of_getElem? (i := 1057) (by decide +kernel), List.mem_of_getElem? (i := 1377) (by decide +kernel), List.mem_of_getElem? (i := 1378) (by decide +kernel)⟩
theorem lw_p47 : lw_okq (⟨"LockedHouseModel", "isOpen", "(I)Z"⟩, 54) := ⟨⟨by decide +kernel, by decide +kernel⟩, List.mem_of_getElem? (i := 1057) (by decide +kernel), List.mem_of_getElem? (i := 1397) (by decide +kernel), List.mem_of_getElem? (i := 1398) (by decide +kernel)⟩
def lw_privs_3 : List (MethodName × Nat) := [(⟨"LockedHouseModel", "weigh", "()V"⟩, 54), (⟨"LockedHouseModel", "fresh", "()V"⟩, 54), (⟨"LockedHouseModel", "done", "(III)I"⟩, 54), (⟨"LockedHouseModel", "isEnd", "(I)Z"⟩, 54), (⟨"LockedHouseModel", "stateOf", "(II)I"⟩, 54), (⟨"LockedHouseModel", "hasNeeds", "(II)Z"⟩, 54), (⟨"LockedHouseModel", "wasDone", "(II)Z"⟩, 54), (⟨"LockedHouseModel", "allOnce", "(I)Z"⟩, 54), (⟨"LockedHouseModel", "walks", "()V"⟩, 54), (⟨"LockedHouseModel", "measures", "()V"⟩, 54), (⟨"LockedHouseModel", "turnsRound", "()V"⟩, 54), (⟨"LockedHouseModel", "puts", "(II)V"⟩, 54), (⟨"LockedHouseModel", "takes", "()I"⟩, 54), (⟨"LockedHouseModel", "rises", "(I)V"⟩, 54), (⟨"LockedHouseModel", "isCode", "(I)Z"⟩, 54), (⟨"LockedHouseModel", "isOpen", "(I)Z"⟩, 54)]
theorem lw_r3 : ∀ q ∈ lw_privs_3, lw_okq q := List.forall_mem_cons.mpr ⟨lw_p32, List.forall_mem_cons.mpr ⟨lw_p33, List.forall_mem_cons.mpr ⟨lw_p34, List.forall_mem_cons.mpr ⟨lw_p35, List.forall_mem_cons.mpr ⟨lw_p36, List.forall_mem_cons.mpr ⟨lw_p37, List.forall_mem_cons.mpr ⟨lw_p38, List.forall_mem_cons.mpr ⟨lw_p39, List.forall_mem_cons.mpr ⟨lw_p40, List.forall_mem_cons.mpr ⟨lw_p41, List.forall_mem_cons.mpr ⟨lw_p42, List.forall_mem_cons.mpr ⟨lw_p43, List.forall_mem_cons.mpr ⟨lw_p44, List.forall_mem_cons.mpr ⟨lw_p45, List.forall_mem_cons.mpr ⟨lw_p46, List.forall_mem_cons.mpr ⟨lw_p47, fun _ h => absurd h List.not_mem_nil⟩⟩⟩⟩⟩⟩⟩⟩⟩⟩⟩⟩⟩⟩⟩⟩
theorem lw_p48 : lw_okq (⟨"LockedHouseModel", "hinted", "(I)I"⟩, 54) := ⟨⟨by decide +kernel, by decide +kernel⟩, List.mem_of_getElem? (i := 1057) (by decide +kernel), List.mem_of_getElem? (i := 1405) (by decide +kernel), List.mem_of_getElem? (i := 1406) (by decide +kernel)⟩
theorem lw_p49 : lw_okq (⟨"LockedHouseModel", "tells", "(I)V"⟩, 54) := ⟨⟨by decide +kernel, by decide +kernel⟩, List.mem_of_getElem? (i := 1057) (by decide +kernel), List.mem_of_getElem? (i := 1413) (by decide +kernel), List.mem_of_getElem? (i := 1414) (by decide +kernel)⟩
theorem lw_p50 : lw_okq (⟨"LockedHouseModel", "lying", "(III)I"⟩, 54) := ⟨⟨by decide +kernel, by decide +kernel⟩, List.mem_of_getElem? (i := 1057) (by decide +kernel), List.mem_of_getElem? (i := 1447) (by decide +kernel), List.mem_of_getElem? (i := 1448) (by decide +kernel)⟩
theorem lw_p51 : lw_okq (⟨"LockedHouseModel", "asTold", "(I)I"⟩, 54) := ⟨⟨by decide +kernel, by decide +kernel⟩, List.mem_of_getElem? (i := 1057) (by decide +kernel), List.mem_of_getElem? (i := 1451) (by decide +kernel), List.mem_of_getElem? (i := 1452) (by decide +kernel)⟩
theorem lw_p52 : lw_okq (⟨"LockedHouseModel", "isPutBack", "(III)Z"⟩, 54) := ⟨⟨by decide +kernel, by decide +kernel⟩, List.mem_of_getElem? (i := 1057) (by decide +kernel), List.mem_of_getElem? (i := 1459) (by decide +kernel), List.mem_of_getElem? (i := 1460) (by decide +kernel)⟩
theorem lw_p53 : lw_okq (⟨"LockedHouseModel", "isGroup", "(I)Z"⟩, 54) := ⟨⟨by decide +kernel, by decide +kernel⟩, List.mem_of_getElem? (i := 1057) (by decide +kernel), List.mem_of_getElem? (i := 1471) (by decide +kernel), List.mem_of_getElem? (i := 1472) (by decide +kernel)⟩
def lw_privs_4 : List (MethodName × Nat) := [(⟨"LockedHouseModel", "hinted", "(I)I"⟩, 54), (⟨"LockedHouseModel", "tells", "(I)V"⟩, 54), (⟨"LockedHouseModel", "lying", "(III)I"⟩, 54), (⟨"LockedHouseModel", "asTold", "(I)I"⟩, 54), (⟨"LockedHouseModel", "isPutBack", "(III)Z"⟩, 54), (⟨"LockedHouseModel", "isGroup", "(I)Z"⟩, 54)]
theorem lw_r4 : ∀ q ∈ lw_privs_4, lw_okq q := List.forall_mem_cons.mpr ⟨lw_p48, List.forall_mem_cons.mpr ⟨lw_p49, List.forall_mem_cons.mpr ⟨lw_p50, List.forall_mem_cons.mpr ⟨lw_p51, List.forall_mem_cons.mpr ⟨lw_p52, List.forall_mem_cons.mpr ⟨lw_p53, fun _ h => absurd h List.not_mem_nil⟩⟩⟩⟩⟩⟩
def lw_privs : List (MethodName × Nat) := lw_privs_1 ++ (lw_privs_2 ++ (lw_privs_3 ++ (lw_privs_4)))
def lw_tbl : List Cond := k2_sels lw_privs ++ tables_1
theorem lw_privs_ok : ∀ q ∈ lw_privs, lw_okq q := by
  show ∀ q ∈ lw_privs_1 ++ (lw_privs_2 ++ (lw_privs_3 ++ (lw_privs_4))), lw_okq q
  exact List.forall_mem_append.mpr ⟨lw_r1, List.forall_mem_append.mpr ⟨lw_r2, List.forall_mem_append.mpr ⟨lw_r3, lw_r4⟩⟩⟩
end
section
def R_Diary : String := "LockedHouse$Diary"
def F_Diary : u_T := fun k => match k with
  | 0 => ("LockedHouse$Diary", "actors", "[I", true)
  | 1 => ("LockedHouse$Diary", "deeds", "[I", true)
  | 2 => ("LockedHouse$Diary", "codes", "[I", true)
  | 3 => ("LockedHouse$Diary", "next", "I", false)
  | 4 => ("LockedHouse$Diary", "kept", "I", false)
  | _ => ("LockedHouse$Diary", "made", "I", false)
def t_Diary : Nat → FieldType := fun k => match k with
  | 0 => .array .int
  | 1 => .array .int
  | 2 => .array .int
  | 3 => .int
  | 4 => .int
  | _ => .int
theorem n_Diary : ∀ a, a < 6 → ∀ b, b < 6 → a ≠ b → (F_Diary a).2.1 ≠ (F_Diary b).2.1 := by decide +kernel
theorem t_Diary_ok : ∀ k, k < 6 → parseFieldDescriptor (F_Diary k).2.2.1 = some (t_Diary k) := by decide +kernel
def R_Group : String := "LockedHouse$Group"
def F_Group : u_T := fun k => match k with
  | 0 => ("LockedHouse$Group", "plays", "Z", false)
  | 1 => ("LockedHouse$Group", "code", "I", false)
  | 2 => ("LockedHouse$Group", "hands", "I", false)
  | 3 => ("LockedHouse$Group", "ticks", "I", false)
  | 4 => ("LockedHouse$Group", "room", "I", false)
  | _ => ("LockedHouse$Group", "moves", "I", false)
def t_Group : Nat → FieldType := fun k => match k with
  | 0 => .boolean
  | 1 => .int
  | 2 => .int
  | 3 => .int
  | 4 => .int
  | _ => .int
theorem n_Group : ∀ a, a < 6 → ∀ b, b < 6 → a ≠ b → (F_Group a).2.1 ≠ (F_Group b).2.1 := by decide +kernel
theorem t_Group_ok : ∀ k, k < 6 → parseFieldDescriptor (F_Group k).2.2.1 = some (t_Group k) := by decide +kernel
def R_Heap : String := "LockedHouse$Heap"
def F_Heap : u_T := fun k => match k with
  | 0 => ("LockedHouse$Heap", "sums", "[I", true)
  | 1 => ("LockedHouse$Heap", "codes", "[I", true)
  | 2 => ("LockedHouse$Heap", "places", "[I", true)
  | _ => ("LockedHouse$Heap", "size", "I", false)
def t_Heap : Nat → FieldType := fun k => match k with
  | 0 => .array .int
  | 1 => .array .int
  | 2 => .array .int
  | _ => .int
theorem n_Heap : ∀ a, a < 4 → ∀ b, b < 4 → a ≠ b → (F_Heap a).2.1 ≠ (F_Heap b).2.1 := by decide +kernel
theorem t_Heap_ok : ∀ k, k < 4 → parseFieldDescriptor (F_Heap k).2.2.1 = some (t_Heap k) := by decide +kernel
def R_House : String := "LockedHouse$House"
def F_House : u_T := fun k => match k with
  | 0 => ("LockedHouse$House", "props", "Ljava/util/ArrayList;", true)
  | 1 => ("LockedHouse$House", "steps", "Ljava/util/ArrayList;", true)
  | 2 => ("LockedHouse$House", "end", "LLockedHouse$Pairs;", true)
  | 3 => ("LockedHouse$House", "hands", "I", false)
  | 4 => ("LockedHouse$House", "all", "I", false)
  | _ => ("LockedHouse$House", "start", "I", false)
def t_House : Nat → FieldType := fun k => match k with
  | 0 => .object "java/util/ArrayList"
  | 1 => .object "java/util/ArrayList"
  | 2 => .object "LockedHouse$Pairs"
  | 3 => .int
  | 4 => .int
  | _ => .int
theorem n_House : ∀ a, a < 6 → ∀ b, b < 6 → a ≠ b → (F_House a).2.1 ≠ (F_House b).2.1 := by decide +kernel
theorem t_House_ok : ∀ k, k < 6 → parseFieldDescriptor (F_House k).2.2.1 = some (t_House k) := by decide +kernel
def R_Line : String := "LockedHouse$Line"
def F_Line : u_T := fun k => match k with
  | 0 => ("LockedHouse$Line", "codes", "[I", true)
  | 1 => ("LockedHouse$Line", "marks", "[B", true)
  | _ => ("LockedHouse$Line", "size", "I", false)
def t_Line : Nat → FieldType := fun k => match k with
  | 0 => .array .int
  | 1 => .array .byte
  | _ => .int
theorem n_Line : ∀ a, a < 3 → ∀ b, b < 3 → a ≠ b → (F_Line a).2.1 ≠ (F_Line b).2.1 := by decide +kernel
theorem t_Line_ok : ∀ k, k < 3 → parseFieldDescriptor (F_Line k).2.2.1 = some (t_Line k) := by decide +kernel
def R_Pairs : String := "LockedHouse$Pairs"
def F_Pairs : u_T := fun k => match k with
  | 0 => ("LockedHouse$Pairs", "props", "Ljava/util/ArrayList;", true)
  | 1 => ("LockedHouse$Pairs", "states", "[I", true)
  | _ => ("LockedHouse$Pairs", "size", "I", false)
def t_Pairs : Nat → FieldType := fun k => match k with
  | 0 => .object "java/util/ArrayList"
  | 1 => .array .int
  | _ => .int
theorem n_Pairs : ∀ a, a < 3 → ∀ b, b < 3 → a ≠ b → (F_Pairs a).2.1 ≠ (F_Pairs b).2.1 := by decide +kernel
theorem t_Pairs_ok : ∀ k, k < 3 → parseFieldDescriptor (F_Pairs k).2.2.1 = some (t_Pairs k) := by decide +kernel
def R_Prop : String := "LockedHouse$Prop"
def F_Prop : u_T := fun k => match k with
  | 0 => ("LockedHouse$Prop", "number", "I", true)
  | 1 => ("LockedHouse$Prop", "states", "I", true)
  | 2 => ("LockedHouse$Prop", "first", "I", true)
  | 3 => ("LockedHouse$Prop", "weight", "I", true)
  | 4 => ("LockedHouse$Prop", "ruleProp", "I", false)
  | 5 => ("LockedHouse$Prop", "ruleState", "I", false)
  | 6 => ("LockedHouse$Prop", "exit", "I", false)
  | _ => ("LockedHouse$Prop", "reading", "I", false)
def t_Prop : Nat → FieldType := fun k => match k with
  | 0 => .int
  | 1 => .int
  | 2 => .int
  | 3 => .int
  | 4 => .int
  | 5 => .int
  | 6 => .int
  | _ => .int
theorem n_Prop : ∀ a, a < 8 → ∀ b, b < 8 → a ≠ b → (F_Prop a).2.1 ≠ (F_Prop b).2.1 := by decide +kernel
theorem t_Prop_ok : ∀ k, k < 8 → parseFieldDescriptor (F_Prop k).2.2.1 = some (t_Prop k) := by decide +kernel
def R_Row : String := "LockedHouse$Row"
def F_Row : u_T := fun k => match k with
  | 0 => ("LockedHouse$Row", "numbers", "[I", false)
  | _ => ("LockedHouse$Row", "size", "I", false)
def t_Row : Nat → FieldType := fun k => match k with
  | 0 => .array .int
  | _ => .int
theorem n_Row : ∀ a, a < 2 → ∀ b, b < 2 → a ≠ b → (F_Row a).2.1 ≠ (F_Row b).2.1 := by decide +kernel
theorem t_Row_ok : ∀ k, k < 2 → parseFieldDescriptor (F_Row k).2.2.1 = some (t_Row k) := by decide +kernel
def R_Step : String := "LockedHouse$Step"
def F_Step : u_T := fun k => match k with
  | 0 => ("LockedHouse$Step", "kind", "I", true)
  | 1 => ("LockedHouse$Step", "hands", "I", true)
  | 2 => ("LockedHouse$Step", "ticks", "I", true)
  | 3 => ("LockedHouse$Step", "room", "I", true)
  | 4 => ("LockedHouse$Step", "needs", "LLockedHouse$Pairs;", true)
  | 5 => ("LockedHouse$Step", "gives", "LLockedHouse$Pairs;", true)
  | _ => ("LockedHouse$Step", "weight", "I", false)
def t_Step : Nat → FieldType := fun k => match k with
  | 0 => .int
  | 1 => .int
  | 2 => .int
  | 3 => .int
  | 4 => .object "LockedHouse$Pairs"
  | 5 => .object "LockedHouse$Pairs"
  | _ => .int
theorem n_Step : ∀ a, a < 7 → ∀ b, b < 7 → a ≠ b → (F_Step a).2.1 ≠ (F_Step b).2.1 := by decide +kernel
theorem t_Step_ok : ∀ k, k < 7 → parseFieldDescriptor (F_Step k).2.2.1 = some (t_Step k) := by decide +kernel
def R_Walk : String := "LockedHouse$Walk"
def F_Walk : u_T := fun k => match k with
  | 0 => ("LockedHouse$Walk", "most", "I", true)
  | 1 => ("LockedHouse$Walk", "reach", "LLockedHouse$Line;", true)
  | 2 => ("LockedHouse$Walk", "house", "LLockedHouse$House;", true)
  | 3 => ("LockedHouse$Walk", "opens", "[I", true)
  | 4 => ("LockedHouse$Walk", "line", "LLockedHouse$Line;", true)
  | 5 => ("LockedHouse$Walk", "tally", "[I", true)
  | 6 => ("LockedHouse$Walk", "greatest", "[I", true)
  | 7 => ("LockedHouse$Walk", "ends", "LLockedHouse$Heap;", true)
  | 8 => ("LockedHouse$Walk", "isCharted", "Z", false)
  | 9 => ("LockedHouse$Walk", "isMeasured", "Z", false)
  | 10 => ("LockedHouse$Walk", "isLongestKnown", "Z", false)
  | _ => ("LockedHouse$Walk", "longestKnown", "I", false)
def t_Walk : Nat → FieldType := fun k => match k with
  | 0 => .int
  | 1 => .object "LockedHouse$Line"
  | 2 => .object "LockedHouse$House"
  | 3 => .array .int
  | 4 => .object "LockedHouse$Line"
  | 5 => .array .int
  | 6 => .array .int
  | 7 => .object "LockedHouse$Heap"
  | 8 => .boolean
  | 9 => .boolean
  | 10 => .boolean
  | _ => .int
theorem n_Walk : ∀ a, a < 12 → ∀ b, b < 12 → a ≠ b → (F_Walk a).2.1 ≠ (F_Walk b).2.1 := by decide +kernel
theorem t_Walk_ok : ∀ k, k < 12 → parseFieldDescriptor (F_Walk k).2.2.1 = some (t_Walk k) := by decide +kernel
def R_LH : String := "LockedHouse"
def F_LH : u_T := fun k => match k with
  | 0 => ("LockedHouse", "house", "LLockedHouse$House;", true)
  | 1 => ("LockedHouse", "told", "LLockedHouse$Row;", true)
  | 2 => ("LockedHouse", "diary", "LLockedHouse$Diary;", true)
  | 3 => ("LockedHouse", "groups", "Ljava/util/ArrayList;", true)
  | 4 => ("LockedHouse", "order", "[I", true)
  | _ => ("LockedHouse", "walk", "LLockedHouse$Walk;", false)
def t_LH : Nat → FieldType := fun k => match k with
  | 0 => .object "LockedHouse$House"
  | 1 => .object "LockedHouse$Row"
  | 2 => .object "LockedHouse$Diary"
  | 3 => .object "java/util/ArrayList"
  | 4 => .array .int
  | _ => .object "LockedHouse$Walk"
theorem n_LH : ∀ a, a < 6 → ∀ b, b < 6 → a ≠ b → (F_LH a).2.1 ≠ (F_LH b).2.1 := by decide +kernel
theorem t_LH_ok : ∀ k, k < 6 → parseFieldDescriptor (F_LH k).2.2.1 = some (t_LH k) := by decide +kernel
def R_Mod : String := "LockedHouseModel"
def F_Mod : u_T := fun k => match k with
  | 0 => ("LockedHouseModel", "thrown", "I", false)
  | 1 => ("LockedHouseModel", "props", "I", false)
  | 2 => ("LockedHouseModel", "states", "[I", true)
  | 3 => ("LockedHouseModel", "first", "[I", true)
  | 4 => ("LockedHouseModel", "steps", "I", false)
  | 5 => ("LockedHouseModel", "kind", "[I", true)
  | 6 => ("LockedHouseModel", "needsHands", "[I", true)
  | 7 => ("LockedHouseModel", "ticks", "[I", true)
  | 8 => ("LockedHouseModel", "room", "[I", true)
  | 9 => ("LockedHouseModel", "needs", "[I", true)
  | 10 => ("LockedHouseModel", "needProp", "[I", true)
  | 11 => ("LockedHouseModel", "needState", "[I", true)
  | 12 => ("LockedHouseModel", "gives", "[I", true)
  | 13 => ("LockedHouseModel", "giveProp", "[I", true)
  | 14 => ("LockedHouseModel", "giveState", "[I", true)
  | 15 => ("LockedHouseModel", "goals", "I", false)
  | 16 => ("LockedHouseModel", "goalProp", "[I", true)
  | 17 => ("LockedHouseModel", "goalState", "[I", true)
  | 18 => ("LockedHouseModel", "hands", "I", false)
  | 19 => ("LockedHouseModel", "ruleOf", "[I", true)
  | 20 => ("LockedHouseModel", "ruleState", "[I", true)
  | 21 => ("LockedHouseModel", "exits", "[I", true)
  | 22 => ("LockedHouseModel", "readings", "[I", true)
  | 23 => ("LockedHouseModel", "isStale", "Z", false)
  | 24 => ("LockedHouseModel", "worth", "[I", true)
  | 25 => ("LockedHouseModel", "worthOfStep", "[I", true)
  | 26 => ("LockedHouseModel", "all", "I", false)
  | 27 => ("LockedHouseModel", "firstCode", "I", false)
  | 28 => ("LockedHouseModel", "behind", "[I", true)
  | 29 => ("LockedHouseModel", "isReached", "[Z", true)
  | 30 => ("LockedHouseModel", "far", "[I", true)
  | 31 => ("LockedHouseModel", "queue", "[I", true)
  | 32 => ("LockedHouseModel", "begin", "[I", true)
  | 33 => ("LockedHouseModel", "fromCode", "[I", true)
  | 34 => ("LockedHouseModel", "fromStep", "[B", true)
  | 35 => ("LockedHouseModel", "heap", "[I", true)
  | 36 => ("LockedHouseModel", "placeOf", "[I", true)
  | 37 => ("LockedHouseModel", "heaped", "I", false)
  | 38 => ("LockedHouseModel", "row", "[I", true)
  | 39 => ("LockedHouseModel", "rows", "I", false)
  | 40 => ("LockedHouseModel", "comesIn", "[I", true)
  | 41 => ("LockedHouseModel", "longestTo", "[I", true)
  | 42 => ("LockedHouseModel", "met", "[Z", true)
  | 43 => ("LockedHouseModel", "works", "[I", true)
  | 44 => ("LockedHouseModel", "isIn", "[Z", true)
  | 45 => ("LockedHouseModel", "codeOf", "[I", true)
  | 46 => ("LockedHouseModel", "handsOf", "[I", true)
  | 47 => ("LockedHouseModel", "ticksOf", "[I", true)
  | 48 => ("LockedHouseModel", "roomOf", "[I", true)
  | 49 => ("LockedHouseModel", "movesOf", "[I", true)
  | 50 => ("LockedHouseModel", "moves", "I", false)
  | 51 => ("LockedHouseModel", "logGroup", "[I", true)
  | 52 => ("LockedHouseModel", "logStep", "[I", true)
  | _ => ("LockedHouseModel", "logCode", "[I", true)
def t_Mod : Nat → FieldType := fun k => match k with
  | 0 => .int
  | 1 => .int
  | 2 => .array .int
  | 3 => .array .int
  | 4 => .int
  | 5 => .array .int
  | 6 => .array .int
  | 7 => .array .int
  | 8 => .array .int
  | 9 => .array .int
  | 10 => .array .int
  | 11 => .array .int
  | 12 => .array .int
  | 13 => .array .int
  | 14 => .array .int
  | 15 => .int
  | 16 => .array .int
  | 17 => .array .int
  | 18 => .int
  | 19 => .array .int
  | 20 => .array .int
  | 21 => .array .int
  | 22 => .array .int
  | 23 => .boolean
  | 24 => .array .int
  | 25 => .array .int
  | 26 => .int
  | 27 => .int
  | 28 => .array .int
  | 29 => .array .boolean
  | 30 => .array .int
  | 31 => .array .int
  | 32 => .array .int
  | 33 => .array .int
  | 34 => .array .byte
  | 35 => .array .int
  | 36 => .array .int
  | 37 => .int
  | 38 => .array .int
  | 39 => .int
  | 40 => .array .int
  | 41 => .array .int
  | 42 => .array .boolean
  | 43 => .array .int
  | 44 => .array .boolean
  | 45 => .array .int
  | 46 => .array .int
  | 47 => .array .int
  | 48 => .array .int
  | 49 => .array .int
  | 50 => .int
  | 51 => .array .int
  | 52 => .array .int
  | _ => .array .int
theorem n_Mod : ∀ a, a < 54 → ∀ b, b < 54 → a ≠ b → (F_Mod a).2.1 ≠ (F_Mod b).2.1 := by decide +kernel
theorem t_Mod_ok : ∀ k, k < 54 → parseFieldDescriptor (F_Mod k).2.2.1 = some (t_Mod k) := by decide +kernel
def R_AL : String := "java/util/ArrayList"
def F_AL : u_T := fun k => match k with
  | 0 => ("java/util/AbstractList", "modCount", "I", false)
  | 1 => ("java/util/ArrayList", "elementData", "[Ljava/lang/Object;", false)
  | _ => ("java/util/ArrayList", "size", "I", false)
def t_AL : Nat → FieldType := fun k => match k with
  | 0 => .int
  | 1 => .array (.object "java/lang/Object")
  | _ => .int
theorem n_AL : ∀ a, a < 3 → ∀ b, b < 3 → a ≠ b → (F_AL a).2.1 ≠ (F_AL b).2.1 := by decide +kernel
theorem t_AL_ok : ∀ k, k < 3 → parseFieldDescriptor (F_AL k).2.2.1 = some (t_AL k) := by decide +kernel
def R_ALs : String := "java/util/AbstractList"
def R_ACo : String := "java/util/AbstractCollection"
def R_Int : String := "java/lang/Integer"
def R_Math : String := "java/lang/Math"
def R_Arr : String := "java/util/Arrays"
def R_ArS : String := "jdk/internal/util/ArraysSupport"
def R_Objs : String := "java/util/Objects"
def R_Pre : String := "jdk/internal/util/Preconditions"
def R_Law : String := "LockedHouseLaw"
def y_LH_init : MethodName := ⟨"LockedHouse", "<init>", "()V"⟩
abbrev m_LH_init : MethodName × ByteArray × Nat × Option FieldType := (y_LH_init, prog_1_method_1_code, 2, (none : Option Jvm.ClassFile.FieldType))
def y_House_init : MethodName := ⟨"LockedHouse$House", "<init>", "()V"⟩
abbrev m_House_init : MethodName × ByteArray × Nat × Option FieldType := (y_House_init, prog_5_method_1_code, 1, (none : Option Jvm.ClassFile.FieldType))
def y_AL_init : MethodName := ⟨"java/util/ArrayList", "<init>", "()V"⟩
abbrev m_AL_init : MethodName × ByteArray × Nat × Option FieldType := (y_AL_init, prog_26_method_2_code, 1, (none : Option Jvm.ClassFile.FieldType))
def y_ALs_init : MethodName := ⟨"java/util/AbstractList", "<init>", "()V"⟩
abbrev m_ALs_init : MethodName × ByteArray × Nat × Option FieldType := (y_ALs_init, prog_25_method_1_code, 1, (none : Option Jvm.ClassFile.FieldType))
def y_ACo_init : MethodName := ⟨"java/util/AbstractCollection", "<init>", "()V"⟩
abbrev m_ACo_init : MethodName × ByteArray × Nat × Option FieldType := (y_ACo_init, prog_24_method_1_code, 1, (none : Option Jvm.ClassFile.FieldType))
def y_Pairs_init : MethodName := ⟨"LockedHouse$Pairs", "<init>", "(I)V"⟩
abbrev m_Pairs_init : MethodName × ByteArray × Nat × Option FieldType := (y_Pairs_init, prog_7_method_1_code, 2, (none : Option Jvm.ClassFile.FieldType))
def y_Math_max : MethodName := ⟨"java/lang/Math", "max", "(II)I"⟩
abbrev m_Math_max : MethodName × ByteArray × Nat × Option FieldType := (y_Math_max, prog_19_method_65_code, 2, (some .int))
def y_Row_init : MethodName := ⟨"LockedHouse$Row", "<init>", "()V"⟩
abbrev m_Row_init : MethodName × ByteArray × Nat × Option FieldType := (y_Row_init, prog_9_method_1_code, 1, (none : Option Jvm.ClassFile.FieldType))
def y_Diary_init : MethodName := ⟨"LockedHouse$Diary", "<init>", "()V"⟩
abbrev m_Diary_init : MethodName × ByteArray × Nat × Option FieldType := (y_Diary_init, prog_2_method_1_code, 1, (none : Option Jvm.ClassFile.FieldType))
def y_Group_init : MethodName := ⟨"LockedHouse$Group", "<init>", "()V"⟩
abbrev m_Group_init : MethodName × ByteArray × Nat × Option FieldType := (y_Group_init, prog_3_method_1_code, 1, (none : Option Jvm.ClassFile.FieldType))
def y_AL_add1 : MethodName := ⟨"java/util/ArrayList", "add", "(Ljava/lang/Object;)Z"⟩
abbrev m_AL_add1 : MethodName × ByteArray × Nat × Option FieldType := (y_AL_add1, prog_26_method_25_code, 2, (some .boolean))
def y_AL_add2 : MethodName := ⟨"java/util/ArrayList", "add", "(Ljava/lang/Object;[Ljava/lang/Object;I)V"⟩
abbrev m_AL_add2 : MethodName × ByteArray × Nat × Option FieldType := (y_AL_add2, prog_26_method_24_code, 4, (none : Option Jvm.ClassFile.FieldType))
def y_AL_grow1 : MethodName := ⟨"java/util/ArrayList", "grow", "()[Ljava/lang/Object;"⟩
abbrev m_AL_grow1 : MethodName × ByteArray × Nat × Option FieldType := (y_AL_grow1, prog_26_method_7_code, 1, (some (.array (.object "java/lang/Object"))))
def y_AL_grow2 : MethodName := ⟨"java/util/ArrayList", "grow", "(I)[Ljava/lang/Object;"⟩
abbrev m_AL_grow2 : MethodName × ByteArray × Nat × Option FieldType := (y_AL_grow2, prog_26_method_6_code, 4, (some (.array (.object "java/lang/Object"))))
def y_ArS_newLength : MethodName := ⟨"jdk/internal/util/ArraysSupport", "newLength", "(III)I"⟩
abbrev m_ArS_newLength : MethodName × ByteArray × Nat × Option FieldType := (y_ArS_newLength, prog_34_method_27_code, 4, (some .int))
def y_ArS_hugeLength : MethodName := ⟨"jdk/internal/util/ArraysSupport", "hugeLength", "(II)I"⟩
abbrev m_ArS_hugeLength : MethodName × ByteArray × Nat × Option FieldType := (y_ArS_hugeLength, prog_34_method_28_code, 3, (some .int))
def y_Arr_copyOf1 : MethodName := ⟨"java/util/Arrays", "copyOf", "([Ljava/lang/Object;I)[Ljava/lang/Object;"⟩
abbrev m_Arr_copyOf1 : MethodName × ByteArray × Nat × Option FieldType := (y_Arr_copyOf1, prog_27_method_119_code, 2, (some (.array (.object "java/lang/Object"))))
def y_Arr_copyOf2 : MethodName := ⟨"java/util/Arrays", "copyOf", "([Ljava/lang/Object;ILjava/lang/Class;)[Ljava/lang/Object;"⟩
abbrev m_Arr_copyOf2 : MethodName × ByteArray × Nat × Option FieldType := (y_Arr_copyOf2, prog_27_method_120_code, 4, (some (.array (.object "java/lang/Object"))))
def y_Math_min : MethodName := ⟨"java/lang/Math", "min", "(II)I"⟩
abbrev m_Math_min : MethodName × ByteArray × Nat × Option FieldType := (y_Math_min, prog_19_method_69_code, 2, (some .int))
def y_Walk_init : MethodName := ⟨"LockedHouse$Walk", "<init>", "(LLockedHouse$House;I)V"⟩
abbrev m_Walk_init : MethodName × ByteArray × Nat × Option FieldType := (y_Walk_init, prog_11_method_1_code, 3, (none : Option Jvm.ClassFile.FieldType))
def y_Line_init : MethodName := ⟨"LockedHouse$Line", "<init>", "(I)V"⟩
abbrev m_Line_init : MethodName × ByteArray × Nat × Option FieldType := (y_Line_init, prog_6_method_1_code, 2, (none : Option Jvm.ClassFile.FieldType))
def y_Heap_init : MethodName := ⟨"LockedHouse$Heap", "<init>", "(I)V"⟩
abbrev m_Heap_init : MethodName × ByteArray × Nat × Option FieldType := (y_Heap_init, prog_4_method_1_code, 2, (none : Option Jvm.ClassFile.FieldType))
def y_LH_prop : MethodName := ⟨"LockedHouse", "prop", "(II)I"⟩
abbrev m_LH_prop : MethodName × ByteArray × Nat × Option FieldType := (y_LH_prop, prog_1_method_2_code, 3, (some .int))
def y_LH_playing : MethodName := ⟨"LockedHouse", "playing", "()I"⟩
abbrev m_LH_playing : MethodName × ByteArray × Nat × Option FieldType := (y_LH_playing, prog_1_method_37_code, 3, (some .int))
def y_AL_size : MethodName := ⟨"java/util/ArrayList", "size", "()I"⟩
abbrev m_AL_size : MethodName × ByteArray × Nat × Option FieldType := (y_AL_size, prog_26_method_8_code, 1, (some .int))
def y_AL_get : MethodName := ⟨"java/util/ArrayList", "get", "(I)Ljava/lang/Object;"⟩
abbrev m_AL_get : MethodName × ByteArray × Nat × Option FieldType := (y_AL_get, prog_26_method_20_code, 2, (some (.object "java/lang/Object")))
def y_Objs_checkIndex : MethodName := ⟨"java/util/Objects", "checkIndex", "(II)I"⟩
abbrev m_Objs_checkIndex : MethodName × ByteArray × Nat × Option FieldType := (y_Objs_checkIndex, prog_31_method_17_code, 2, (some .int))
def y_Pre_checkIndex : MethodName := ⟨"jdk/internal/util/Preconditions", "checkIndex", "(IILjava/util/function/BiFunction;)I"⟩
abbrev m_Pre_checkIndex : MethodName × ByteArray × Nat × Option FieldType := (y_Pre_checkIndex, prog_35_method_11_code, 3, (some .int))
def y_AL_elementData : MethodName := ⟨"java/util/ArrayList", "elementData", "(I)Ljava/lang/Object;"⟩
abbrev m_AL_elementData : MethodName × ByteArray × Nat × Option FieldType := (y_AL_elementData, prog_26_method_18_code, 2, (some (.object "java/lang/Object")))
def y_Walk_forget : MethodName := ⟨"LockedHouse$Walk", "forget", "()V"⟩
abbrev m_Walk_forget : MethodName × ByteArray × Nat × Option FieldType := (y_Walk_forget, prog_11_method_2_code, 1, (none : Option Jvm.ClassFile.FieldType))
def y_House_addProp : MethodName := ⟨"LockedHouse$House", "addProp", "(II)I"⟩
abbrev m_House_addProp : MethodName × ByteArray × Nat × Option FieldType := (y_House_addProp, prog_5_method_3_code, 5, (some .int))
def y_Prop_init : MethodName := ⟨"LockedHouse$Prop", "<init>", "(IIII)V"⟩
abbrev m_Prop_init : MethodName × ByteArray × Nat × Option FieldType := (y_Prop_init, prog_8_method_1_code, 5, (none : Option Jvm.ClassFile.FieldType))
def y_LH_step : MethodName := ⟨"LockedHouse", "step", "(IIII)I"⟩
abbrev m_LH_step : MethodName × ByteArray × Nat × Option FieldType := (y_LH_step, prog_1_method_3_code, 5, (some .int))
def y_LH_areHands : MethodName := ⟨"LockedHouse", "areHands", "(I)Z"⟩
abbrev m_LH_areHands : MethodName × ByteArray × Nat × Option FieldType := (y_LH_areHands, prog_1_method_35_code, 1, (some .boolean))
def y_Step_init : MethodName := ⟨"LockedHouse$Step", "<init>", "(IIII)V"⟩
abbrev m_Step_init : MethodName × ByteArray × Nat × Option FieldType := (y_Step_init, prog_10_method_1_code, 5, (none : Option Jvm.ClassFile.FieldType))
def y_House_addStep : MethodName := ⟨"LockedHouse$House", "addStep", "(LLockedHouse$Step;)I"⟩
abbrev m_House_addStep : MethodName × ByteArray × Nat × Option FieldType := (y_House_addStep, prog_5_method_4_code, 2, (some .int))
def y_LH_need : MethodName := ⟨"LockedHouse", "need", "(III)Z"⟩
abbrev m_LH_need : MethodName × ByteArray × Nat × Option FieldType := (y_LH_need, prog_1_method_4_code, 4, (some .boolean))
def y_House_hasStep : MethodName := ⟨"LockedHouse$House", "hasStep", "(I)Z"⟩
abbrev m_House_hasStep : MethodName × ByteArray × Nat × Option FieldType := (y_House_hasStep, prog_5_method_7_code, 2, (some .boolean))
def y_House_hasState : MethodName := ⟨"LockedHouse$House", "hasState", "(II)Z"⟩
abbrev m_House_hasState : MethodName × ByteArray × Nat × Option FieldType := (y_House_hasState, prog_5_method_6_code, 3, (some .boolean))
def y_House_hasProp : MethodName := ⟨"LockedHouse$House", "hasProp", "(I)Z"⟩
abbrev m_House_hasProp : MethodName × ByteArray × Nat × Option FieldType := (y_House_hasProp, prog_5_method_5_code, 2, (some .boolean))
def y_Pairs_add : MethodName := ⟨"LockedHouse$Pairs", "add", "(LLockedHouse$Prop;I)Z"⟩
abbrev m_Pairs_add : MethodName × ByteArray × Nat × Option FieldType := (y_Pairs_add, prog_7_method_2_code, 3, (some .boolean))
def y_LH_give : MethodName := ⟨"LockedHouse", "give", "(III)Z"⟩
abbrev m_LH_give : MethodName × ByteArray × Nat × Option FieldType := (y_LH_give, prog_1_method_5_code, 5, (some .boolean))
def y_Pairs_names : MethodName := ⟨"LockedHouse$Pairs", "names", "(I)Z"⟩
abbrev m_Pairs_names : MethodName × ByteArray × Nat × Option FieldType := (y_Pairs_names, prog_7_method_4_code, 3, (some .boolean))
def y_LH_goal : MethodName := ⟨"LockedHouse", "goal", "(II)Z"⟩
abbrev m_LH_goal : MethodName × ByteArray × Nat × Option FieldType := (y_LH_goal, prog_1_method_6_code, 3, (some .boolean))
def y_LH_hands : MethodName := ⟨"LockedHouse", "hands", "(I)Z"⟩
abbrev m_LH_hands : MethodName × ByteArray × Nat × Option FieldType := (y_LH_hands, prog_1_method_7_code, 2, (some .boolean))
def y_LH_rule : MethodName := ⟨"LockedHouse", "rule", "(III)Z"⟩
abbrev m_LH_rule : MethodName × ByteArray × Nat × Option FieldType := (y_LH_rule, prog_1_method_8_code, 5, (some .boolean))
def y_LH_exit : MethodName := ⟨"LockedHouse", "exit", "(II)Z"⟩
abbrev m_LH_exit : MethodName × ByteArray × Nat × Option FieldType := (y_LH_exit, prog_1_method_9_code, 3, (some .boolean))
def y_LH_clear : MethodName := ⟨"LockedHouse", "clear", "()I"⟩
abbrev m_LH_clear : MethodName × ByteArray × Nat × Option FieldType := (y_LH_clear, prog_1_method_10_code, 3, (some .int))
def y_House_tearDown : MethodName := ⟨"LockedHouse$House", "tearDown", "()V"⟩
abbrev m_House_tearDown : MethodName × ByteArray × Nat × Option FieldType := (y_House_tearDown, prog_5_method_2_code, 1, (none : Option Jvm.ClassFile.FieldType))
def y_AL_clear : MethodName := ⟨"java/util/ArrayList", "clear", "()V"⟩
abbrev m_AL_clear : MethodName × ByteArray × Nat × Option FieldType := (y_AL_clear, prog_26_method_40_code, 4, (none : Option Jvm.ClassFile.FieldType))
def y_Pairs_empty : MethodName := ⟨"LockedHouse$Pairs", "empty", "()V"⟩
abbrev m_Pairs_empty : MethodName × ByteArray × Nat × Option FieldType := (y_Pairs_empty, prog_7_method_3_code, 1, (none : Option Jvm.ClassFile.FieldType))
def y_Row_begin : MethodName := ⟨"LockedHouse$Row", "begin", "(I)V"⟩
abbrev m_Row_begin : MethodName × ByteArray × Nat × Option FieldType := (y_Row_begin, prog_9_method_2_code, 2, (none : Option Jvm.ClassFile.FieldType))
def y_Diary_begin : MethodName := ⟨"LockedHouse$Diary", "begin", "()V"⟩
abbrev m_Diary_begin : MethodName × ByteArray × Nat × Option FieldType := (y_Diary_begin, prog_2_method_2_code, 1, (none : Option Jvm.ClassFile.FieldType))
def y_LH_count : MethodName := ⟨"LockedHouse", "count", "(I)I"⟩
abbrev m_LH_count : MethodName × ByteArray × Nat × Option FieldType := (y_LH_count, prog_1_method_11_code, 2, (some .int))
def y_LH_reached : MethodName := ⟨"LockedHouse", "reached", "()I"⟩
abbrev m_LH_reached : MethodName × ByteArray × Nat × Option FieldType := (y_LH_reached, prog_1_method_12_code, 1, (some .int))
def y_LH_walked : MethodName := ⟨"LockedHouse", "walked", "()LLockedHouse$Walk;"⟩
abbrev m_LH_walked : MethodName × ByteArray × Nat × Option FieldType := (y_LH_walked, prog_1_method_39_code, 1, (some (.object "LockedHouse$Walk")))
def y_LH_widen : MethodName := ⟨"LockedHouse", "widen", "()V"⟩
abbrev m_LH_widen : MethodName × ByteArray × Nat × Option FieldType := (y_LH_widen, prog_1_method_41_code, 1, (none : Option Jvm.ClassFile.FieldType))
def y_Walk_chart : MethodName := ⟨"LockedHouse$Walk", "chart", "()V"⟩
abbrev m_Walk_chart : MethodName × ByteArray × Nat × Option FieldType := (y_Walk_chart, prog_11_method_3_code, 3, (none : Option Jvm.ClassFile.FieldType))
def y_Line_begin : MethodName := ⟨"LockedHouse$Line", "begin", "()V"⟩
abbrev m_Line_begin : MethodName × ByteArray × Nat × Option FieldType := (y_Line_begin, prog_6_method_2_code, 1, (none : Option Jvm.ClassFile.FieldType))
def y_Arr_fill1 : MethodName := ⟨"java/util/Arrays", "fill", "([BB)V"⟩
abbrev m_Arr_fill1 : MethodName × ByteArray × Nat × Option FieldType := (y_Arr_fill1, prog_27_method_109_code, 4, (none : Option Jvm.ClassFile.FieldType))
def y_Line_join : MethodName := ⟨"LockedHouse$Line", "join", "(I)V"⟩
abbrev m_Line_join : MethodName × ByteArray × Nat × Option FieldType := (y_Line_join, prog_6_method_4_code, 2, (none : Option Jvm.ClassFile.FieldType))
def y_Line_codeAt : MethodName := ⟨"LockedHouse$Line", "codeAt", "(I)I"⟩
abbrev m_Line_codeAt : MethodName × ByteArray × Nat × Option FieldType := (y_Line_codeAt, prog_6_method_5_code, 2, (some .int))
def y_Walk_fits : MethodName := ⟨"LockedHouse$Walk", "fits", "(I)Z"⟩
abbrev m_Walk_fits : MethodName × ByteArray × Nat × Option FieldType := (y_Walk_fits, prog_11_method_4_code, 2, (some .boolean))
def y_House_openSteps : MethodName := ⟨"LockedHouse$House", "openSteps", "(I)I"⟩
abbrev m_House_openSteps : MethodName × ByteArray × Nat × Option FieldType := (y_House_openSteps, prog_5_method_12_code, 4, (some .int))
def y_House_isEnd : MethodName := ⟨"LockedHouse$House", "isEnd", "(I)Z"⟩
abbrev m_House_isEnd : MethodName × ByteArray × Nat × Option FieldType := (y_House_isEnd, prog_5_method_10_code, 2, (some .boolean))
def y_Pairs_areAll : MethodName := ⟨"LockedHouse$Pairs", "areAll", "(I)Z"⟩
abbrev m_Pairs_areAll : MethodName × ByteArray × Nat × Option FieldType := (y_Pairs_areAll, prog_7_method_5_code, 3, (some .boolean))
def y_Prop_stateIn : MethodName := ⟨"LockedHouse$Prop", "stateIn", "(I)I"⟩
abbrev m_Prop_stateIn : MethodName × ByteArray × Nat × Option FieldType := (y_Prop_stateIn, prog_8_method_2_code, 2, (some .int))
def y_House_canDo : MethodName := ⟨"LockedHouse$House", "canDo", "(ILLockedHouse$Step;I)Z"⟩
abbrev m_House_canDo : MethodName × ByteArray × Nat × Option FieldType := (y_House_canDo, prog_5_method_20_code, 4, (some .boolean))
def y_Step_wasDone : MethodName := ⟨"LockedHouse$Step", "wasDone", "(I)Z"⟩
abbrev m_Step_wasDone : MethodName × ByteArray × Nat × Option FieldType := (y_Step_wasDone, prog_10_method_2_code, 2, (some .boolean))
def y_Pairs_isAny : MethodName := ⟨"LockedHouse$Pairs", "isAny", "(I)Z"⟩
abbrev m_Pairs_isAny : MethodName × ByteArray × Nat × Option FieldType := (y_Pairs_isAny, prog_7_method_6_code, 3, (some .boolean))
def y_House_isAllOnceDone : MethodName := ⟨"LockedHouse$House", "isAllOnceDone", "(I)Z"⟩
abbrev m_House_isAllOnceDone : MethodName × ByteArray × Nat × Option FieldType := (y_House_isAllOnceDone, prog_5_method_21_code, 3, (some .boolean))
def y_Walk_joinBehind : MethodName := ⟨"LockedHouse$Walk", "joinBehind", "(ILLockedHouse$Line;II)V"⟩
abbrev m_Walk_joinBehind : MethodName × ByteArray × Nat × Option FieldType := (y_Walk_joinBehind, prog_11_method_6_code, 7, (none : Option Jvm.ClassFile.FieldType))
def y_Walk_isOpen : MethodName := ⟨"LockedHouse$Walk", "isOpen", "(II)Z"⟩
abbrev m_Walk_isOpen : MethodName × ByteArray × Nat × Option FieldType := (y_Walk_isOpen, prog_11_method_5_code, 3, (some .boolean))
def y_Step_codeAfter : MethodName := ⟨"LockedHouse$Step", "codeAfter", "(I)I"⟩
abbrev m_Step_codeAfter : MethodName × ByteArray × Nat × Option FieldType := (y_Step_codeAfter, prog_10_method_3_code, 3, (some .int))
def y_Pairs_codeWith : MethodName := ⟨"LockedHouse$Pairs", "codeWith", "(I)I"⟩
abbrev m_Pairs_codeWith : MethodName × ByteArray × Nat × Option FieldType := (y_Pairs_codeWith, prog_7_method_7_code, 4, (some .int))
def y_Prop_codeWith : MethodName := ⟨"LockedHouse$Prop", "codeWith", "(II)I"⟩
abbrev m_Prop_codeWith : MethodName × ByteArray × Nat × Option FieldType := (y_Prop_codeWith, prog_8_method_3_code, 3, (some .int))
def y_House_isSo : MethodName := ⟨"LockedHouse$House", "isSo", "(III)Z"⟩
abbrev m_House_isSo : MethodName × ByteArray × Nat × Option FieldType := (y_House_isSo, prog_5_method_9_code, 4, (some .boolean))
def y_LH_comes : MethodName := ⟨"LockedHouse", "comes", "(I)I"⟩
abbrev m_LH_comes : MethodName × ByteArray × Nat × Option FieldType := (y_LH_comes, prog_1_method_13_code, 2, (some .int))
def y_House_hasCode : MethodName := ⟨"LockedHouse$House", "hasCode", "(I)Z"⟩
abbrev m_House_hasCode : MethodName × ByteArray × Nat × Option FieldType := (y_House_hasCode, prog_5_method_8_code, 2, (some .boolean))
def y_Line_has : MethodName := ⟨"LockedHouse$Line", "has", "(I)Z"⟩
abbrev m_Line_has : MethodName × ByteArray × Nat × Option FieldType := (y_Line_has, prog_6_method_3_code, 2, (some .boolean))
def y_LH_open : MethodName := ⟨"LockedHouse", "open", "(I)I"⟩
abbrev m_LH_open : MethodName × ByteArray × Nat × Option FieldType := (y_LH_open, prog_1_method_15_code, 2, (some .int))
def y_LH_behind : MethodName := ⟨"LockedHouse", "behind", "(II)I"⟩
abbrev m_LH_behind : MethodName × ByteArray × Nat × Option FieldType := (y_LH_behind, prog_1_method_16_code, 3, (some .int))
def y_House_canMove : MethodName := ⟨"LockedHouse$House", "canMove", "(III)Z"⟩
abbrev m_House_canMove : MethodName × ByteArray × Nat × Option FieldType := (y_House_canMove, prog_5_method_11_code, 4, (some .boolean))
def y_House_codeAfter : MethodName := ⟨"LockedHouse$House", "codeAfter", "(II)I"⟩
abbrev m_House_codeAfter : MethodName × ByteArray × Nat × Option FieldType := (y_House_codeAfter, prog_5_method_13_code, 3, (some .int))
def y_LH_least : MethodName := ⟨"LockedHouse", "least", "(I)I"⟩
abbrev m_LH_least : MethodName × ByteArray × Nat × Option FieldType := (y_LH_least, prog_1_method_17_code, 2, (some .int))
def y_LH_measured : MethodName := ⟨"LockedHouse", "measured", "()LLockedHouse$Walk;"⟩
abbrev m_LH_measured : MethodName × ByteArray × Nat × Option FieldType := (y_LH_measured, prog_1_method_40_code, 1, (some (.object "LockedHouse$Walk")))
def y_Walk_measure : MethodName := ⟨"LockedHouse$Walk", "measure", "()V"⟩
abbrev m_Walk_measure : MethodName × ByteArray × Nat × Option FieldType := (y_Walk_measure, prog_11_method_7_code, 4, (none : Option Jvm.ClassFile.FieldType))
def y_Heap_begin : MethodName := ⟨"LockedHouse$Heap", "begin", "()V"⟩
abbrev m_Heap_begin : MethodName × ByteArray × Nat × Option FieldType := (y_Heap_begin, prog_4_method_2_code, 1, (none : Option Jvm.ClassFile.FieldType))
def y_Arr_fill2 : MethodName := ⟨"java/util/Arrays", "fill", "([II)V"⟩
abbrev m_Arr_fill2 : MethodName × ByteArray × Nat × Option FieldType := (y_Arr_fill2, prog_27_method_103_code, 4, (none : Option Jvm.ClassFile.FieldType))
def y_Heap_offer : MethodName := ⟨"LockedHouse$Heap", "offer", "(II)V"⟩
abbrev m_Heap_offer : MethodName × ByteArray × Nat × Option FieldType := (y_Heap_offer, prog_4_method_5_code, 3, (none : Option Jvm.ClassFile.FieldType))
def y_Heap_lift : MethodName := ⟨"LockedHouse$Heap", "lift", "(II)V"⟩
abbrev m_Heap_lift : MethodName × ByteArray × Nat × Option FieldType := (y_Heap_lift, prog_4_method_9_code, 5, (none : Option Jvm.ClassFile.FieldType))
def y_Heap_codeAt : MethodName := ⟨"LockedHouse$Heap", "codeAt", "(I)I"⟩
abbrev m_Heap_codeAt : MethodName × ByteArray × Nat × Option FieldType := (y_Heap_codeAt, prog_4_method_7_code, 2, (some .int))
def y_Heap_sumOf : MethodName := ⟨"LockedHouse$Heap", "sumOf", "(I)I"⟩
abbrev m_Heap_sumOf : MethodName × ByteArray × Nat × Option FieldType := (y_Heap_sumOf, prog_4_method_4_code, 2, (some .int))
def y_Heap_place : MethodName := ⟨"LockedHouse$Heap", "place", "(II)V"⟩
abbrev m_Heap_place : MethodName × ByteArray × Nat × Option FieldType := (y_Heap_place, prog_4_method_8_code, 3, (none : Option Jvm.ClassFile.FieldType))
def y_Heap_isEmpty : MethodName := ⟨"LockedHouse$Heap", "isEmpty", "()Z"⟩
abbrev m_Heap_isEmpty : MethodName × ByteArray × Nat × Option FieldType := (y_Heap_isEmpty, prog_4_method_3_code, 1, (some .boolean))
def y_Heap_take : MethodName := ⟨"LockedHouse$Heap", "take", "()I"⟩
abbrev m_Heap_take : MethodName × ByteArray × Nat × Option FieldType := (y_Heap_take, prog_4_method_6_code, 2, (some .int))
def y_Heap_sink : MethodName := ⟨"LockedHouse$Heap", "sink", "(I)V"⟩
abbrev m_Heap_sink : MethodName × ByteArray × Nat × Option FieldType := (y_Heap_sink, prog_4_method_10_code, 4, (none : Option Jvm.ClassFile.FieldType))
def y_Walk_offerAhead : MethodName := ⟨"LockedHouse$Walk", "offerAhead", "(II)V"⟩
abbrev m_Walk_offerAhead : MethodName × ByteArray × Nat × Option FieldType := (y_Walk_offerAhead, prog_11_method_8_code, 8, (none : Option Jvm.ClassFile.FieldType))
def y_Step_leadsTo : MethodName := ⟨"LockedHouse$Step", "leadsTo", "(I)Z"⟩
abbrev m_Step_leadsTo : MethodName × ByteArray × Nat × Option FieldType := (y_Step_leadsTo, prog_10_method_4_code, 2, (some .boolean))
def y_Pairs_variants : MethodName := ⟨"LockedHouse$Pairs", "variants", "()I"⟩
abbrev m_Pairs_variants : MethodName × ByteArray × Nat × Option FieldType := (y_Pairs_variants, prog_7_method_8_code, 3, (some .int))
def y_Step_codeAhead : MethodName := ⟨"LockedHouse$Step", "codeAhead", "(II)I"⟩
abbrev m_Step_codeAhead : MethodName × ByteArray × Nat × Option FieldType := (y_Step_codeAhead, prog_10_method_5_code, 3, (some .int))
def y_Pairs_codeOfVariant : MethodName := ⟨"LockedHouse$Pairs", "codeOfVariant", "(II)I"⟩
abbrev m_Pairs_codeOfVariant : MethodName × ByteArray × Nat × Option FieldType := (y_Pairs_codeOfVariant, prog_7_method_9_code, 7, (some .int))
def y_Walk_leastSum : MethodName := ⟨"LockedHouse$Walk", "leastSum", "(I)I"⟩
abbrev m_Walk_leastSum : MethodName × ByteArray × Nat × Option FieldType := (y_Walk_leastSum, prog_11_method_9_code, 2, (some .int))
def y_LH_hint : MethodName := ⟨"LockedHouse", "hint", "(I)I"⟩
abbrev m_LH_hint : MethodName × ByteArray × Nat × Option FieldType := (y_LH_hint, prog_1_method_18_code, 2, (some .int))
def y_Walk_firstStep : MethodName := ⟨"LockedHouse$Walk", "firstStep", "(I)I"⟩
abbrev m_Walk_firstStep : MethodName × ByteArray × Nat × Option FieldType := (y_Walk_firstStep, prog_11_method_10_code, 4, (some .int))
def y_LH_way : MethodName := ⟨"LockedHouse", "way", "(I)I"⟩
abbrev m_LH_way : MethodName × ByteArray × Nat × Option FieldType := (y_LH_way, prog_1_method_19_code, 6, (some .int))
def y_Row_put : MethodName := ⟨"LockedHouse$Row", "put", "(I)V"⟩
abbrev m_Row_put : MethodName × ByteArray × Nat × Option FieldType := (y_Row_put, prog_9_method_3_code, 2, (none : Option Jvm.ClassFile.FieldType))
def y_LH_longest : MethodName := ⟨"LockedHouse", "longest", "()I"⟩
abbrev m_LH_longest : MethodName × ByteArray × Nat × Option FieldType := (y_LH_longest, prog_1_method_20_code, 1, (some .int))
def y_Walk_longestSum : MethodName := ⟨"LockedHouse$Walk", "longestSum", "()I"⟩
abbrev m_Walk_longestSum : MethodName × ByteArray × Nat × Option FieldType := (y_Walk_longestSum, prog_11_method_16_code, 1, (some .int))
def y_Walk_findLongest : MethodName := ⟨"LockedHouse$Walk", "findLongest", "()I"⟩
abbrev m_Walk_findLongest : MethodName × ByteArray × Nat × Option FieldType := (y_Walk_findLongest, prog_11_method_17_code, 4, (some .int))
def y_Walk_countArrivals : MethodName := ⟨"LockedHouse$Walk", "countArrivals", "()V"⟩
abbrev m_Walk_countArrivals : MethodName × ByteArray × Nat × Option FieldType := (y_Walk_countArrivals, prog_11_method_18_code, 5, (none : Option Jvm.ClassFile.FieldType))
def y_Walk_arriveFrom : MethodName := ⟨"LockedHouse$Walk", "arriveFrom", "(II)V"⟩
abbrev m_Walk_arriveFrom : MethodName × ByteArray × Nat × Option FieldType := (y_Walk_arriveFrom, prog_11_method_19_code, 5, (none : Option Jvm.ClassFile.FieldType))
def y_LH_trap : MethodName := ⟨"LockedHouse", "trap", "()I"⟩
abbrev m_LH_trap : MethodName × ByteArray × Nat × Option FieldType := (y_LH_trap, prog_1_method_21_code, 4, (some .int))
def y_Walk_countLost : MethodName := ⟨"LockedHouse$Walk", "countLost", "()I"⟩
abbrev m_Walk_countLost : MethodName × ByteArray × Nat × Option FieldType := (y_Walk_countLost, prog_11_method_11_code, 3, (some .int))
def y_Walk_leastTrap : MethodName := ⟨"LockedHouse$Walk", "leastTrap", "()I"⟩
abbrev m_Walk_leastTrap : MethodName × ByteArray × Nat × Option FieldType := (y_Walk_leastTrap, prog_11_method_12_code, 2, (some .int))
def y_Walk_stepToLost : MethodName := ⟨"LockedHouse$Walk", "stepToLost", "(I)I"⟩
abbrev m_Walk_stepToLost : MethodName × ByteArray × Nat × Option FieldType := (y_Walk_stepToLost, prog_11_method_13_code, 3, (some .int))
def y_LH_lost : MethodName := ⟨"LockedHouse", "lost", "()I"⟩
abbrev m_LH_lost : MethodName × ByteArray × Nat × Option FieldType := (y_LH_lost, prog_1_method_22_code, 1, (some .int))
def y_LH_must : MethodName := ⟨"LockedHouse", "must", "(IIII)I"⟩
abbrev m_LH_must : MethodName × ByteArray × Nat × Option FieldType := (y_LH_must, prog_1_method_23_code, 5, (some .int))
def y_Walk_comesPast : MethodName := ⟨"LockedHouse$Walk", "comesPast", "(IIII)Z"⟩
abbrev m_Walk_comesPast : MethodName × ByteArray × Nat × Option FieldType := (y_Walk_comesPast, prog_11_method_14_code, 6, (some .boolean))
def y_LH_idle : MethodName := ⟨"LockedHouse", "idle", "()I"⟩
abbrev m_LH_idle : MethodName × ByteArray × Nat × Option FieldType := (y_LH_idle, prog_1_method_24_code, 3, (some .int))
def y_Walk_usedSteps : MethodName := ⟨"LockedHouse$Walk", "usedSteps", "()I"⟩
abbrev m_Walk_usedSteps : MethodName × ByteArray × Nat × Option FieldType := (y_Walk_usedSteps, prog_11_method_15_code, 4, (some .int))
def y_LH_reading : MethodName := ⟨"LockedHouse", "reading", "(II)Z"⟩
abbrev m_LH_reading : MethodName × ByteArray × Nat × Option FieldType := (y_LH_reading, prog_1_method_25_code, 3, (some .boolean))
def y_LH_liars : MethodName := ⟨"LockedHouse", "liars", "()I"⟩
abbrev m_LH_liars : MethodName × ByteArray × Nat × Option FieldType := (y_LH_liars, prog_1_method_26_code, 5, (some .int))
def y_Walk_firstLiars : MethodName := ⟨"LockedHouse$Walk", "firstLiars", "()I"⟩
abbrev m_Walk_firstLiars : MethodName × ByteArray × Nat × Option FieldType := (y_Walk_firstLiars, prog_11_method_20_code, 4, (some .int))
def y_House_lies : MethodName := ⟨"LockedHouse$House", "lies", "(I)I"⟩
abbrev m_House_lies : MethodName × ByteArray × Nat × Option FieldType := (y_House_lies, prog_5_method_15_code, 4, (some .int))
def y_Prop_isLie : MethodName := ⟨"LockedHouse$Prop", "isLie", "(I)Z"⟩
abbrev m_Prop_isLie : MethodName × ByteArray × Nat × Option FieldType := (y_Prop_isLie, prog_8_method_5_code, 2, (some .boolean))
def y_Walk_isAhead : MethodName := ⟨"LockedHouse$Walk", "isAhead", "(II)Z"⟩
abbrev m_Walk_isAhead : MethodName × ByteArray × Nat × Option FieldType := (y_Walk_isAhead, prog_11_method_21_code, 5, (some .boolean))
def y_Int_bitCount : MethodName := ⟨"java/lang/Integer", "bitCount", "(I)I"⟩
abbrev m_Int_bitCount : MethodName × ByteArray × Nat × Option FieldType := (y_Int_bitCount, prog_17_method_49_code, 1, (some .int))
def y_Walk_countTold : MethodName := ⟨"LockedHouse$Walk", "countTold", "(I)I"⟩
abbrev m_Walk_countTold : MethodName × ByteArray × Nat × Option FieldType := (y_Walk_countTold, prog_11_method_22_code, 4, (some .int))
def y_LH_back : MethodName := ⟨"LockedHouse", "back", "(I)I"⟩
abbrev m_LH_back : MethodName × ByteArray × Nat × Option FieldType := (y_LH_back, prog_1_method_27_code, 4, (some .int))
def y_House_orderBack : MethodName := ⟨"LockedHouse$House", "orderBack", "(I[I)I"⟩
abbrev m_House_orderBack : MethodName × ByteArray × Nat × Option FieldType := (y_House_orderBack, prog_5_method_16_code, 7, (some .int))
def y_House_nextBack : MethodName := ⟨"LockedHouse$House", "nextBack", "(I)I"⟩
abbrev m_House_nextBack : MethodName × ByteArray × Nat × Option FieldType := (y_House_nextBack, prog_5_method_17_code, 3, (some .int))
def y_Prop_isMoved : MethodName := ⟨"LockedHouse$Prop", "isMoved", "(I)Z"⟩
abbrev m_Prop_isMoved : MethodName × ByteArray × Nat × Option FieldType := (y_Prop_isMoved, prog_8_method_4_code, 2, (some .boolean))
def y_House_isRuleSo : MethodName := ⟨"LockedHouse$House", "isRuleSo", "(ILLockedHouse$Prop;)Z"⟩
abbrev m_House_isRuleSo : MethodName × ByteArray × Nat × Option FieldType := (y_House_isRuleSo, prog_5_method_18_code, 3, (some .boolean))
def y_House_isLeanedOn : MethodName := ⟨"LockedHouse$House", "isLeanedOn", "(II)Z"⟩
abbrev m_House_isLeanedOn : MethodName × ByteArray × Nat × Option FieldType := (y_House_isLeanedOn, prog_5_method_19_code, 5, (some .boolean))
def y_LH_enter : MethodName := ⟨"LockedHouse", "enter", "(I)I"⟩
abbrev m_LH_enter : MethodName × ByteArray × Nat × Option FieldType := (y_LH_enter, prog_1_method_28_code, 3, (some .int))
def y_Group_begin : MethodName := ⟨"LockedHouse$Group", "begin", "(II)V"⟩
abbrev m_Group_begin : MethodName × ByteArray × Nat × Option FieldType := (y_Group_begin, prog_3_method_2_code, 3, (none : Option Jvm.ClassFile.FieldType))
def y_LH_act : MethodName := ⟨"LockedHouse", "act", "(II)I"⟩
abbrev m_LH_act : MethodName × ByteArray × Nat × Option FieldType := (y_LH_act, prog_1_method_29_code, 5, (some .int))
def y_LH_plays : MethodName := ⟨"LockedHouse", "plays", "(I)Z"⟩
abbrev m_LH_plays : MethodName × ByteArray × Nat × Option FieldType := (y_LH_plays, prog_1_method_36_code, 2, (some .boolean))
def y_LH_isTaken : MethodName := ⟨"LockedHouse", "isTaken", "(II)Z"⟩
abbrev m_LH_isTaken : MethodName × ByteArray × Nat × Option FieldType := (y_LH_isTaken, prog_1_method_38_code, 4, (some .boolean))
def y_Group_move : MethodName := ⟨"LockedHouse$Group", "move", "(III)V"⟩
abbrev m_Group_move : MethodName × ByteArray × Nat × Option FieldType := (y_Group_move, prog_3_method_3_code, 4, (none : Option Jvm.ClassFile.FieldType))
def y_Diary_write : MethodName := ⟨"LockedHouse$Diary", "write", "(III)V"⟩
abbrev m_Diary_write : MethodName × ByteArray × Nat × Option FieldType := (y_Diary_write, prog_2_method_3_code, 4, (none : Option Jvm.ClassFile.FieldType))
def y_LH_leave : MethodName := ⟨"LockedHouse", "leave", "(I)I"⟩
abbrev m_LH_leave : MethodName × ByteArray × Nat × Option FieldType := (y_LH_leave, prog_1_method_31_code, 2, (some .int))
def y_LH_alarm : MethodName := ⟨"LockedHouse", "alarm", "()I"⟩
abbrev m_LH_alarm : MethodName × ByteArray × Nat × Option FieldType := (y_LH_alarm, prog_1_method_32_code, 2, (some .int))
def y_House_withExits : MethodName := ⟨"LockedHouse$House", "withExits", "(I)I"⟩
abbrev m_House_withExits : MethodName × ByteArray × Nat × Option FieldType := (y_House_withExits, prog_5_method_14_code, 5, (some .int))
def y_LH_log : MethodName := ⟨"LockedHouse", "log", "(II)I"⟩
abbrev m_LH_log : MethodName × ByteArray × Nat × Option FieldType := (y_LH_log, prog_1_method_33_code, 3, (some .int))
def y_Diary_read : MethodName := ⟨"LockedHouse$Diary", "read", "(II)I"⟩
abbrev m_Diary_read : MethodName × ByteArray × Nat × Option FieldType := (y_Diary_read, prog_2_method_4_code, 4, (some .int))
def y_Math_floorMod : MethodName := ⟨"java/lang/Math", "floorMod", "(II)I"⟩
abbrev m_Math_floorMod : MethodName × ByteArray × Nat × Option FieldType := (y_Math_floorMod, prog_19_method_50_code, 3, (some .int))
def y_Law_part : MethodName := ⟨"LockedHouseLaw", "part", "(LLockedHouse;III[J)I"⟩
abbrev m_Law_part : MethodName × ByteArray × Nat × Option FieldType := (y_Law_part, method_3_code, 6, (some .int))
def y_LH_part : MethodName := ⟨"LockedHouse", "part", "(III)I"⟩
abbrev m_LH_part : MethodName × ByteArray × Nat × Option FieldType := (y_LH_part, prog_1_method_14_code, 4, (some .int))
def y_Law_group : MethodName := ⟨"LockedHouseLaw", "group", "(LLockedHouse;II[J)I"⟩
abbrev m_Law_group : MethodName × ByteArray × Nat × Option FieldType := (y_Law_group, method_4_code, 5, (some .int))
def y_LH_group : MethodName := ⟨"LockedHouse", "group", "(II)I"⟩
abbrev m_LH_group : MethodName × ByteArray × Nat × Option FieldType := (y_LH_group, prog_1_method_30_code, 4, (some .int))
def y_Law_row : MethodName := ⟨"LockedHouseLaw", "row", "(LLockedHouse;I[J)I"⟩
abbrev m_Law_row : MethodName × ByteArray × Nat × Option FieldType := (y_Law_row, method_5_code, 4, (some .int))
def y_LH_row : MethodName := ⟨"LockedHouse", "row", "(I)I"⟩
abbrev m_LH_row : MethodName × ByteArray × Nat × Option FieldType := (y_LH_row, prog_1_method_34_code, 2, (some .int))
def y_Mod_init : MethodName := ⟨"LockedHouseModel", "<init>", "()V"⟩
abbrev m_Mod_init : MethodName × ByteArray × Nat × Option FieldType := (y_Mod_init, prog_13_method_1_code, 1, (none : Option Jvm.ClassFile.FieldType))
def y_Mod_thrown : MethodName := ⟨"LockedHouseModel", "thrown", "()I"⟩
abbrev m_Mod_thrown : MethodName × ByteArray × Nat × Option FieldType := (y_Mod_thrown, prog_13_method_2_code, 1, (some .int))
def y_Mod_prop : MethodName := ⟨"LockedHouseModel", "prop", "(II)I"⟩
abbrev m_Mod_prop : MethodName × ByteArray × Nat × Option FieldType := (y_Mod_prop, prog_13_method_11_code, 5, (some .int))
def y_Mod_plays : MethodName := ⟨"LockedHouseModel", "plays", "()Z"⟩
abbrev m_Mod_plays : MethodName × ByteArray × Nat × Option FieldType := (y_Mod_plays, prog_13_method_5_code, 3, (some .boolean))
def y_Mod_in : MethodName := ⟨"LockedHouseModel", "in", "(JJJ)Z"⟩
abbrev m_Mod_in : MethodName × ByteArray × Nat × Option FieldType := (y_Mod_in, prog_13_method_3_code, 6, (some .boolean))
def y_Mod_allCodes : MethodName := ⟨"LockedHouseModel", "allCodes", "()I"⟩
abbrev m_Mod_allCodes : MethodName × ByteArray × Nat × Option FieldType := (y_Mod_allCodes, prog_13_method_10_code, 3, (some .int))
def y_Mod_isOnce : MethodName := ⟨"LockedHouseModel", "isOnce", "(I)Z"⟩
abbrev m_Mod_isOnce : MethodName × ByteArray × Nat × Option FieldType := (y_Mod_isOnce, prog_13_method_9_code, 1, (some .boolean))
def y_Mod_step : MethodName := ⟨"LockedHouseModel", "step", "(IIII)I"⟩
abbrev m_Mod_step : MethodName × ByteArray × Nat × Option FieldType := (y_Mod_step, prog_13_method_12_code, 7, (some .int))
def y_Mod_need : MethodName := ⟨"LockedHouseModel", "need", "(III)Z"⟩
abbrev m_Mod_need : MethodName × ByteArray × Nat × Option FieldType := (y_Mod_need, prog_13_method_13_code, 4, (some .boolean))
def y_Mod_isStep : MethodName := ⟨"LockedHouseModel", "isStep", "(I)Z"⟩
abbrev m_Mod_isStep : MethodName × ByteArray × Nat × Option FieldType := (y_Mod_isStep, prog_13_method_8_code, 2, (some .boolean))
def y_Mod_isPair : MethodName := ⟨"LockedHouseModel", "isPair", "(II)Z"⟩
abbrev m_Mod_isPair : MethodName × ByteArray × Nat × Option FieldType := (y_Mod_isPair, prog_13_method_7_code, 3, (some .boolean))
def y_Mod_isProp : MethodName := ⟨"LockedHouseModel", "isProp", "(I)Z"⟩
abbrev m_Mod_isProp : MethodName × ByteArray × Nat × Option FieldType := (y_Mod_isProp, prog_13_method_6_code, 2, (some .boolean))
def y_Mod_give : MethodName := ⟨"LockedHouseModel", "give", "(III)Z"⟩
abbrev m_Mod_give : MethodName × ByteArray × Nat × Option FieldType := (y_Mod_give, prog_13_method_14_code, 6, (some .boolean))
def y_Mod_goal : MethodName := ⟨"LockedHouseModel", "goal", "(II)Z"⟩
abbrev m_Mod_goal : MethodName × ByteArray × Nat × Option FieldType := (y_Mod_goal, prog_13_method_15_code, 3, (some .boolean))
def y_Mod_hands : MethodName := ⟨"LockedHouseModel", "hands", "(I)Z"⟩
abbrev m_Mod_hands : MethodName × ByteArray × Nat × Option FieldType := (y_Mod_hands, prog_13_method_16_code, 2, (some .boolean))
def y_Mod_rule : MethodName := ⟨"LockedHouseModel", "rule", "(III)Z"⟩
abbrev m_Mod_rule : MethodName × ByteArray × Nat × Option FieldType := (y_Mod_rule, prog_13_method_17_code, 4, (some .boolean))
def y_Mod_exit : MethodName := ⟨"LockedHouseModel", "exit", "(II)Z"⟩
abbrev m_Mod_exit : MethodName × ByteArray × Nat × Option FieldType := (y_Mod_exit, prog_13_method_18_code, 3, (some .boolean))
def y_Mod_clear : MethodName := ⟨"LockedHouseModel", "clear", "()I"⟩
abbrev m_Mod_clear : MethodName × ByteArray × Nat × Option FieldType := (y_Mod_clear, prog_13_method_19_code, 3, (some .int))
def y_Mod_row : MethodName := ⟨"LockedHouseModel", "row", "(I)I"⟩
abbrev m_Mod_row : MethodName × ByteArray × Nat × Option FieldType := (y_Mod_row, prog_13_method_37_code, 2, (some .int))
def y_Mod_refuse : MethodName := ⟨"LockedHouseModel", "refuse", "()I"⟩
abbrev m_Mod_refuse : MethodName × ByteArray × Nat × Option FieldType := (y_Mod_refuse, prog_13_method_4_code, 1, (some .int))
def y_Mod_count : MethodName := ⟨"LockedHouseModel", "count", "(I)I"⟩
abbrev m_Mod_count : MethodName × ByteArray × Nat × Option FieldType := (y_Mod_count, prog_13_method_38_code, 4, (some .int))
def y_Mod_weigh : MethodName := ⟨"LockedHouseModel", "weigh", "()V"⟩
abbrev m_Mod_weigh : MethodName × ByteArray × Nat × Option FieldType := (y_Mod_weigh, prog_13_method_20_code, 2, (none : Option Jvm.ClassFile.FieldType))
def y_Mod_reached : MethodName := ⟨"LockedHouseModel", "reached", "()I"⟩
abbrev m_Mod_reached : MethodName × ByteArray × Nat × Option FieldType := (y_Mod_reached, prog_13_method_39_code, 3, (some .int))
def y_Mod_fresh : MethodName := ⟨"LockedHouseModel", "fresh", "()V"⟩
abbrev m_Mod_fresh : MethodName × ByteArray × Nat × Option FieldType := (y_Mod_fresh, prog_13_method_27_code, 3, (none : Option Jvm.ClassFile.FieldType))
def y_Mod_done : MethodName := ⟨"LockedHouseModel", "done", "(III)I"⟩
abbrev m_Mod_done : MethodName × ByteArray × Nat × Option FieldType := (y_Mod_done, prog_13_method_26_code, 7, (some .int))
def y_Mod_isEnd : MethodName := ⟨"LockedHouseModel", "isEnd", "(I)Z"⟩
abbrev m_Mod_isEnd : MethodName × ByteArray × Nat × Option FieldType := (y_Mod_isEnd, prog_13_method_23_code, 4, (some .boolean))
def y_Mod_stateOf : MethodName := ⟨"LockedHouseModel", "stateOf", "(II)I"⟩
abbrev m_Mod_stateOf : MethodName × ByteArray × Nat × Option FieldType := (y_Mod_stateOf, prog_13_method_21_code, 3, (some .int))
def y_Mod_hasNeeds : MethodName := ⟨"LockedHouseModel", "hasNeeds", "(II)Z"⟩
abbrev m_Mod_hasNeeds : MethodName × ByteArray × Nat × Option FieldType := (y_Mod_hasNeeds, prog_13_method_24_code, 5, (some .boolean))
def y_Mod_wasDone : MethodName := ⟨"LockedHouseModel", "wasDone", "(II)Z"⟩
abbrev m_Mod_wasDone : MethodName × ByteArray × Nat × Option FieldType := (y_Mod_wasDone, prog_13_method_22_code, 3, (some .boolean))
def y_Mod_allOnce : MethodName := ⟨"LockedHouseModel", "allOnce", "(I)Z"⟩
abbrev m_Mod_allOnce : MethodName × ByteArray × Nat × Option FieldType := (y_Mod_allOnce, prog_13_method_25_code, 4, (some .boolean))
def y_Mod_walks : MethodName := ⟨"LockedHouseModel", "walks", "()V"⟩
abbrev m_Mod_walks : MethodName × ByteArray × Nat × Option FieldType := (y_Mod_walks, prog_13_method_28_code, 5, (none : Option Jvm.ClassFile.FieldType))
def y_Mod_measures : MethodName := ⟨"LockedHouseModel", "measures", "()V"⟩
abbrev m_Mod_measures : MethodName × ByteArray × Nat × Option FieldType := (y_Mod_measures, prog_13_method_33_code, 5, (none : Option Jvm.ClassFile.FieldType))
def y_Mod_turnsRound : MethodName := ⟨"LockedHouseModel", "turnsRound", "()V"⟩
abbrev m_Mod_turnsRound : MethodName × ByteArray × Nat × Option FieldType := (y_Mod_turnsRound, prog_13_method_29_code, 4, (none : Option Jvm.ClassFile.FieldType))
def y_Mod_puts : MethodName := ⟨"LockedHouseModel", "puts", "(II)V"⟩
abbrev m_Mod_puts : MethodName × ByteArray × Nat × Option FieldType := (y_Mod_puts, prog_13_method_30_code, 3, (none : Option Jvm.ClassFile.FieldType))
def y_Mod_takes : MethodName := ⟨"LockedHouseModel", "takes", "()I"⟩
abbrev m_Mod_takes : MethodName × ByteArray × Nat × Option FieldType := (y_Mod_takes, prog_13_method_32_code, 6, (some .int))
def y_Mod_rises : MethodName := ⟨"LockedHouseModel", "rises", "(I)V"⟩
abbrev m_Mod_rises : MethodName × ByteArray × Nat × Option FieldType := (y_Mod_rises, prog_13_method_31_code, 3, (none : Option Jvm.ClassFile.FieldType))
def y_Mod_comes : MethodName := ⟨"LockedHouseModel", "comes", "(I)I"⟩
abbrev m_Mod_comes : MethodName × ByteArray × Nat × Option FieldType := (y_Mod_comes, prog_13_method_40_code, 2, (some .int))
def y_Mod_isCode : MethodName := ⟨"LockedHouseModel", "isCode", "(I)Z"⟩
abbrev m_Mod_isCode : MethodName × ByteArray × Nat × Option FieldType := (y_Mod_isCode, prog_13_method_35_code, 2, (some .boolean))
def y_Mod_part : MethodName := ⟨"LockedHouseModel", "part", "(III)I"⟩
abbrev m_Mod_part : MethodName × ByteArray × Nat × Option FieldType := (y_Mod_part, prog_13_method_41_code, 4, (some .int))
def y_Mod_open : MethodName := ⟨"LockedHouseModel", "open", "(I)I"⟩
abbrev m_Mod_open : MethodName × ByteArray × Nat × Option FieldType := (y_Mod_open, prog_13_method_42_code, 4, (some .int))
def y_Mod_behind : MethodName := ⟨"LockedHouseModel", "behind", "(II)I"⟩
abbrev m_Mod_behind : MethodName × ByteArray × Nat × Option FieldType := (y_Mod_behind, prog_13_method_43_code, 3, (some .int))
def y_Mod_least : MethodName := ⟨"LockedHouseModel", "least", "(I)I"⟩
abbrev m_Mod_least : MethodName × ByteArray × Nat × Option FieldType := (y_Mod_least, prog_13_method_44_code, 2, (some .int))
def y_Mod_isOpen : MethodName := ⟨"LockedHouseModel", "isOpen", "(I)Z"⟩
abbrev m_Mod_isOpen : MethodName × ByteArray × Nat × Option FieldType := (y_Mod_isOpen, prog_13_method_34_code, 2, (some .boolean))
def y_Mod_hint : MethodName := ⟨"LockedHouseModel", "hint", "(I)I"⟩
abbrev m_Mod_hint : MethodName × ByteArray × Nat × Option FieldType := (y_Mod_hint, prog_13_method_46_code, 2, (some .int))
def y_Mod_hinted : MethodName := ⟨"LockedHouseModel", "hinted", "(I)I"⟩
abbrev m_Mod_hinted : MethodName × ByteArray × Nat × Option FieldType := (y_Mod_hinted, prog_13_method_45_code, 4, (some .int))
def y_Mod_way : MethodName := ⟨"LockedHouseModel", "way", "(I)I"⟩
abbrev m_Mod_way : MethodName × ByteArray × Nat × Option FieldType := (y_Mod_way, prog_13_method_47_code, 4, (some .int))
def y_Mod_tells : MethodName := ⟨"LockedHouseModel", "tells", "(I)V"⟩
abbrev m_Mod_tells : MethodName × ByteArray × Nat × Option FieldType := (y_Mod_tells, prog_13_method_36_code, 2, (none : Option Jvm.ClassFile.FieldType))
def y_Mod_longest : MethodName := ⟨"LockedHouseModel", "longest", "()I"⟩
abbrev m_Mod_longest : MethodName × ByteArray × Nat × Option FieldType := (y_Mod_longest, prog_13_method_48_code, 8, (some .int))
def y_Mod_lost : MethodName := ⟨"LockedHouseModel", "lost", "()I"⟩
abbrev m_Mod_lost : MethodName × ByteArray × Nat × Option FieldType := (y_Mod_lost, prog_13_method_49_code, 3, (some .int))
def y_Mod_trap : MethodName := ⟨"LockedHouseModel", "trap", "()I"⟩
abbrev m_Mod_trap : MethodName × ByteArray × Nat × Option FieldType := (y_Mod_trap, prog_13_method_50_code, 4, (some .int))
def y_Mod_must : MethodName := ⟨"LockedHouseModel", "must", "(IIII)I"⟩
abbrev m_Mod_must : MethodName × ByteArray × Nat × Option FieldType := (y_Mod_must, prog_13_method_51_code, 10, (some .int))
def y_Mod_idle : MethodName := ⟨"LockedHouseModel", "idle", "()I"⟩
abbrev m_Mod_idle : MethodName × ByteArray × Nat × Option FieldType := (y_Mod_idle, prog_13_method_52_code, 4, (some .int))
def y_Mod_reading : MethodName := ⟨"LockedHouseModel", "reading", "(II)Z"⟩
abbrev m_Mod_reading : MethodName × ByteArray × Nat × Option FieldType := (y_Mod_reading, prog_13_method_53_code, 3, (some .boolean))
def y_Mod_liars : MethodName := ⟨"LockedHouseModel", "liars", "()I"⟩
abbrev m_Mod_liars : MethodName × ByteArray × Nat × Option FieldType := (y_Mod_liars, prog_13_method_56_code, 4, (some .int))
def y_Mod_lying : MethodName := ⟨"LockedHouseModel", "lying", "(III)I"⟩
abbrev m_Mod_lying : MethodName × ByteArray × Nat × Option FieldType := (y_Mod_lying, prog_13_method_55_code, 6, (some .int))
def y_Mod_asTold : MethodName := ⟨"LockedHouseModel", "asTold", "(I)I"⟩
abbrev m_Mod_asTold : MethodName × ByteArray × Nat × Option FieldType := (y_Mod_asTold, prog_13_method_54_code, 6, (some .int))
def y_Mod_back : MethodName := ⟨"LockedHouseModel", "back", "(I)I"⟩
abbrev m_Mod_back : MethodName × ByteArray × Nat × Option FieldType := (y_Mod_back, prog_13_method_58_code, 5, (some .int))
def y_Mod_isPutBack : MethodName := ⟨"LockedHouseModel", "isPutBack", "(III)Z"⟩
abbrev m_Mod_isPutBack : MethodName × ByteArray × Nat × Option FieldType := (y_Mod_isPutBack, prog_13_method_57_code, 5, (some .boolean))
def y_Mod_enter : MethodName := ⟨"LockedHouseModel", "enter", "(I)I"⟩
abbrev m_Mod_enter : MethodName × ByteArray × Nat × Option FieldType := (y_Mod_enter, prog_13_method_59_code, 3, (some .int))
def y_Mod_act : MethodName := ⟨"LockedHouseModel", "act", "(II)I"⟩
abbrev m_Mod_act : MethodName × ByteArray × Nat × Option FieldType := (y_Mod_act, prog_13_method_61_code, 5, (some .int))
def y_Mod_isGroup : MethodName := ⟨"LockedHouseModel", "isGroup", "(I)Z"⟩
abbrev m_Mod_isGroup : MethodName × ByteArray × Nat × Option FieldType := (y_Mod_isGroup, prog_13_method_60_code, 2, (some .boolean))
def y_Mod_group : MethodName := ⟨"LockedHouseModel", "group", "(II)I"⟩
abbrev m_Mod_group : MethodName × ByteArray × Nat × Option FieldType := (y_Mod_group, prog_13_method_62_code, 3, (some .int))
def y_Mod_leave : MethodName := ⟨"LockedHouseModel", "leave", "(I)I"⟩
abbrev m_Mod_leave : MethodName × ByteArray × Nat × Option FieldType := (y_Mod_leave, prog_13_method_63_code, 2, (some .int))
def y_Mod_alarm : MethodName := ⟨"LockedHouseModel", "alarm", "()I"⟩
abbrev m_Mod_alarm : MethodName × ByteArray × Nat × Option FieldType := (y_Mod_alarm, prog_13_method_64_code, 4, (some .int))
def y_Mod_log : MethodName := ⟨"LockedHouseModel", "log", "(II)I"⟩
abbrev m_Mod_log : MethodName × ByteArray × Nat × Option FieldType := (y_Mod_log, prog_13_method_65_code, 5, (some .int))
def y_Law_law : MethodName := ⟨"LockedHouseLaw", "law", "([I)Z"⟩
abbrev m_Law_law : MethodName × ByteArray × Nat × Option FieldType := (y_Law_law, code, 7, (some .boolean))
abbrev cls : List vw_C := [(R_Diary, F_Diary, 6), (R_Group, F_Group, 6), (R_Heap, F_Heap, 4), (R_House, F_House, 6), (R_Line, F_Line, 3), (R_Pairs, F_Pairs, 3), (R_Prop, F_Prop, 8), (R_Row, F_Row, 2), (R_Step, F_Step, 7), (R_Walk, F_Walk, 12), (R_LH, F_LH, 6), (R_Mod, F_Mod, 54), (R_AL, F_AL, 3)]
def cty : Nat → Nat → FieldType := fun ci => match ci with
  | 0 => t_Diary
  | 1 => t_Group
  | 2 => t_Heap
  | 3 => t_House
  | 4 => t_Line
  | 5 => t_Pairs
  | 6 => t_Prop
  | 7 => t_Row
  | 8 => t_Step
  | 9 => t_Walk
  | 10 => t_LH
  | 11 => t_Mod
  | _ => t_AL
end
section
/-! LIGHT: one judgement over an abstract heap, proved once over the kit's rows -/
abbrev aC : Type := (Nat × vp_A) ⊕ (Nat × List Value)
abbrev aH : Type := Nat × (Nat → Option aC)
abbrev aG : Type := (Nat × Nat × Nat × Nat) × va_G × (Nat → ClassId)
abbrev MI : Type := MethodName × ByteArray × Nat × Option FieldType
abbrev cI (n : Nat) (f : Nat → Int32) : aC := .inl (0, n, .inl f)
abbrev cZ (n : Nat) (f : Nat → Int32) : aC := .inl (1, n, .inl f)
abbrev cB (n : Nat) (f : Nat → Int32) : aC := .inl (2, n, .inl f)
abbrev cL (n : Nat) (f : Nat → Int64) : aC := .inl (3, n, .inr (.inl f))
abbrev cO (n : Nat) (f : Nat → Option Nat) : aC := .inl (4, n, .inr (.inr (.inr (.inr f))))
abbrev ob (ci : Nat) (fs : List Value) : aC := .inr (ci, fs)
def gB (G : aG) : Nat := G.1.1
def gE (G : aG) : Nat := G.1.2.1
def gS (G : aG) : Nat := G.1.2.2.1
def gM (G : aG) : Nat := G.1.2.2.2
def gD (G : aG) : va_G := G.2.1
def gC (G : aG) : Nat → ClassId := G.2.2
def gA (G : aG) : Nat → Prop := fun q => gB G ≤ q
def ta (G : aG) : Nat → Nat
  | 0 => gE G
  | 1 => gS G
  | 2 => gM G
  | 3 => 0
  | a + 4 => gB G + a
def tv (G : aG) : Value → Value
  | .ref a => .ref (ta G a)
  | v => v
def tl (G : aG) (q : Nat × Value) : Nat × Value := (q.1, tv G q.2)
def tp (G : aG) (x : vp_A) : vp_A := match x.2 with
  | .inr (.inr (.inr (.inr f))) => (x.1, .inr (.inr (.inr (.inr (fun j => (f j).map (ta G))))))
  | _ => x
def tc (G : aG) (c : aC) : va_E := match c with
  | .inl x => .inl (gC G x.1, tp G x.2)
  | .inr o => .inr (o.1, o.2.map (tv G))
def gT (G : aG) : List (ClassId × FieldType) := [(gC G 0, .int), (gC G 1, .boolean), (gC G 2, .byte), (gC G 3, .long), (gC G 4, .object "java/lang/Object")]
def Rel (G : aG) (w : aH) (H : Heap) : Prop := H.size + 4 = gB G + w.1 ∧ 4 ≤ w.1 ∧ ∀ (a : Nat) (c : aC), w.2 a = some c → 4 ≤ a ∧ a < w.1 ∧ va_at (gD G) cls (ta G a, tc G c) H
def hset (h : Nat → Option aC) (a : Nat) (c : aC) : Nat → Option aC := fun j => if j = a then some c else h j
def gw : List Cond := lw_tbl.filter goodWord
def nws : List Cond := [.methodLinkNest "LockedHouse" 9 ⟨"LockedHouse$House", "<init>", "()V"⟩ "LockedHouse", .methodLinkNest "LockedHouse" 18 ⟨"LockedHouse$Row", "<init>", "()V"⟩ "LockedHouse", .methodLinkNest "LockedHouse" 25 ⟨"LockedHouse$Diary", "<init>", "()V"⟩ "LockedHouse", .methodLinkNest "LockedHouse" 39 ⟨"LockedHouse$Group", "<init>", "()V"⟩ "LockedHouse", .fieldLinkNest "LockedHouse" 295 "LockedHouse$Row" "numbers" "[I" "LockedHouse", .fieldLinkNest "LockedHouse" 155 "LockedHouse$Row" "size" "I" "LockedHouse", .fieldLinkNest "LockedHouse" 156 "LockedHouse$Diary" "made" "I" "LockedHouse", .castable "LockedHouse$Prop" "java/lang/Object", .castable "LockedHouse$Step" "java/lang/Object", .castable "LockedHouse$Group" "java/lang/Object"]
theorem nws_moved {s U : State} (hW : s.WarmedH U.vm) (h : ∀ w ∈ nws, va_Nw w s) : ∀ w ∈ nws, va_Nw w U := by
  simp only [nws, List.forall_mem_cons] at h ⊢
  obtain ⟨h0, h1, h2, h3, h4, h5, h6, h7, h8, h9, -⟩ := h
  exact ⟨va_Nw.warmM hW h0, va_Nw.warmM hW h1, va_Nw.warmM hW h2, va_Nw.warmM hW h3, va_Nw.warmF hW h4, va_Nw.warmF hW h5, va_Nw.warmF hW h6, va_Nw.warmC hW h7, va_Nw.warmC hW h8, va_Nw.warmC hW h9, fun _ h => absurd h List.not_mem_nil⟩
theorem nws_tab : ∀ w ∈ nws, w.onTables = true := by decide +kernel
theorem nws_same {u U : State} (hv : u.vm = U.vm) (h : ∀ w ∈ nws, va_Nw w u) : ∀ w ∈ nws, va_Nw w U := fun w hw => va_Nw.same (nws_tab w hw) hv (h w hw)
def K0 (G : aG) (U : State) : Prop := va_K (gD G) cls (gT G) U ∧ (∀ w ∈ nws, va_Nw w U) ∧ va_Z "java/util/ArrayList" "DEFAULTCAPACITY_EMPTY_ELEMENTDATA" "[Ljava/lang/Object;" (.ref (gE G)) (gA G) U U.heap ∧ va_T (.object "java/lang/Object") (gE G) 0 (fun _ => .null) (gA G) U U.heap ∧ va_Mi "[Ljava/lang/Object;" (gM G) U ∧ va_AO "java/lang/Object" U ∧ va_Dc U ∧ gB G ≤ U.heap.size
theorem K0.at {G : aG} {s U : State} (hv : s.vm.Alike U.vm) (hn : (∀ w ∈ nws, va_Nw w s) → ∀ w ∈ nws, va_Nw w U) (hz : s.heap.size ≤ U.heap.size) (hq : ∀ q : Nat, q < s.heap.size → ¬ gA G q → U.heap[q]? = s.heap[q]?) (h : K0 G s) : K0 G U := by
  obtain ⟨h1, h2, h3, h4, h5, h6, h7, h8⟩ := h
  exact ⟨h1.moved hv, hn h2, (h3.moved hv).kept hq, (h4.moved hv).kept hq, h5.moved hv, h6.moved hv, h7.moved hv, Nat.le_trans h8 hz⟩
theorem K0.same {G : aG} {u U : State} (hv : u.vm = U.vm) (hh : u.heap = U.heap) (h : K0 G u) : K0 G U :=
  K0.at (by rw [hv]; exact Vm.Alike.refl _) (nws_same hv) (by rw [hh]; exact Nat.le_refl _) (fun q _ _ => by rw [hh]) h
theorem K0.moved {G : aG} {s U : State} {H : Heap} {locs : List Loc} (hW : s.WarmedH U.vm) (hS : va_S (gA G) s.heap H locs) (hU : U.heap = H) (h : K0 G s) : K0 G U :=
  K0.at hW.alike (nws_moved hW) (by rw [hU]; exact hS.1) (fun q h1 h2 => by rw [hU]; exact hS.2.1 q h1 h2) h
theorem gw_good {w : Cond} (h : w ∈ gw) : goodWord w = true := (List.mem_filter.mp h).2
theorem gw_t {w : Cond} (i : Nat) (h : tables_1[i]? = some w) (g : goodWord w = true) : w ∈ gw := List.mem_filter.mpr ⟨List.mem_append_right _ (List.mem_of_getElem? h), g⟩
theorem gw_s {w : Cond} (i : Nat) (h : (k2_sels lw_privs)[i]? = some w) (g : goodWord w = true) : w ∈ gw := List.mem_filter.mpr ⟨List.mem_append_left _ (List.mem_of_getElem? h), g⟩
theorem gw_in {c : Cond} (h : c ∈ gw) : GoodIn gw (c :: gw) := fun w hw => by
  rcases List.mem_cons.mp hw with e | h1
  · subst e; exact ⟨h, good_of_word (gw_good h)⟩
  · exact ⟨h1, good_of_word (gw_good h1)⟩
/-- ta is one to one on the cells -/
theorem ta_ge {G : aG} {a : Nat} (h : 4 ≤ a) : ta G a + 4 = gB G + a := by
  obtain ⟨b, rfl⟩ : ∃ b, a = b + 4 := ⟨a - 4, by omega⟩
  show gB G + b + 4 = gB G + (b + 4)
  omega
theorem ta_inj {G : aG} {a b : Nat} (ha : 4 ≤ a) (hb : 4 ≤ b) (h : ta G a = ta G b) : a = b := by
  have := ta_ge (G := G) ha
  have := ta_ge (G := G) hb
  omega
theorem ta_A {G : aG} {a : Nat} (h : 4 ≤ a) : gA G (ta G a) := by
  have := ta_ge (G := G) h
  show gB G ≤ ta G a
  omega
theorem tv_cat (G : aG) (v : Value) : (tv G v).category = v.category := by cases v <;> rfl
theorem Rel.at {G : aG} {w : aH} {H : Heap} (h : Rel G w H) {a : Nat} {c : aC} (hc : w.2 a = some c) : va_P (gD G) cls [(ta G a, tc G c)] H := by
  intro k q hk
  match k, hk with
  | 0, hk => cases hk; exact (h.2.2 a c hc).2.2
  | k + 1, hk => simp at hk
theorem Rel.ge {G : aG} {w : aH} {H : Heap} (h : Rel G w H) {a : Nat} {c : aC} (hc : w.2 a = some c) : 4 ≤ a := (h.2.2 a c hc).1
theorem Rel.set {G : aG} {n : Nat} {f : Nat → Option aC} {H H1 : Heap} (h : Rel G (n, f) H) {a : Nat} {c0 c : aC} (hc : f a = some c0) (hz : H1.size = H.size) (oq : ∀ q, q ≠ ta G a → H1[q]? = H[q]?) (he : va_at (gD G) cls (ta G a, tc G c) H1) : Rel G (n, hset f a c) H1 := by
  obtain ⟨h1, h2, h3⟩ := h
  refine ⟨by rw [hz]; exact h1, h2, fun j x hj => ?_⟩
  have ha := h3 a c0 hc
  by_cases e : j = a
  · subst e
    have e2 : some c = some x := by simpa [hset] using hj
    cases e2
    exact ⟨ha.1, ha.2.1, he⟩
  · have e2 : f j = some x := by simpa [hset, e] using hj
    have hb := h3 j x e2
    exact ⟨hb.1, hb.2.1, hb.2.2.kept (oq _ (fun z => e (ta_inj hb.1 ha.1 z)))⟩
theorem Rel.new {G : aG} {n : Nat} {f : Nat → Option aC} {H H1 : Heap} (h : Rel G (n, f) H) {c : aC} (hz : H1.size = H.size + 1) (oq : ∀ q, q < H.size → H1[q]? = H[q]?) (he : va_at (gD G) cls (H.size, tc G c) H1) : Rel G (n + 1, hset f n c) H1 := by
  obtain ⟨h1, h2, h3⟩ := h
  have e0 : ta G n = H.size := by have := ta_ge (G := G) (a := n) h2; dsimp only at h1 h2; omega
  refine ⟨by dsimp only at h1 ⊢; omega, by dsimp only at h2 ⊢; omega, fun j x hj => ?_⟩
  by_cases e : j = n
  · subst e
    have e2 : some c = some x := by simpa [hset] using hj
    cases e2
    exact ⟨h2, Nat.lt_succ_self _, by rw [e0]; exact he⟩
  · have e2 : f j = some x := by simpa [hset, e] using hj
    have hb := h3 j x e2
    exact ⟨hb.1, Nat.lt_succ_of_lt hb.2.1, hb.2.2.kept (oq _ hb.2.2.lt)⟩
theorem Rel.nx {G : aG} {n : Nat} {f : Nat → Option aC} {H : Heap} (h : Rel G (n, f) H) : ta G n = H.size := by
  have := ta_ge (G := G) h.2.1
  have := h.1
  dsimp only at *
  omega
def AX (G : aG) (M : MI) (d mc ms : Nat) (p : Program) (R : Room) (s : State) (m : MethodId) (args : Array Value) (meth : Method) (c : Code) (H : Heap) (locs : List Loc) : Prop :=
  p.tables.exec = Jvm.exec ∧ c.code = M.2.1 ∧ c.maxLocals = M.2.2.1 ∧ s.vm.findClass M.1.cls = some m.cls ∧ (∀ w ∈ gw, w.before args s = true) ∧ meth.sig.returnType = M.2.2.2 ∧ meth.locks = false ∧ meth.name = M.1.name ∧ K0 G s ∧ va_S (gA G) s.heap H locs ∧ d ≤ R.frames ∧ 60 * d ≤ R.locals ∧ mc ≤ R.cells ∧ ms ≤ R.slots
abbrev FT : Type := List Frame → Array Value → State → State → Prop
def AW (G : aG) (M : MI) (d mc ms : Nat) (F : FT) (pc : Nat) (lv : List (Nat × Value)) (st : List Value) (w : aH) (k n : Nat) : Prop :=
  ∀ (p : Program) (l : Launch) (e : Env) (R : Room) (s : State) (m : MethodId) (args : Array Value) (below : List Frame) (meth : Method) (c : Code) (H : Heap) (locs : List Loc) (ls : Array Slot), AX G M d mc ms p R s m args meth c H locs → Rel G w H → lv_has ls M.2.2.1 (lv.map (tl G)) → W p l e R s m args below meth c H locs k n (F below args s) (F0 m pc ls (st.map (tv G)))
def AQ (G : aG) (Q : Option Value → aH → Prop) : Array Value → State → Outcome → State → Prop := fun _ st oc t => (∃ (r : Option Value) (w : aH), oc = .returned (r.map (tv G)) ∧ Q r w ∧ Rel G w t.heap) ∧ K0 G t ∧ va_F (gA G) st t
def FQ (G : aG) (mc ms : Nat) (Q : Option Value → aH → Prop) : FT := fun below args s => MQ below (AQ G Q) args s mc ms (gA G)
def APc (G : aG) (av : List Value) (w : aH) : Array Value → State → Prop := va_Pc (av.map (tv G)) (fun U => Rel G w U.heap ∧ K0 G U)
def AMet (G : aG) (M : MI) (d mc ms : Nat) (av : List Value) (w : aH) (Q : Option Value → aH → Prop) : Prop :=
  ∀ (l : Launch) (rm : Room), d ≤ rm.frames → 60 * d ≤ rm.locals → rm.cells = mc → rm.slots = ms → Met l M.1 (.code M.1 M.2.1 M.2.2.1 M.2.2.2 :: gw) rm (APc G av w) (AQ G Q) mc ms (gA G)
theorem APc.blind (G : aG) (av : List Value) (w : aH) : FrameBlind (APc G av w) := fun a U g mk h => ⟨h.1, h.2.1, K0.same (u := U) rfl rfl h.2.2⟩
theorem lvt_args (G : aG) : ∀ (i : Nat) (av : List Value), lv_args i (av.map (tv G)) = (lv_args i av).map (tl G)
  | _, [] => rfl
  | i, v :: vs => by
    simp only [List.map_cons, lv_args, tv_cat, lvt_args G _ vs]
    rfl
theorem lgt_len (G : aG) (av : List Value) : (lg_sl (av.map (tv G))).length = (lg_sl av).length := by
  induction av with
  | nil => rfl
  | cons v t ih =>
    simp only [lg_sl, List.map_cons, List.flatMap_cons, List.length_append] at ih ⊢
    rw [ih, tv_cat]
    split <;> rfl
theorem amet_of {G : aG} {M : MI} {d mc ms : Nat} {av : List Value} {w : aH} {Q : Option Value → aH → Prop} (hy : plainFor M.1 = true) (hlen : (lg_sl av).length ≤ M.2.2.1) (h : AW G M d mc ms (FQ G mc ms Q) 0 (lv_args 0 av) [] w 0 0) : AMet G M d mc ms av w Q := by
  intro l rm h1 h2 h3 h4
  refine va_MetF (cc := M.2.1) (maxL := M.2.2.1) (ret := M.2.2.2) hy rfl ?_
  intro p e s m args below meth c s₁ B hml hv
  obtain ⟨rfl, hR, hK⟩ := hv
  have hts := atoms_spec (ws := Cond.code M.1 M.2.1 M.2.2.1 M.2.2.2 :: gw) B.pre
  have hl := lv_entry (av.map (tv G)) (n := M.2.2.1) (by rw [lgt_len]; exact hlen)
  rw [lg_entry_eq]
  rw [lvt_args] at hl
  exact h p l e rm s m _ below meth c s.heap [] _ ⟨B.exec, B.bytes, hml, findClass_of_methodNamed B.named, fun w hw => hts w (List.mem_cons_of_mem _ hw), B.returns, B.notSynchronized, (name_of_methodNamed B.named B.method).1, hK, va_S.rf, h1, h2, Nat.le_of_eq h3.symm, Nat.le_of_eq h4.symm⟩ hR hl
/-- decode, with the next place -/
def DN (cc : ByteArray) (pc : Nat) (i : Instr) (len pc2 : Nat) : Prop := decode cc pc = .ok (i, len) ∧ pc + len = pc2
end
section
section RUL
variable {G : aG} {M : MI} {d mc ms : Nat} {F : FT} {pc pc2 : Nat} {lv lv2 : List (Nat × Value)} {st : List Value} {w : aH} {k n : Nat}
def lget : List (Nat × Value) → Nat → Option Value
  | [], _ => none
  | q :: t, i => bif q.1.beq i then some q.2 else lget t i
def lkeep (i : Nat) (q : Nat × Value) : Bool := !(q.1 == i) && !(q.1 + 1 == i && q.2.category == 2)
def lset : List (Nat × Value) → Nat → Value → List (Nat × Value)
  | [], i, v => [(i, v)]
  | q :: t, i, v => bif i.ble q.1 then (i, v) :: (q :: t).filter (lkeep i) else bif lkeep i q then q :: lset t i v else lset t i v
theorem lget_mem : ∀ {lv : List (Nat × Value)} {i : Nat} {v : Value}, lget lv i = some v → (i, v) ∈ lv
  | [], _, _, h => by cases h
  | q :: t, i, v, h => by
    unfold lget at h
    cases hb : q.1.beq i with
    | true =>
      rw [hb] at h
      have e := Nat.eq_of_beq_eq_true hb
      have e2 : q.2 = v := Option.some.inj h
      subst e; subst e2
      exact List.mem_cons_self
    | false =>
      rw [hb] at h
      exact List.mem_cons_of_mem _ (lget_mem h)
theorem lget_at {ls : Array Slot} {nL i : Nat} {v : Value} (hl : lv_has ls nL (lv.map (tl G))) (h : lget lv i = some v) : ls[i]? = some (.val (tv G v)) := hl.2.2 (i, tv G v) (List.mem_map.mpr ⟨(i, v), lget_mem h, rfl⟩)
theorem lset_mem : ∀ {lv : List (Nat × Value)} {i : Nat} {v : Value} {q : Nat × Value}, q ∈ lset lv i v → q = (i, v) ∨ (q ∈ lv ∧ lkeep i q = true)
  | [], i, v, q, h => Or.inl (List.mem_singleton.mp h)
  | p :: t, i, v, q, h => by
    unfold lset at h
    cases hb : i.ble p.1 with
    | true =>
      rw [hb] at h
      rcases List.mem_cons.mp h with h | h
      · exact Or.inl h
      · exact Or.inr ⟨(List.mem_filter.mp h).1, (List.mem_filter.mp h).2⟩
    | false =>
      rw [hb] at h
      cases hk : lkeep i p with
      | true =>
        rw [hk] at h
        rcases List.mem_cons.mp h with h | h
        · subst h; exact Or.inr ⟨List.mem_cons_self, hk⟩
        · rcases lset_mem h with h | h
          · exact Or.inl h
          · exact Or.inr ⟨List.mem_cons_of_mem _ h.1, h.2⟩
      | false =>
        rw [hk] at h
        rcases lset_mem h with h | h
        · exact Or.inl h
        · exact Or.inr ⟨List.mem_cons_of_mem _ h.1, h.2⟩
theorem lset_has {ls : Array Slot} {nL i : Nat} {v : Value} (h : lv_has ls nL ((i, tv G v) :: (lv.map (tl G)).filter (fun q => !(q.1 == i) && !(q.1 + 1 == i && q.2.category == 2)))) : lv_has ls nL ((lset lv i v).map (tl G)) := by
  refine ⟨h.1, h.2.1, fun q hq => h.2.2 q ?_⟩
  obtain ⟨r, hr, rfl⟩ := List.mem_map.mp hq
  rcases lset_mem hr with rfl | ⟨h1, h2⟩
  · exact List.mem_cons_self
  · refine List.mem_cons_of_mem _ (List.mem_filter.mpr ⟨List.mem_map.mpr ⟨r, h1, rfl⟩, ?_⟩)
    show (!(r.1 == i) && !(r.1 + 1 == i && (tv G r.2).category == 2)) = true
    rw [tv_cat]; exact h2
/-- fewer locals -/
theorem aw_drop (ks : List Nat) (h : lv_pick lv ks = lv2) (kk : AW G M d mc ms F pc lv2 st w k n) : AW G M d mc ms F pc lv st w k n := by
  intro p l e R s m args below meth c H locs ls X hR hl
  refine kk p l e R s m args below meth c H locs ls X hR ⟨hl.1, hl.2.1, fun q hq => hl.2.2 q ?_⟩
  obtain ⟨r, hr, rfl⟩ := List.mem_map.mp hq
  subst h
  obtain ⟨i, -, hi⟩ := List.mem_filterMap.mp hr
  exact List.mem_map.mpr ⟨r, List.mem_of_getElem? hi, rfl⟩
theorem aw_widen {k2 n2 : Nat} (h1 : k ≤ k2) (h2 : n ≤ n2) (kk : AW G M d mc ms F pc lv st w k2 n2) : AW G M d mc ms F pc lv st w k n := fun p l e R s m args below meth c H locs ls X hR hl => W.widen h1 h2 (kk p l e R s m args below meth c H locs ls X hR hl)
theorem aw_iconst {z : Int} {v : Int32} (hd : DN M.2.1 pc (.iconst z) 1 pc2) (hv : Int32.ofInt z = v) (kk : AW G M d mc ms F pc2 lv (.int v :: st) w k n) : AW G M d mc ms F pc lv (st) w k n := by
  obtain ⟨hd, rfl⟩ := hd
  exact fun p l e R s m args below meth c H locs ls X hR hl => lv_iconst X.1 X.2.1  hd hv (kk p l e R s m args below meth c H locs ls X hR hl)
theorem aw_bipush {z : Int} {v : Int32} (hd : DN M.2.1 pc (.bipush z) 2 pc2) (hv : (Int8.ofInt z).toInt32 = v) (kk : AW G M d mc ms F pc2 lv (.int v :: st) w k n) : AW G M d mc ms F pc lv (st) w k n := by
  obtain ⟨hd, rfl⟩ := hd
  exact fun p l e R s m args below meth c H locs ls X hR hl => lv_bipush X.1 X.2.1  hd hv (kk p l e R s m args below meth c H locs ls X hR hl)
theorem aw_sipush {z : Int} {v : Int32} (hd : DN M.2.1 pc (.sipush z) 3 pc2) (hv : (Int16.ofInt z).toInt32 = v) (kk : AW G M d mc ms F pc2 lv (.int v :: st) w k n) : AW G M d mc ms F pc lv (st) w k n := by
  obtain ⟨hd, rfl⟩ := hd
  exact fun p l e R s m args below meth c H locs ls X hR hl => lv_sipush X.1 X.2.1  hd hv (kk p l e R s m args below meth c H locs ls X hR hl)
theorem aw_iadd {x y : Int32} (hd : DN M.2.1 pc (.iadd) 1 pc2) (kk : AW G M d mc ms F pc2 lv (.int (x + y) :: st) w k n) : AW G M d mc ms F pc lv (.int y :: .int x :: st) w k n := by
  obtain ⟨hd, rfl⟩ := hd
  exact fun p l e R s m args below meth c H locs ls X hR hl => lv_iadd X.1 X.2.1  hd  (kk p l e R s m args below meth c H locs ls X hR hl)
theorem aw_isub {x y : Int32} (hd : DN M.2.1 pc (.isub) 1 pc2) (kk : AW G M d mc ms F pc2 lv (.int (x - y) :: st) w k n) : AW G M d mc ms F pc lv (.int y :: .int x :: st) w k n := by
  obtain ⟨hd, rfl⟩ := hd
  exact fun p l e R s m args below meth c H locs ls X hR hl => lv_isub X.1 X.2.1  hd  (kk p l e R s m args below meth c H locs ls X hR hl)
theorem aw_imul {x y : Int32} (hd : DN M.2.1 pc (.imul) 1 pc2) (kk : AW G M d mc ms F pc2 lv (.int (x * y) :: st) w k n) : AW G M d mc ms F pc lv (.int y :: .int x :: st) w k n := by
  obtain ⟨hd, rfl⟩ := hd
  exact fun p l e R s m args below meth c H locs ls X hR hl => lv_imul X.1 X.2.1  hd  (kk p l e R s m args below meth c H locs ls X hR hl)
theorem aw_iand {x y : Int32} (hd : DN M.2.1 pc (.iand) 1 pc2) (kk : AW G M d mc ms F pc2 lv (.int (x &&& y) :: st) w k n) : AW G M d mc ms F pc lv (.int y :: .int x :: st) w k n := by
  obtain ⟨hd, rfl⟩ := hd
  exact fun p l e R s m args below meth c H locs ls X hR hl => lv_iand X.1 X.2.1  hd  (kk p l e R s m args below meth c H locs ls X hR hl)
theorem aw_ior {x y : Int32} (hd : DN M.2.1 pc (.ior) 1 pc2) (kk : AW G M d mc ms F pc2 lv (.int (x ||| y) :: st) w k n) : AW G M d mc ms F pc lv (.int y :: .int x :: st) w k n := by
  obtain ⟨hd, rfl⟩ := hd
  exact fun p l e R s m args below meth c H locs ls X hR hl => lv_ior X.1 X.2.1  hd  (kk p l e R s m args below meth c H locs ls X hR hl)
theorem aw_ixor {x y : Int32} (hd : DN M.2.1 pc (.ixor) 1 pc2) (kk : AW G M d mc ms F pc2 lv (.int (x ^^^ y) :: st) w k n) : AW G M d mc ms F pc lv (.int y :: .int x :: st) w k n := by
  obtain ⟨hd, rfl⟩ := hd
  exact fun p l e R s m args below meth c H locs ls X hR hl => lv_ixor X.1 X.2.1  hd  (kk p l e R s m args below meth c H locs ls X hR hl)
theorem aw_ishl {x y : Int32} (hd : DN M.2.1 pc (.ishl) 1 pc2) (kk : AW G M d mc ms F pc2 lv (.int (x <<< (y &&& 31)) :: st) w k n) : AW G M d mc ms F pc lv (.int y :: .int x :: st) w k n := by
  obtain ⟨hd, rfl⟩ := hd
  exact fun p l e R s m args below meth c H locs ls X hR hl => lv_ishl X.1 X.2.1  hd  (kk p l e R s m args below meth c H locs ls X hR hl)
theorem aw_ishr {x y : Int32} (hd : DN M.2.1 pc (.ishr) 1 pc2) (kk : AW G M d mc ms F pc2 lv (.int (x >>> (y &&& 31)) :: st) w k n) : AW G M d mc ms F pc lv (.int y :: .int x :: st) w k n := by
  obtain ⟨hd, rfl⟩ := hd
  exact fun p l e R s m args below meth c H locs ls X hR hl => lv_ishr X.1 X.2.1  hd  (kk p l e R s m args below meth c H locs ls X hR hl)
theorem aw_idiv {x y : Int32} (hd : DN M.2.1 pc (.idiv) 1 pc2) (hne : ¬ y = 0) (kk : AW G M d mc ms F pc2 lv (.int (x / y) :: st) w k n) : AW G M d mc ms F pc lv (.int y :: .int x :: st) w k n := by
  obtain ⟨hd, rfl⟩ := hd
  exact fun p l e R s m args below meth c H locs ls X hR hl => lv_idiv X.1 X.2.1  hd hne (kk p l e R s m args below meth c H locs ls X hR hl)
theorem aw_irem {x y : Int32} (hd : DN M.2.1 pc (.irem) 1 pc2) (hne : ¬ y = 0) (kk : AW G M d mc ms F pc2 lv (.int (x - x / y * y) :: st) w k n) : AW G M d mc ms F pc lv (.int y :: .int x :: st) w k n := by
  obtain ⟨hd, rfl⟩ := hd
  exact fun p l e R s m args below meth c H locs ls X hR hl => lv_irem X.1 X.2.1  hd hne (kk p l e R s m args below meth c H locs ls X hR hl)
theorem aw_ineg {x : Int32} (hd : DN M.2.1 pc (.ineg) 1 pc2) (kk : AW G M d mc ms F pc2 lv (.int (-x) :: st) w k n) : AW G M d mc ms F pc lv (.int x :: st) w k n := by
  obtain ⟨hd, rfl⟩ := hd
  exact fun p l e R s m args below meth c H locs ls X hR hl => lv_ineg X.1 X.2.1  hd  (kk p l e R s m args below meth c H locs ls X hR hl)
theorem aw_iushr {x y : Int32} (hd : DN M.2.1 pc (.iushr) 1 pc2) (kk : AW G M d mc ms F pc2 lv (.int (x.toUInt32 >>> (y.toUInt32 &&& Int32.toUInt32 31)).toInt32 :: st) w k n) : AW G M d mc ms F pc lv (.int y :: .int x :: st) w k n := by
  obtain ⟨hd, rfl⟩ := hd
  exact fun p l e R s m args below meth c H locs ls X hR hl => lv_iushr X.1 X.2.1  hd rfl (kk p l e R s m args below meth c H locs ls X hR hl)
theorem aw_i2l {x : Int32} (hd : DN M.2.1 pc (.i2l) 1 pc2) (kk : AW G M d mc ms F pc2 lv (.long x.toInt64 :: st) w k n) : AW G M d mc ms F pc lv (.int x :: st) w k n := by
  obtain ⟨hd, rfl⟩ := hd
  exact fun p l e R s m args below meth c H locs ls X hR hl => lv_i2l X.1 X.2.1  hd rfl (kk p l e R s m args below meth c H locs ls X hR hl)
theorem aw_i2b {x : Int32} (hd : DN M.2.1 pc (.i2b) 1 pc2) (kk : AW G M d mc ms F pc2 lv (.int x.toInt8.toInt32 :: st) w k n) : AW G M d mc ms F pc lv (.int x :: st) w k n := by
  obtain ⟨hd, rfl⟩ := hd
  exact fun p l e R s m args below meth c H locs ls X hR hl => lv_i2b X.1 X.2.1  hd rfl (kk p l e R s m args below meth c H locs ls X hR hl)
theorem aw_lcmp {x y : Int64} (hd : DN M.2.1 pc (.lcmp) 1 pc2) (kk : AW G M d mc ms F pc2 lv (.int (lg_cmp x y) :: st) w k n) : AW G M d mc ms F pc lv (.long y :: .long x :: st) w k n := by
  obtain ⟨hd, rfl⟩ := hd
  exact fun p l e R s m args below meth c H locs ls X hR hl => W.lcmp X.1 X.2.1  hd  (kk p l e R s m args below meth c H locs ls X hR hl)
theorem aw_null  (hd : DN M.2.1 pc (.aconst_null) 1 pc2) (kk : AW G M d mc ms F pc2 lv (.null :: st) w k n) : AW G M d mc ms F pc lv (st) w k n := by
  obtain ⟨hd, rfl⟩ := hd
  exact fun p l e R s m args below meth c H locs ls X hR hl => lv_null X.1 X.2.1  hd  (kk p l e R s m args below meth c H locs ls X hR hl)
theorem aw_dup {va : Value} (hd : DN M.2.1 pc (.dup) 1 pc2) (h1 : va.category = 1) (kk : AW G M d mc ms F pc2 lv (va :: va :: st) w k n) : AW G M d mc ms F pc lv (va :: st) w k n := by
  obtain ⟨hd, rfl⟩ := hd
  exact fun p l e R s m args below meth c H locs ls X hR hl => lv_dup X.1 X.2.1  hd (by rw [tv_cat]; exact h1) (kk p l e R s m args below meth c H locs ls X hR hl)
theorem aw_pop {va : Value} (hd : DN M.2.1 pc (.pop) 1 pc2) (h1 : va.category = 1) (kk : AW G M d mc ms F pc2 lv (st) w k n) : AW G M d mc ms F pc lv (va :: st) w k n := by
  obtain ⟨hd, rfl⟩ := hd
  exact fun p l e R s m args below meth c H locs ls X hR hl => lv_pop X.1 X.2.1  hd (by rw [tv_cat]; exact h1) (kk p l e R s m args below meth c H locs ls X hR hl)
theorem aw_dup_x1 {va vb : Value} (hd : DN M.2.1 pc (.dup_x1) 1 pc2) (h1 : va.category = 1) (h2 : vb.category = 1) (kk : AW G M d mc ms F pc2 lv (va :: vb :: va :: st) w k n) : AW G M d mc ms F pc lv (va :: vb :: st) w k n := by
  obtain ⟨hd, rfl⟩ := hd
  exact fun p l e R s m args below meth c H locs ls X hR hl => lv_dup_x1 X.1 X.2.1  hd (by rw [tv_cat]; exact h1) (by rw [tv_cat]; exact h2) (kk p l e R s m args below meth c H locs ls X hR hl)
theorem aw_dup2 {va vb : Value} (hd : DN M.2.1 pc (.dup2) 1 pc2) (h1 : va.category = 1) (h2 : vb.category = 1) (kk : AW G M d mc ms F pc2 lv (va :: vb :: va :: vb :: st) w k n) : AW G M d mc ms F pc lv (va :: vb :: st) w k n := by
  obtain ⟨hd, rfl⟩ := hd
  exact fun p l e R s m args below meth c H locs ls X hR hl => lv_dup2_11 X.1 X.2.1  hd (by rw [tv_cat]; exact h1) (by rw [tv_cat]; exact h2) (kk p l e R s m args below meth c H locs ls X hR hl)
theorem aw_iload_n {j : Fin 4} {i : Nat} {x : Int32} (hd : DN M.2.1 pc (.iload_n j) 1 pc2) (hi : (j : Nat) = i) (h : lget lv i = some (.int x)) (kk : AW G M d mc ms F pc2 lv (.int x :: st) w k n) : AW G M d mc ms F pc lv st w k n := by
  obtain ⟨hd, rfl⟩ := hd
  exact fun p l e R s m args below meth c H locs ls X hR hl => lv_iload_n X.1 X.2.1 hd hi (lget_at hl h) (kk p l e R s m args below meth c H locs ls X hR hl)
theorem aw_iload {i : Nat} {x : Int32} (hd : DN M.2.1 pc (.iload i) 2 pc2) (h : lget lv i = some (.int x)) (kk : AW G M d mc ms F pc2 lv (.int x :: st) w k n) : AW G M d mc ms F pc lv st w k n := by
  obtain ⟨hd, rfl⟩ := hd
  exact fun p l e R s m args below meth c H locs ls X hR hl => lv_iload X.1 X.2.1 hd (lget_at hl h) (kk p l e R s m args below meth c H locs ls X hR hl)
theorem aw_lload_n {j : Fin 4} {i : Nat} {x : Int64} (hd : DN M.2.1 pc (.lload_n j) 1 pc2) (hi : (j : Nat) = i) (h : lget lv i = some (.long x)) (kk : AW G M d mc ms F pc2 lv (.long x :: st) w k n) : AW G M d mc ms F pc lv st w k n := by
  obtain ⟨hd, rfl⟩ := hd
  exact fun p l e R s m args below meth c H locs ls X hR hl => lv_lload_n X.1 X.2.1 hd hi (lget_at hl h) (kk p l e R s m args below meth c H locs ls X hR hl)
theorem aw_lload {i : Nat} {x : Int64} (hd : DN M.2.1 pc (.lload i) 2 pc2) (h : lget lv i = some (.long x)) (kk : AW G M d mc ms F pc2 lv (.long x :: st) w k n) : AW G M d mc ms F pc lv st w k n := by
  obtain ⟨hd, rfl⟩ := hd
  exact fun p l e R s m args below meth c H locs ls X hR hl => lv_lload X.1 X.2.1 hd (lget_at hl h) (kk p l e R s m args below meth c H locs ls X hR hl)
theorem aw_aload_n {j : Fin 4} {i : Nat} {a : Nat} (hd : DN M.2.1 pc (.aload_n j) 1 pc2) (hi : (j : Nat) = i) (h : lget lv i = some (.ref a)) (kk : AW G M d mc ms F pc2 lv (.ref a :: st) w k n) : AW G M d mc ms F pc lv st w k n := by
  obtain ⟨hd, rfl⟩ := hd
  exact fun p l e R s m args below meth c H locs ls X hR hl => lv_aload_n X.1 X.2.1 hd hi (lget_at hl h) (kk p l e R s m args below meth c H locs ls X hR hl)
theorem aw_aload {i : Nat} {a : Nat} (hd : DN M.2.1 pc (.aload i) 2 pc2) (h : lget lv i = some (.ref a)) (kk : AW G M d mc ms F pc2 lv (.ref a :: st) w k n) : AW G M d mc ms F pc lv st w k n := by
  obtain ⟨hd, rfl⟩ := hd
  exact fun p l e R s m args below meth c H locs ls X hR hl => lv_aload X.1 X.2.1 hd (lget_at hl h) (kk p l e R s m args below meth c H locs ls X hR hl)
theorem aw_aload_nN {j : Fin 4} {i : Nat} (hd : DN M.2.1 pc (.aload_n j) 1 pc2) (hi : (j : Nat) = i) (h : lget lv i = some .null) (kk : AW G M d mc ms F pc2 lv (.null :: st) w k n) : AW G M d mc ms F pc lv st w k n := by
  obtain ⟨hd, rfl⟩ := hd
  exact fun p l e R s m args below meth c H locs ls X hR hl => lv_aload_nN X.1 X.2.1 hd hi (lget_at hl h) (kk p l e R s m args below meth c H locs ls X hR hl)
theorem aw_istore_n {j : Fin 4} {i : Nat} {x : Int32} (hd : DN M.2.1 pc (.istore_n j) 1 pc2) (hi : (j : Nat) = i) (hn : i < M.2.2.1) (h : lset lv i (.int x) = lv2) (kk : AW G M d mc ms F pc2 lv2 st w k n) : AW G M d mc ms F pc lv (.int x :: st) w k n := by
  obtain ⟨hd, rfl⟩ := hd
  subst h
  exact fun p l e R s m args below meth c H locs ls X hR hl => lv_istore_n X.1 X.2.1 hd hi hl hn rfl (fun ls hl => kk p l e R s m args below meth c H locs ls X hR (lset_has hl))
theorem aw_istore {i : Nat} {x : Int32} (hd : DN M.2.1 pc (.istore i) 2 pc2) (hn : i < M.2.2.1) (h : lset lv i (.int x) = lv2) (kk : AW G M d mc ms F pc2 lv2 st w k n) : AW G M d mc ms F pc lv (.int x :: st) w k n := by
  obtain ⟨hd, rfl⟩ := hd
  subst h
  exact fun p l e R s m args below meth c H locs ls X hR hl => lv_istore X.1 X.2.1 hd hl hn rfl (fun ls hl => kk p l e R s m args below meth c H locs ls X hR (lset_has hl))
theorem aw_astore_n {j : Fin 4} {i : Nat} {x : Nat} (hd : DN M.2.1 pc (.astore_n j) 1 pc2) (hi : (j : Nat) = i) (hn : i < M.2.2.1) (h : lset lv i (.ref x) = lv2) (kk : AW G M d mc ms F pc2 lv2 st w k n) : AW G M d mc ms F pc lv (.ref x :: st) w k n := by
  obtain ⟨hd, rfl⟩ := hd
  subst h
  exact fun p l e R s m args below meth c H locs ls X hR hl => lv_astore_n X.1 X.2.1 hd hi hl hn rfl (fun ls hl => kk p l e R s m args below meth c H locs ls X hR (lset_has hl))
theorem aw_astore {i : Nat} {x : Nat} (hd : DN M.2.1 pc (.astore i) 2 pc2) (hn : i < M.2.2.1) (h : lset lv i (.ref x) = lv2) (kk : AW G M d mc ms F pc2 lv2 st w k n) : AW G M d mc ms F pc lv (.ref x :: st) w k n := by
  obtain ⟨hd, rfl⟩ := hd
  subst h
  exact fun p l e R s m args below meth c H locs ls X hR hl => lv_astore X.1 X.2.1 hd hl hn rfl (fun ls hl => kk p l e R s m args below meth c H locs ls X hR (lset_has hl))
theorem aw_iinc {i : Nat} {z : Int} {x v : Int32} (hd : DN M.2.1 pc (.iinc i z) 3 pc2) (hn : i < M.2.2.1) (hg : lget lv i = some (.int x)) (hv : x + Int32.ofInt z = v) (h : lset lv i (.int v) = lv2) (kk : AW G M d mc ms F pc2 lv2 st w k n) : AW G M d mc ms F pc lv st w k n := by
  obtain ⟨hd, rfl⟩ := hd
  subst h
  intro p l e R s m args below meth c H locs ls X hR hl
  obtain ⟨j, hj⟩ := List.getElem?_of_mem (List.mem_map.mpr ⟨(i, Value.int x), lget_mem hg, rfl⟩ : (i, Value.int x) ∈ lv.map (tl G))
  exact lv_iinc X.1 X.2.1 hd hl hj hv hn rfl (fun ls hl => kk p l e R s m args below meth c H locs ls X hR (lset_has hl))
end RUL
end
section
theorem aw_arrI : Cond.arrayClass (newarray.typeOf .int) ∈ gw := gw_t 90 (by decide +kernel) rfl
theorem aw_arrZ : Cond.arrayClass (newarray.typeOf .boolean) ∈ gw := gw_t 1226 (by decide +kernel) rfl
theorem aw_arrB : Cond.arrayClass (newarray.typeOf .byte) ∈ gw := gw_t 278 (by decide +kernel) rfl
theorem aw_arrL : Cond.arrayClass (newarray.typeOf .long) ∈ gw := gw_t 1492 (by decide +kernel) rfl
section RUH
variable {G : aG} {M : MI} {d mc ms : Nat} {F : FT} {pc pc2 tgt : Nat} {lv lv2 : List (Nat × Value)} {st : List Value} {w : aH} {k n : Nat} {nx : Nat} {h : Nat → Option aC}
def BR (cc : ByteArray) (pc : Nat) (f : Int → Instr) (tgt pc2 : Nat) : Prop := ∃ off : Int, decode cc pc = .ok (f off, 3) ∧ (pc : Int) + off = (tgt : Int) ∧ pc + 3 = pc2
theorem aw_if_eq {x : Int32} (hd : BR M.2.1 pc (.ifCond .eq) tgt pc2) (kt : x = 0 → AW G M d mc ms F tgt lv st w k n) (kf : ¬ x = 0 → AW G M d mc ms F pc2 lv st w k n) : AW G M d mc ms F pc lv (.int x :: st) w k n := by
  obtain ⟨off, hd, ht, rfl⟩ := hd
  exact fun p l e R s m args below meth c H locs ls X hR hl => lv_if_eq X.1 X.2.1 hd ht (fun q => kt q p l e R s m args below meth c H locs ls X hR hl) (fun q => kf q p l e R s m args below meth c H locs ls X hR hl)
theorem aw_icmp_eq {x y : Int32} (hd : BR M.2.1 pc (.if_icmp .eq) tgt pc2) (kt : x = y → AW G M d mc ms F tgt lv st w k n) (kf : ¬ x = y → AW G M d mc ms F pc2 lv st w k n) : AW G M d mc ms F pc lv (.int y :: .int x :: st) w k n := by
  obtain ⟨off, hd, ht, rfl⟩ := hd
  exact fun p l e R s m args below meth c H locs ls X hR hl => lv_icmp_eq X.1 X.2.1 hd ht (fun q => kt q p l e R s m args below meth c H locs ls X hR hl) (fun q => kf q p l e R s m args below meth c H locs ls X hR hl)
theorem aw_if_ne {x : Int32} (hd : BR M.2.1 pc (.ifCond .ne) tgt pc2) (kt : ¬ x = 0 → AW G M d mc ms F tgt lv st w k n) (kf : x = 0 → AW G M d mc ms F pc2 lv st w k n) : AW G M d mc ms F pc lv (.int x :: st) w k n := by
  obtain ⟨off, hd, ht, rfl⟩ := hd
  exact fun p l e R s m args below meth c H locs ls X hR hl => lv_if_ne X.1 X.2.1 hd ht (fun q => kt q p l e R s m args below meth c H locs ls X hR hl) (fun q => kf q p l e R s m args below meth c H locs ls X hR hl)
theorem aw_icmp_ne {x y : Int32} (hd : BR M.2.1 pc (.if_icmp .ne) tgt pc2) (kt : ¬ x = y → AW G M d mc ms F tgt lv st w k n) (kf : x = y → AW G M d mc ms F pc2 lv st w k n) : AW G M d mc ms F pc lv (.int y :: .int x :: st) w k n := by
  obtain ⟨off, hd, ht, rfl⟩ := hd
  exact fun p l e R s m args below meth c H locs ls X hR hl => lv_icmp_ne X.1 X.2.1 hd ht (fun q => kt q p l e R s m args below meth c H locs ls X hR hl) (fun q => kf q p l e R s m args below meth c H locs ls X hR hl)
theorem aw_if_lt {x : Int32} (hd : BR M.2.1 pc (.ifCond .lt) tgt pc2) (kt : x < 0 → AW G M d mc ms F tgt lv st w k n) (kf : ¬ x < 0 → AW G M d mc ms F pc2 lv st w k n) : AW G M d mc ms F pc lv (.int x :: st) w k n := by
  obtain ⟨off, hd, ht, rfl⟩ := hd
  exact fun p l e R s m args below meth c H locs ls X hR hl => lv_if_lt X.1 X.2.1 hd ht (fun q => kt q p l e R s m args below meth c H locs ls X hR hl) (fun q => kf q p l e R s m args below meth c H locs ls X hR hl)
theorem aw_icmp_lt {x y : Int32} (hd : BR M.2.1 pc (.if_icmp .lt) tgt pc2) (kt : x < y → AW G M d mc ms F tgt lv st w k n) (kf : ¬ x < y → AW G M d mc ms F pc2 lv st w k n) : AW G M d mc ms F pc lv (.int y :: .int x :: st) w k n := by
  obtain ⟨off, hd, ht, rfl⟩ := hd
  exact fun p l e R s m args below meth c H locs ls X hR hl => lv_icmp_lt X.1 X.2.1 hd ht (fun q => kt q p l e R s m args below meth c H locs ls X hR hl) (fun q => kf q p l e R s m args below meth c H locs ls X hR hl)
theorem aw_if_ge {x : Int32} (hd : BR M.2.1 pc (.ifCond .ge) tgt pc2) (kt : 0 ≤ x → AW G M d mc ms F tgt lv st w k n) (kf : ¬ 0 ≤ x → AW G M d mc ms F pc2 lv st w k n) : AW G M d mc ms F pc lv (.int x :: st) w k n := by
  obtain ⟨off, hd, ht, rfl⟩ := hd
  exact fun p l e R s m args below meth c H locs ls X hR hl => lv_if_ge X.1 X.2.1 hd ht (fun q => kt q p l e R s m args below meth c H locs ls X hR hl) (fun q => kf q p l e R s m args below meth c H locs ls X hR hl)
theorem aw_icmp_ge {x y : Int32} (hd : BR M.2.1 pc (.if_icmp .ge) tgt pc2) (kt : y ≤ x → AW G M d mc ms F tgt lv st w k n) (kf : ¬ y ≤ x → AW G M d mc ms F pc2 lv st w k n) : AW G M d mc ms F pc lv (.int y :: .int x :: st) w k n := by
  obtain ⟨off, hd, ht, rfl⟩ := hd
  exact fun p l e R s m args below meth c H locs ls X hR hl => lv_icmp_ge X.1 X.2.1 hd ht (fun q => kt q p l e R s m args below meth c H locs ls X hR hl) (fun q => kf q p l e R s m args below meth c H locs ls X hR hl)
theorem aw_if_gt {x : Int32} (hd : BR M.2.1 pc (.ifCond .gt) tgt pc2) (kt : 0 < x → AW G M d mc ms F tgt lv st w k n) (kf : ¬ 0 < x → AW G M d mc ms F pc2 lv st w k n) : AW G M d mc ms F pc lv (.int x :: st) w k n := by
  obtain ⟨off, hd, ht, rfl⟩ := hd
  exact fun p l e R s m args below meth c H locs ls X hR hl => lv_if_gt X.1 X.2.1 hd ht (fun q => kt q p l e R s m args below meth c H locs ls X hR hl) (fun q => kf q p l e R s m args below meth c H locs ls X hR hl)
theorem aw_icmp_gt {x y : Int32} (hd : BR M.2.1 pc (.if_icmp .gt) tgt pc2) (kt : y < x → AW G M d mc ms F tgt lv st w k n) (kf : ¬ y < x → AW G M d mc ms F pc2 lv st w k n) : AW G M d mc ms F pc lv (.int y :: .int x :: st) w k n := by
  obtain ⟨off, hd, ht, rfl⟩ := hd
  exact fun p l e R s m args below meth c H locs ls X hR hl => lv_icmp_gt X.1 X.2.1 hd ht (fun q => kt q p l e R s m args below meth c H locs ls X hR hl) (fun q => kf q p l e R s m args below meth c H locs ls X hR hl)
theorem aw_if_le {x : Int32} (hd : BR M.2.1 pc (.ifCond .le) tgt pc2) (kt : x ≤ 0 → AW G M d mc ms F tgt lv st w k n) (kf : ¬ x ≤ 0 → AW G M d mc ms F pc2 lv st w k n) : AW G M d mc ms F pc lv (.int x :: st) w k n := by
  obtain ⟨off, hd, ht, rfl⟩ := hd
  exact fun p l e R s m args below meth c H locs ls X hR hl => lv_if_le X.1 X.2.1 hd ht (fun q => kt q p l e R s m args below meth c H locs ls X hR hl) (fun q => kf q p l e R s m args below meth c H locs ls X hR hl)
theorem aw_icmp_le {x y : Int32} (hd : BR M.2.1 pc (.if_icmp .le) tgt pc2) (kt : x ≤ y → AW G M d mc ms F tgt lv st w k n) (kf : ¬ x ≤ y → AW G M d mc ms F pc2 lv st w k n) : AW G M d mc ms F pc lv (.int y :: .int x :: st) w k n := by
  obtain ⟨off, hd, ht, rfl⟩ := hd
  exact fun p l e R s m args below meth c H locs ls X hR hl => lv_icmp_le X.1 X.2.1 hd ht (fun q => kt q p l e R s m args below meth c H locs ls X hR hl) (fun q => kf q p l e R s m args below meth c H locs ls X hR hl)
theorem aw_goto (hd : BR M.2.1 pc .goto tgt pc2) (kk : AW G M d mc ms F tgt lv st w k n) : AW G M d mc ms F pc lv st w k n := by
  obtain ⟨off, hd, ht, -⟩ := hd
  exact fun p l e R s m args below meth c H locs ls X hR hl => lv_goto X.1 X.2.1 hd ht (kk p l e R s m args below meth c H locs ls X hR hl)
/-- a switch from 0 on -/
def TSW (cc : ByteArray) (pc : Nat) (tgs : List Nat) (dfl : Nat) : Prop := ∃ (df hi : Int) (offs : Array Int) (len : Nat), decode cc pc = .ok (.tableswitch df 0 hi offs, len) ∧ (pc : Int) + df = (dfl : Int) ∧ hi + 1 = (tgs.length : Int) ∧ offs.toList.map (fun q => (pc : Int) + q) = tgs.map Int.ofNat ∧ tgs.length < 100
theorem aw_tsw {x : Int32} {tgs : List Nat} {dfl : Nat} (hd : TSW M.2.1 pc tgs dfl) (kk : ∀ j t : Nat, x = nI j → tgs[j]? = some t → AW G M d mc ms F t lv st w k n) (kd : (∀ j : Nat, j < tgs.length → ¬ x = nI j) → AW G M d mc ms F dfl lv st w k n) : AW G M d mc ms F pc lv (.int x :: st) w k n := by
  obtain ⟨df, hi, offs, len, hd, h1, h2, h3, h4⟩ := hd
  intro p l e R s m args below meth c H locs ls X hR hl
  by_cases hin : 0 ≤ x.toInt ∧ x.toInt < (tgs.length : Int)
  · obtain ⟨j, hj⟩ : ∃ j : Nat, x.toInt = (j : Int) := ⟨x.toInt.toNat, by omega⟩
    have hjl : j < tgs.length := by omega
    have ex : x = nI j := by
      apply Int32.toInt_inj.mp
      rw [hj, nI_toInt (by omega)]
    have hl3 : offs.toList.length = tgs.length := by have := congrArg List.length h3; simpa using this
    have e3 := congrArg (fun q => q[j]?) h3
    simp only [List.getElem?_map] at e3
    obtain ⟨t, ht⟩ : ∃ t, tgs[j]? = some t := ⟨tgs[j], List.getElem?_eq_getElem hjl⟩
    obtain ⟨oo, ho⟩ : ∃ t, offs.toList[j]? = some t := ⟨offs.toList[j]'(by omega), List.getElem?_eq_getElem (by omega)⟩
    rw [ht, ho] at e3
    have e4 : (pc : Int) + oo = (t : Int) := Option.some.inj e3
    refine lv_tableIn X.1 X.2.1 hd (by omega) (by omega) (off := oo) ?_ e4 (kk j t ex ht p l e R s m args below meth c H locs ls X hR hl)
    rw [hj, ← Array.getElem?_toList]
    have : ((j : Int) - 0).toNat = j := by omega
    rw [this]; exact ho
  · exact lv_tableOut X.1 X.2.1 hd (by omega) h1 (kd (fun j hj e => hin (by rw [e, nI_toInt (by omega)]; omega)) p l e R s m args below meth c H locs ls X hR hl)
/-- classes, fields, by the words -/
def CK (ci : Nat) (r : vw_C) : Prop := cls[ci]? = some r ∧ (∀ w ∈ u_ws r.1 r.2.1 r.2.2, w ∈ gw) ∧ (∀ k, k < r.2.2 → parseFieldDescriptor (r.2.1 k).2.2.1 = some (cty ci k)) ∧ (∀ a, a < r.2.2 → ∀ b, b < r.2.2 → a ≠ b → (r.2.1 a).2.1 ≠ (r.2.1 b).2.1)
def FLk (own : String) (idx : Nat) (q : String × String × String × Bool) : Prop := ∃ ref : String, (Cond.fieldLink own idx ref q.2.1 q.2.2.1 ∈ gw ∨ ∃ host, Cond.fieldLinkNest own idx ref q.2.1 q.2.2.1 host ∈ nws) ∧ (ref = q.1 ∨ Cond.sameField ref q.1 q.2.1 q.2.2.1 ∈ gw)
def FL (own : String) (idx ci f : Nat) : Prop := ∃ r : vw_C, CK ci r ∧ f < r.2.2 ∧ FLk own idx (r.2.1 f)
def PL (own : String) (idx ci f : Nat) (fin : Bool) : Prop := ∃ r : vw_C, CK ci r ∧ f < r.2.2 ∧ FLk own idx (r.2.1 f) ∧ (r.2.1 f).2.2.2 = fin ∧ (fin = true → (r.2.1 f).1 = own ∧ Cond.fieldLink own idx own (r.2.1 f).2.1 (r.2.1 f).2.2.1 ∈ gw)
theorem fl_same {own : String} {s : State} {args : Array Value} {ref : String} {q : String × String × String × Bool} (hts : ∀ w ∈ gw, w.before args s = true) (h : ref = q.1 ∨ Cond.sameField ref q.1 q.2.1 q.2.2.1 ∈ gw) : ∀ x, s.fieldFound? q.1 q.2.1 q.2.2.1 = some x → s.fieldFound? ref q.2.1 q.2.2.1 = some x := by
  rcases h with rfl | h
  · exact fun _ h => h
  · exact fun x hx => u_same (hts _ h) x hx
theorem aw_get {idx ci f a : Nat} {fs : List Value} {v : Value} (hd : DN M.2.1 pc (.getfield idx) 3 pc2) (hf : FL M.1.cls idx ci f) (ha : w.2 a = some (.inr (ci, fs))) (hv : fs[f]? = some v) (kk : AW G M d mc ms F pc2 lv (v :: st) w k n) : AW G M d mc ms F pc lv (.ref a :: st) w k n := by
  obtain ⟨hd, rfl⟩ := hd
  obtain ⟨r, ⟨hc, hin, hty, hnm⟩, hlt, ref, hlk, hsm⟩ := hf
  intro p l e R s m args below meth c H locs ls X hR hl
  have hts := X.2.2.2.2.1
  have hK := X.2.2.2.2.2.2.2.2.1
  have hv2 : (fs.map (tv G))[f]? = some (tv G v) := by simp [hv]
  rcases hlk with h1 | ⟨host, h1⟩
  · exact va_get (C := r.1) (T := r.2.1) (N := r.2.2) (fs := fs.map (tv G)) X.1 X.2.1 hts hin X.2.2.2.1 hK.1 (hR.at ha) 0 rfl hc f hlt (hts _ h1) (fl_same (own := ref) hts hsm) hv2 hd (kk p l e R s m args below meth c H locs ls X hR hl)
  · exact va_getN (C := r.1) (T := r.2.1) (N := r.2.2) (fs := fs.map (tv G)) X.1 X.2.1 hts hin X.2.2.2.1 hK.1 (hR.at ha) 0 rfl hc f hlt (va_Nw.use rfl (hK.2.1 _ h1)) (fl_same (own := ref) hts hsm) hv2 hd (kk p l e R s m args below meth c H locs ls X hR hl)
theorem tv_nar {ty : FieldType} {v : Value} (h : narrow ty v = v) : narrow ty (tv G v) = tv G v := by
  cases v <;> first | exact h | (cases ty <;> rfl)
theorem tv_fit {ty : FieldType} {v : Value} (h : fits ty v = true) : fits ty (tv G v) = true := by
  cases v <;> first | exact h | (cases ty <;> first | rfl | exact h)
theorem tv_set (fs : List Value) (f : Nat) (v : Value) : (fs.set f v).map (tv G) = (fs.map (tv G)).set f (tv G v) := by simp [List.map_set]
def axS {G : aG} {M : MI} {d mc ms : Nat} {p : Program} {R : Room} {s : State} {m : MethodId} {args : Array Value} {meth : Method} {c : Code} {H H1 : Heap} {locs locs1 : List Loc} (X : AX G M d mc ms p R s m args meth c H locs) (hS : va_S (gA G) s.heap H1 locs1) : AX G M d mc ms p R s m args meth c H1 locs1 :=
  ⟨X.1, X.2.1, X.2.2.1, X.2.2.2.1, X.2.2.2.2.1, X.2.2.2.2.2.1, X.2.2.2.2.2.2.1, X.2.2.2.2.2.2.2.1, X.2.2.2.2.2.2.2.2.1, hS, X.2.2.2.2.2.2.2.2.2.2⟩
theorem aw_put {idx ci f a : Nat} {fs : List Value} {v : Value} (hd : DN M.2.1 pc (.putfield idx) 3 pc2) (hf : PL M.1.cls idx ci f false) (ha : h a = some (.inr (ci, fs))) (hl0 : f < fs.length) (hn : narrow (cty ci f) v = v) (hfit : fits (cty ci f) v = true) (kk : AW G M d mc ms F pc2 lv st (nx, hset h a (.inr (ci, fs.set f v))) k n) : AW G M d mc ms F pc lv (v :: .ref a :: st) (nx, h) k n := by
  obtain ⟨hd, rfl⟩ := hd
  obtain ⟨r, ⟨hc, hin, hty, hnm⟩, hlt, ⟨ref, hlk, hsm⟩, hfin, -⟩ := hf
  intro p l e R s m args below meth c H locs ls X hR hl
  have hts := X.2.2.2.2.1
  have hK := X.2.2.2.2.2.2.2.2.1
  have hS := X.2.2.2.2.2.2.2.2.2.1
  have hap := va_apart (own := M.1.cls) hts hin (cty ci) hty hnm hK.1 (cl := cls) (ci := ci) (C := r.1) (T := r.2.1) (N := r.2.2) hc
  obtain ⟨r', h1, cell, q1, q2, q3, q4⟩ := (hR.2.2 a _ ha).2.2
  have e0 : r' = r := Option.some.inj (h1.symm.trans hc)
  subst e0
  obtain ⟨hSl, hfc, kC, hkC, hkind⟩ := hK.1.1 ci _ hc
  obtain ⟨cf, kf, fi, fd, hi, hsl⟩ := hSl f hlt
  have hlay := hts _ (hin _ (u_in_lay hlt))
  unfold u_lay at hlay
  rw [if_neg (by rw [hfin]; decide)] at hlay
  have hst := (u_facts hfc hkC (u_lays hts hin hlt) hi).1
  have h6 := u_store hfc hkC hkind hlay hi (hty f hlt) (tv_nar (G := G) hn) (tv_fit (G := G) hfit)
  have fin : ∀ H' : Heap, H'[ta G a]? = some (cell.setSlot fd.slot (tv G v)) → H'.size = H.size → (∀ q, q ≠ ta G a → H'[q]? = H[q]?) → W p l e R s m args below meth c H' (locs ++ [⟨ta G a, fd.slot⟩]) k n (F below args s) (F0 m (pc + 3) ls (st.map (tv G))) := by
    intro H' e1 e2 e3
    rw [hsl] at e1
    refine kk p l e R s m args below meth c H' _ ls (axS X (hS.put e2 e3 (ta_A (hR.ge ha)))) (Rel.set hR ha e2 e3 ?_) hl
    refine ⟨_, hc, t_OB.to (V := updV (vp_V (fs.map (tv G))) f (tv G v)) ⟨_, e1, q2, q3, t_set q4 hap hlt _⟩ (fun j _ => ?_)⟩
    rw [vp_updV_set (by simpa using hl0), ← tv_set]
  rcases hlk with h1 | ⟨host, h1⟩
  · exact W.putK X.1 X.2.1 (f := fd) ⟨X.2.2.2.1, hts _ h1, ⟨_, _, _, fl_same (own := ref) hts hsm _ hi⟩, hst⟩ (by rw [q2]; exact h6) q1 q3 (by rw [hsl]; exact k2_hasslot (q4 f hlt)) rfl rfl hd fin
  · exact va_WputK X.1 X.2.1 (f := fd) X.2.2.2.1 (va_Nw.use rfl (hK.2.1 _ h1)) (fl_same (own := ref) hts hsm _ hi) hst (by rw [q2]; exact h6) q1 q3 (by rw [hsl]; exact k2_hasslot (q4 f hlt)) rfl rfl hd fin
theorem aw_putF {idx ci f a : Nat} {fs : List Value} {v : Value} (hd : DN M.2.1 pc (.putfield idx) 3 pc2) (hf : PL M.1.cls idx ci f true) (hin2 : M.1.name = "<init>") (ha : h a = some (.inr (ci, fs))) (hl0 : f < fs.length) (hn : narrow (cty ci f) v = v) (hfit : fits (cty ci f) v = true) (kk : AW G M d mc ms F pc2 lv st (nx, hset h a (.inr (ci, fs.set f v))) k n) : AW G M d mc ms F pc lv (v :: .ref a :: st) (nx, h) k n := by
  obtain ⟨hd, rfl⟩ := hd
  obtain ⟨r, ⟨hc, hin, hty, hnm⟩, hlt, ⟨ref, hlk, hsm⟩, hfin, hdk⟩ := hf
  obtain ⟨hdecl, hlink⟩ := hdk rfl
  intro p l e R s m args below meth c H locs ls X hR hl
  have hts := X.2.2.2.2.1
  have hK := X.2.2.2.2.2.2.2.2.1
  have hS := X.2.2.2.2.2.2.2.2.2.1
  have hap := va_apart (own := M.1.cls) hts hin (cty ci) hty hnm hK.1 (cl := cls) (ci := ci) (C := r.1) (T := r.2.1) (N := r.2.2) hc
  obtain ⟨r', h1, cell, q1, q2, q3, q4⟩ := (hR.2.2 a _ ha).2.2
  have e0 : r' = r := Option.some.inj (h1.symm.trans hc)
  subst e0
  obtain ⟨hSl, hfc, kC, hkC, hkind⟩ := hK.1.1 ci _ hc
  obtain ⟨cf, kf, fi, fd, hi, hsl⟩ := hSl f hlt
  have hlay := hts _ (hin _ (u_in_lay hlt))
  unfold u_lay at hlay
  rw [if_pos hfin] at hlay
  have hst := (u_facts hfc hkC (u_lays hts hin hlt) hi).1
  have hcf : m.cls = cf := by
    obtain ⟨_, _, c', _, _, _, -, -, hf', -, -, -, hown2, -⟩ := Cond.laysFinal_spec hlay
    have e1 : c' = cf := by have := hi.symm.trans hf'; simp at this; exact this.1.symm
    rw [hdecl] at hown2
    rw [← e1]; exact Option.some.inj (X.2.2.2.1.symm.trans hown2)
  have h6 := u_fits hfc hkC hkind (Or.inr hlay) hi (hty f hlt) (tv_nar (G := G) hn) (tv_fit (G := G) hfit)
  have hi2 : s.fieldFound? M.1.cls (r'.2.1 f).2.1 (r'.2.1 f).2.2.1 = some (cf, kf, fi, fd) := by rw [← hdecl]; exact hi
  refine W.putFinK X.1 X.2.1 X.2.2.2.1 (hts _ hlink) hi2 hst hcf (by rw [X.2.2.2.2.2.2.2.1]; exact hin2) (by rw [q2]; exact h6) q1 q3 (by rw [hsl]; exact k2_hasslot (q4 f hlt)) rfl rfl hd fun H' e1 e2 e3 => ?_
  rw [hsl] at e1
  refine kk p l e R s m args below meth c H' _ ls (axS X (hS.put e2 e3 (ta_A (hR.ge ha)))) (Rel.set hR ha e2 e3 ?_) hl
  refine ⟨_, hc, t_OB.to (V := updV (vp_V (fs.map (tv G))) f (tv G v)) ⟨_, e1, q2, q3, t_set q4 hap hlt _⟩ (fun j _ => ?_)⟩
  rw [vp_updV_set (by simpa using hl0), ← tv_set]
theorem aw_iaload {a N : Nat} {f : Nat → Int32} {i : Int32} (hd : DN M.2.1 pc .iaload 1 pc2) (ha : w.2 a = some (cI N f)) (hin : vp_in i N) (kk : AW G M d mc ms F pc2 lv (.int (f i.toNatClampNeg) :: st) w k n) : AW G M d mc ms F pc lv (.int i :: .ref a :: st) w k n := by
  obtain ⟨hd, rfl⟩ := hd
  exact fun p l e R s m args below meth c H locs ls X hR hl => va_iald X.1 X.2.1 X.2.2.2.2.2.2.2.2.1.1 (hR.at ha) 0 0 rfl rfl hin hd (kk p l e R s m args below meth c H locs ls X hR hl)
theorem aw_baloadZ {a N : Nat} {f : Nat → Int32} {i : Int32} (hd : DN M.2.1 pc .baload 1 pc2) (ha : w.2 a = some (cZ N f)) (hin : vp_in i N) (kk : AW G M d mc ms F pc2 lv (.int (f i.toNatClampNeg) :: st) w k n) : AW G M d mc ms F pc lv (.int i :: .ref a :: st) w k n := by
  obtain ⟨hd, rfl⟩ := hd
  exact fun p l e R s m args below meth c H locs ls X hR hl => va_zald X.1 X.2.1 X.2.2.2.2.2.2.2.2.1.1 (hR.at ha) 0 1 rfl rfl hin hd (kk p l e R s m args below meth c H locs ls X hR hl)
theorem aw_baload {a N : Nat} {f : Nat → Int32} {i : Int32} (hd : DN M.2.1 pc .baload 1 pc2) (ha : w.2 a = some (cB N f)) (hin : vp_in i N) (kk : AW G M d mc ms F pc2 lv (.int (f i.toNatClampNeg) :: st) w k n) : AW G M d mc ms F pc lv (.int i :: .ref a :: st) w k n := by
  obtain ⟨hd, rfl⟩ := hd
  exact fun p l e R s m args below meth c H locs ls X hR hl => va_bald X.1 X.2.1 X.2.2.2.2.2.2.2.2.1.1 (hR.at ha) 0 2 rfl rfl hin hd (kk p l e R s m args below meth c H locs ls X hR hl)
theorem aw_laload {a N : Nat} {f : Nat → Int64} {i : Int32} (hd : DN M.2.1 pc .laload 1 pc2) (ha : w.2 a = some (cL N f)) (hin : vp_in i N) (kk : AW G M d mc ms F pc2 lv (.long (f i.toNatClampNeg) :: st) w k n) : AW G M d mc ms F pc lv (.int i :: .ref a :: st) w k n := by
  obtain ⟨hd, rfl⟩ := hd
  exact fun p l e R s m args below meth c H locs ls X hR hl => va_lald X.1 X.2.1 X.2.2.2.2.2.2.2.2.1.1 (hR.at ha) 0 3 rfl rfl hin hd (kk p l e R s m args below meth c H locs ls X hR hl)
theorem tv_rf (r : Option Nat) : tv G (va_rf r) = va_rf (r.map (ta G)) := by cases r <;> rfl
theorem aw_aaload {a N : Nat} {f : Nat → Option Nat} {i : Int32} (hd : DN M.2.1 pc .aaload 1 pc2) (ha : w.2 a = some (cO N f)) (hin : vp_in i N) (kk : AW G M d mc ms F pc2 lv (va_rf (f i.toNatClampNeg) :: st) w k n) : AW G M d mc ms F pc lv (.int i :: .ref a :: st) w k n := by
  obtain ⟨hd, rfl⟩ := hd
  intro p l e R s m args below meth c H locs ls X hR hl
  have := kk p l e R s m args below meth c H locs ls X hR hl
  simp only [List.map_cons, tv_rf] at this
  exact va_aldq X.1 X.2.1 X.2.2.2.2.2.2.2.2.1.1 (hR.at ha) 0 4 rfl rfl hin hd this
theorem tp_len (x : vp_A) : (tp G x).1 = x.1 := by
  obtain ⟨N, f | f | f | f | f⟩ := x <;> rfl
theorem aw_alen {a ti N : Nat} {x : ((Nat → Int32) ⊕ (Nat → Int64) ⊕ (Nat → UInt32) ⊕ (Nat → UInt64) ⊕ (Nat → Option Nat))} (hd : DN M.2.1 pc .arraylength 1 pc2) (ha : w.2 a = some (.inl (ti, N, x))) (hti : ti < 5) (kk : AW G M d mc ms F pc2 lv (.int (nI N) :: st) w k n) : AW G M d mc ms F pc lv (.ref a :: st) w k n := by
  obtain ⟨hd, rfl⟩ := hd
  intro p l e R s m args below meth c H locs ls X hR hl
  obtain ⟨ty, hty⟩ : ∃ ty, (gT G)[ti]? = some (gC G ti, ty) := by
    match ti, hti with
    | 0, _ => exact ⟨_, rfl⟩
    | 1, _ => exact ⟨_, rfl⟩
    | 2, _ => exact ⟨_, rfl⟩
    | 3, _ => exact ⟨_, rfl⟩
    | 4, _ => exact ⟨_, rfl⟩
    | j + 5, q => omega
  exact va_alen X.1 X.2.1 X.2.2.2.2.2.2.2.2.1.1 (hR.at ha) 0 ti rfl hty (v := nI N) (by rw [tp_len]; rfl) hd (kk p l e R s m args below meth c H locs ls X hR hl)
theorem aw_alenE (hd : DN M.2.1 pc .arraylength 1 pc2) (kk : AW G M d mc ms F pc2 lv (.int 0 :: st) w k n) : AW G M d mc ms F pc lv (.ref 0 :: st) w k n := by
  obtain ⟨hd, rfl⟩ := hd
  intro p l e R s m args below meth c H locs ls X hR hl
  obtain ⟨cell, h1, h2, h3, h4, h5, h6, h7⟩ := X.2.2.2.2.2.2.2.2.1.2.2.2.1
  have hS := X.2.2.2.2.2.2.2.2.2.1
  exact W.alen (n := 0) X.1 X.2.1 (by show H[gE G]? = _; rw [hS.2.1 _ (Array.getElem?_eq_some_iff.mp h1).1 h7]; exact h1) h2 h5 rfl rfl hd (kk p l e R s m args below meth c H locs ls X hR hl)
theorem aw_iastore {a N : Nat} {f : Nat → Int32} {i : Int32} {x : Int32} (hd : DN M.2.1 pc .iastore 1 pc2) (ha : h a = some (cI N f)) (hin : vp_in i N) (kk : AW G M d mc ms F pc2 lv st (nx, hset h a (cI N (upd f i.toNatClampNeg (x)))) k n) : AW G M d mc ms F pc lv (.int x :: .int i :: .ref a :: st) (nx, h) k n := by
  obtain ⟨hd, rfl⟩ := hd
  intro p l e R s m args below meth c H locs ls X hR hl
  have hK := X.2.2.2.2.2.2.2.2.1
  have hS := X.2.2.2.2.2.2.2.2.2.1
  have hc := (hR.2.2 a _ ha).2.2
  refine W.iast X.1 X.2.1 hc ((hK.1.2 0 _ rfl).1 N (fun j => .int (f j))) (fun q => by cases q) (by show ¬ (i < 0 ∨ (arrV _ _ _).slots.size ≤ _); rw [arrV_size]; exact hin) rfl rfl hd fun H1 e1 z oq => ?_
  refine kk p l e R s m args below meth c H1 _ ls (axS X (hS.put z oq (ta_A (hR.ge ha)))) (Rel.set hR ha z oq ?_) hl
  show H1[ta G a]? = some (vp_cell _ _)
  rw [e1]
  show some ((vp_cell (gC G 0) (N, .inl f)).setSlot i.toNatClampNeg (.int x)) = some (vp_cell (gC G 0) (N, .inl (upd f i.toNatClampNeg (x))))
  rw [vp_cell_i, vp_cell_i, arrV_store]
  congr 2
  funext q
  by_cases hq : q = i.toNatClampNeg
  · subst hq
    simp [updV, upd, vp_updL, vp_nar, narrow]
  · simp [updV, upd, vp_updL, hq]
theorem aw_bastoreZ {a N : Nat} {f : Nat → Int32} {i : Int32} {x : Int32} (hd : DN M.2.1 pc .bastore 1 pc2) (ha : h a = some (cZ N f)) (hin : vp_in i N) (kk : AW G M d mc ms F pc2 lv st (nx, hset h a (cZ N (upd f i.toNatClampNeg (vp_nar .boolean x)))) k n) : AW G M d mc ms F pc lv (.int x :: .int i :: .ref a :: st) (nx, h) k n := by
  obtain ⟨hd, rfl⟩ := hd
  intro p l e R s m args below meth c H locs ls X hR hl
  have hK := X.2.2.2.2.2.2.2.2.1
  have hS := X.2.2.2.2.2.2.2.2.2.1
  have hc := (hR.2.2 a _ ha).2.2
  refine W.zast X.1 X.2.1 hc ((hK.1.2 1 _ rfl).1 N (fun j => .int (f j))) (fun q => by cases q) (by show ¬ (i < 0 ∨ (arrV _ _ _).slots.size ≤ _); rw [arrV_size]; exact hin) rfl rfl hd fun H1 e1 z oq => ?_
  refine kk p l e R s m args below meth c H1 _ ls (axS X (hS.put z oq (ta_A (hR.ge ha)))) (Rel.set hR ha z oq ?_) hl
  show H1[ta G a]? = some (vp_cell _ _)
  rw [e1]
  show some ((vp_cell (gC G 1) (N, .inl f)).setSlot i.toNatClampNeg (narrow .boolean (.int x))) = some (vp_cell (gC G 1) (N, .inl (upd f i.toNatClampNeg (vp_nar .boolean x))))
  rw [vp_cell_i, vp_cell_i, arrV_store]
  congr 2
  funext q
  by_cases hq : q = i.toNatClampNeg
  · subst hq
    simp [updV, upd, vp_updL, vp_nar, narrow]
  · simp [updV, upd, vp_updL, hq]
theorem aw_bastore {a N : Nat} {f : Nat → Int32} {i : Int32} {x : Int32} (hd : DN M.2.1 pc .bastore 1 pc2) (ha : h a = some (cB N f)) (hin : vp_in i N) (kk : AW G M d mc ms F pc2 lv st (nx, hset h a (cB N (upd f i.toNatClampNeg (vp_nar .byte x)))) k n) : AW G M d mc ms F pc lv (.int x :: .int i :: .ref a :: st) (nx, h) k n := by
  obtain ⟨hd, rfl⟩ := hd
  intro p l e R s m args below meth c H locs ls X hR hl
  have hK := X.2.2.2.2.2.2.2.2.1
  have hS := X.2.2.2.2.2.2.2.2.2.1
  have hc := (hR.2.2 a _ ha).2.2
  refine W.bast X.1 X.2.1 hc ((hK.1.2 2 _ rfl).1 N (fun j => .int (f j))) (fun q => by cases q) (by show ¬ (i < 0 ∨ (arrV _ _ _).slots.size ≤ _); rw [arrV_size]; exact hin) rfl rfl hd fun H1 e1 z oq => ?_
  refine kk p l e R s m args below meth c H1 _ ls (axS X (hS.put z oq (ta_A (hR.ge ha)))) (Rel.set hR ha z oq ?_) hl
  show H1[ta G a]? = some (vp_cell _ _)
  rw [e1]
  show some ((vp_cell (gC G 2) (N, .inl f)).setSlot i.toNatClampNeg (narrow .byte (.int x))) = some (vp_cell (gC G 2) (N, .inl (upd f i.toNatClampNeg (vp_nar .byte x))))
  rw [vp_cell_i, vp_cell_i, arrV_store]
  congr 2
  funext q
  by_cases hq : q = i.toNatClampNeg
  · subst hq
    simp [updV, upd, vp_updL, vp_nar, narrow]
  · simp [updV, upd, vp_updL, hq]
theorem aw_lastore {a N : Nat} {f : Nat → Int64} {i : Int32} {x : Int64} (hd : DN M.2.1 pc .lastore 1 pc2) (ha : h a = some (cL N f)) (hin : vp_in i N) (kk : AW G M d mc ms F pc2 lv st (nx, hset h a (cL N (vp_updL f i.toNatClampNeg (x)))) k n) : AW G M d mc ms F pc lv (.long x :: .int i :: .ref a :: st) (nx, h) k n := by
  obtain ⟨hd, rfl⟩ := hd
  intro p l e R s m args below meth c H locs ls X hR hl
  have hK := X.2.2.2.2.2.2.2.2.1
  have hS := X.2.2.2.2.2.2.2.2.2.1
  have hc := (hR.2.2 a _ ha).2.2
  refine W.last X.1 X.2.1 hc ((hK.1.2 3 _ rfl).1 N (fun j => .long (f j))) (fun q => by cases q) (by show ¬ (i < 0 ∨ (arrV _ _ _).slots.size ≤ _); rw [arrV_size]; exact hin) rfl rfl hd fun H1 e1 z oq => ?_
  refine kk p l e R s m args below meth c H1 _ ls (axS X (hS.put z oq (ta_A (hR.ge ha)))) (Rel.set hR ha z oq ?_) hl
  show H1[ta G a]? = some (vp_cell _ _)
  rw [e1]
  show some ((vp_cell (gC G 3) (N, .inr <| .inl f)).setSlot i.toNatClampNeg (.long x)) = some (vp_cell (gC G 3) (N, .inr <| .inl (vp_updL f i.toNatClampNeg (x))))
  rw [vp_cell_l, vp_cell_l, arrV_store]
  congr 2
  funext q
  by_cases hq : q = i.toNatClampNeg
  · subst hq
    simp [updV, upd, vp_updL, vp_nar, narrow]
  · simp [updV, upd, vp_updL, hq]
theorem aw_newaI {v : Int32} {N : Nat} (hd : DN M.2.1 pc (.newarray .int) 2 pc2) (hv : v = nI N) (hN : N ≤ 1000000) (hk : k + 1 ≤ mc) (hs : n + N ≤ ms) (kk : AW G M d mc ms F pc2 lv (.ref nx :: st) (nx + 1, hset h nx (cI N (fun _ => 0))) (k + 1) (n + N)) : AW G M d mc ms F pc lv (.int v :: st) (nx, h) k n := by
  obtain ⟨hd, rfl⟩ := hd
  intro p l e R s m args below meth c H locs ls X hR hl
  have hK := X.2.2.2.2.2.2.2.2.1
  have hS := X.2.2.2.2.2.2.2.2.2.1
  have hts := X.2.2.2.2.1
  have hRm := X.2.2.2.2.2.2.2.2.2.2
  refine va_newaK (N := N) X.1 X.2.1 (hts _ aw_arrI) rfl hd rfl (by rw [hv]; exact nI_pos (by omega)) (by rw [hv]; exact nI_clamp (by omega)) (by simp only [newarray.typeOf, componentBytes]; omega) (Nat.le_trans hk hRm.2.2.1) (Nat.le_trans hs hRm.2.2.2) rfl fun H1 cA e1 z1 o1 hAr hNm => ?_
  have ec : cA = gC G 0 := Option.some.inj (hNm.symm.trans (hK.1.2 0 _ rfl).2)
  subst ec
  have hsz : gB G ≤ H.size := Nat.le_trans hK.2.2.2.2.2.2.2 hS.1
  have hst : (Value.ref nx :: st).map (tv G) = .ref H.size :: st.map (tv G) := by rw [List.map_cons]; show Value.ref (ta G nx) :: _ = _; rw [hR.nx]
  have := kk p l e R s m args below meth c H1 locs ls (axS X ⟨Nat.le_trans hS.1 (by omega), fun x h1 h2 => (o1 x (Nat.lt_of_lt_of_le h1 hS.1)).trans (hS.2.1 x h1 h2), hS.2.2⟩) (Rel.new hR z1 o1 e1) hl
  rw [hst] at this
  exact this
theorem aw_newaZ {v : Int32} {N : Nat} (hd : DN M.2.1 pc (.newarray .boolean) 2 pc2) (hv : v = nI N) (hN : N ≤ 1000000) (hk : k + 1 ≤ mc) (hs : n + N ≤ ms) (kk : AW G M d mc ms F pc2 lv (.ref nx :: st) (nx + 1, hset h nx (cZ N (fun _ => 0))) (k + 1) (n + N)) : AW G M d mc ms F pc lv (.int v :: st) (nx, h) k n := by
  obtain ⟨hd, rfl⟩ := hd
  intro p l e R s m args below meth c H locs ls X hR hl
  have hK := X.2.2.2.2.2.2.2.2.1
  have hS := X.2.2.2.2.2.2.2.2.2.1
  have hts := X.2.2.2.2.1
  have hRm := X.2.2.2.2.2.2.2.2.2.2
  refine va_newaK (N := N) X.1 X.2.1 (hts _ aw_arrZ) rfl hd rfl (by rw [hv]; exact nI_pos (by omega)) (by rw [hv]; exact nI_clamp (by omega)) (by simp only [newarray.typeOf, componentBytes]; omega) (Nat.le_trans hk hRm.2.2.1) (Nat.le_trans hs hRm.2.2.2) rfl fun H1 cA e1 z1 o1 hAr hNm => ?_
  have ec : cA = gC G 1 := Option.some.inj (hNm.symm.trans (hK.1.2 1 _ rfl).2)
  subst ec
  have hsz : gB G ≤ H.size := Nat.le_trans hK.2.2.2.2.2.2.2 hS.1
  have hst : (Value.ref nx :: st).map (tv G) = .ref H.size :: st.map (tv G) := by rw [List.map_cons]; show Value.ref (ta G nx) :: _ = _; rw [hR.nx]
  have := kk p l e R s m args below meth c H1 locs ls (axS X ⟨Nat.le_trans hS.1 (by omega), fun x h1 h2 => (o1 x (Nat.lt_of_lt_of_le h1 hS.1)).trans (hS.2.1 x h1 h2), hS.2.2⟩) (Rel.new hR z1 o1 e1) hl
  rw [hst] at this
  exact this
theorem aw_newaB {v : Int32} {N : Nat} (hd : DN M.2.1 pc (.newarray .byte) 2 pc2) (hv : v = nI N) (hN : N ≤ 1000000) (hk : k + 1 ≤ mc) (hs : n + N ≤ ms) (kk : AW G M d mc ms F pc2 lv (.ref nx :: st) (nx + 1, hset h nx (cB N (fun _ => 0))) (k + 1) (n + N)) : AW G M d mc ms F pc lv (.int v :: st) (nx, h) k n := by
  obtain ⟨hd, rfl⟩ := hd
  intro p l e R s m args below meth c H locs ls X hR hl
  have hK := X.2.2.2.2.2.2.2.2.1
  have hS := X.2.2.2.2.2.2.2.2.2.1
  have hts := X.2.2.2.2.1
  have hRm := X.2.2.2.2.2.2.2.2.2.2
  refine va_newaK (N := N) X.1 X.2.1 (hts _ aw_arrB) rfl hd rfl (by rw [hv]; exact nI_pos (by omega)) (by rw [hv]; exact nI_clamp (by omega)) (by simp only [newarray.typeOf, componentBytes]; omega) (Nat.le_trans hk hRm.2.2.1) (Nat.le_trans hs hRm.2.2.2) rfl fun H1 cA e1 z1 o1 hAr hNm => ?_
  have ec : cA = gC G 2 := Option.some.inj (hNm.symm.trans (hK.1.2 2 _ rfl).2)
  subst ec
  have hsz : gB G ≤ H.size := Nat.le_trans hK.2.2.2.2.2.2.2 hS.1
  have hst : (Value.ref nx :: st).map (tv G) = .ref H.size :: st.map (tv G) := by rw [List.map_cons]; show Value.ref (ta G nx) :: _ = _; rw [hR.nx]
  have := kk p l e R s m args below meth c H1 locs ls (axS X ⟨Nat.le_trans hS.1 (by omega), fun x h1 h2 => (o1 x (Nat.lt_of_lt_of_le h1 hS.1)).trans (hS.2.1 x h1 h2), hS.2.2⟩) (Rel.new hR z1 o1 e1) hl
  rw [hst] at this
  exact this
theorem aw_newaL {v : Int32} {N : Nat} (hd : DN M.2.1 pc (.newarray .long) 2 pc2) (hv : v = nI N) (hN : N ≤ 1000000) (hk : k + 1 ≤ mc) (hs : n + N ≤ ms) (kk : AW G M d mc ms F pc2 lv (.ref nx :: st) (nx + 1, hset h nx (cL N (fun _ => 0))) (k + 1) (n + N)) : AW G M d mc ms F pc lv (.int v :: st) (nx, h) k n := by
  obtain ⟨hd, rfl⟩ := hd
  intro p l e R s m args below meth c H locs ls X hR hl
  have hK := X.2.2.2.2.2.2.2.2.1
  have hS := X.2.2.2.2.2.2.2.2.2.1
  have hts := X.2.2.2.2.1
  have hRm := X.2.2.2.2.2.2.2.2.2.2
  refine va_newaK (N := N) X.1 X.2.1 (hts _ aw_arrL) rfl hd rfl (by rw [hv]; exact nI_pos (by omega)) (by rw [hv]; exact nI_clamp (by omega)) (by simp only [newarray.typeOf, componentBytes]; omega) (Nat.le_trans hk hRm.2.2.1) (Nat.le_trans hs hRm.2.2.2) rfl fun H1 cA e1 z1 o1 hAr hNm => ?_
  have ec : cA = gC G 3 := Option.some.inj (hNm.symm.trans (hK.1.2 3 _ rfl).2)
  subst ec
  have hsz : gB G ≤ H.size := Nat.le_trans hK.2.2.2.2.2.2.2 hS.1
  have hst : (Value.ref nx :: st).map (tv G) = .ref H.size :: st.map (tv G) := by rw [List.map_cons]; show Value.ref (ta G nx) :: _ = _; rw [hR.nx]
  have := kk p l e R s m args below meth c H1 locs ls (axS X ⟨Nat.le_trans hS.1 (by omega), fun x h1 h2 => (o1 x (Nat.lt_of_lt_of_le h1 hS.1)).trans (hS.2.1 x h1 h2), hS.2.2⟩) (Rel.new hR z1 o1 e1) hl
  rw [hst] at this
  exact this
end RUH
end
section
section RUC
variable {G : aG} {M : MI} {d mc ms : Nat} {F : FT} {pc pc2 tgt : Nat} {lv lv2 : List (Nat × Value)} {st : List Value} {w : aH} {k n : Nat} {nx : Nat} {h : Nat → Option aC}
/-- ends -/
theorem aw_iret {Q : Option Value → aH → Prop} {v : Int32} (hd : DN M.2.1 pc .ireturn 1 pc2) (hM : M.2.2.2 = some .int) (hk : k ≤ mc) (hn : n ≤ ms) (hq : Q (some (.int v)) w) : AW G M d mc ms (FQ G mc ms Q) pc lv [.int v] w k n := by
  obtain ⟨hd, rfl⟩ := hd
  intro p l e R s m args below meth c H locs ls X hR hl
  have hS := X.2.2.2.2.2.2.2.2.2.1
  refine W.widen hk hn ?_
  exact W.iret X.1 X.2.1 (by rw [X.2.2.2.2.2.1]; exact hM) (fun t ht hW => ⟨⟨some (.int v), w, rfl, hq, by rw [ht]; exact hR⟩, K0.moved hW hS ht X.2.2.2.2.2.2.2.2.1, hS.F ht⟩) hS.2.2 hd X.2.2.2.2.2.2.1
theorem aw_zret {Q : Option Value → aH → Prop} {v : Int32} (hd : DN M.2.1 pc .ireturn 1 pc2) (hM : M.2.2.2 = some .boolean) (hv : narrow .boolean (.int v) = .int v) (hk : k ≤ mc) (hn : n ≤ ms) (hq : Q (some (.int v)) w) : AW G M d mc ms (FQ G mc ms Q) pc lv [.int v] w k n := by
  obtain ⟨hd, rfl⟩ := hd
  intro p l e R s m args below meth c H locs ls X hR hl
  have hS := X.2.2.2.2.2.2.2.2.2.1
  refine W.widen hk hn ?_
  exact W.zret (ty := .boolean) X.1 X.2.1 (by rw [X.2.2.2.2.2.1]; exact hM) hv (fun t ht hW => ⟨⟨some (.int v), w, rfl, hq, by rw [ht]; exact hR⟩, K0.moved hW hS ht X.2.2.2.2.2.2.2.2.1, hS.F ht⟩) hS.2.2 hd X.2.2.2.2.2.2.1
theorem aw_vret {Q : Option Value → aH → Prop} (hd : DN M.2.1 pc .return_ 1 pc2) (hM : M.2.2.2 = none) (hk : k ≤ mc) (hn : n ≤ ms) (hq : Q none w) : AW G M d mc ms (FQ G mc ms Q) pc lv [] w k n := by
  obtain ⟨hd, rfl⟩ := hd
  intro p l e R s m args below meth c H locs ls X hR hl
  have hS := X.2.2.2.2.2.2.2.2.2.1
  refine W.widen hk hn ?_
  exact W.vret X.1 X.2.1 (by rw [X.2.2.2.2.2.1]; exact hM) (fun t ht hW => ⟨⟨none, w, rfl, hq, by rw [ht]; exact hR⟩, K0.moved hW hS ht X.2.2.2.2.2.2.2.2.1, hS.F ht⟩) hS.2.2 hd X.2.2.2.2.2.2.1
theorem aw_aret {Q : Option Value → aH → Prop} {v : Value} {rt : FieldType} (hd : DN M.2.1 pc .areturn 1 pc2) (hM : M.2.2.2 = some rt) (hrt : (∃ n, rt = .object n) ∨ ∃ t, rt = .array t) (hv : v = .null ∨ ∃ a, v = .ref a) (hk : k ≤ mc) (hn : n ≤ ms) (hq : Q (some v) w) : AW G M d mc ms (FQ G mc ms Q) pc lv [v] w k n := by
  obtain ⟨hd, rfl⟩ := hd
  intro p l e R s m args below meth c H locs ls X hR hl
  have hS := X.2.2.2.2.2.2.2.2.2.1
  refine W.widen hk hn ?_
  exact W.aret (v := tv G v) (rt := rt) X.1 X.2.1 (by rw [X.2.2.2.2.2.1]; exact hM) hrt (hv.elim (fun e => Or.inl (by rw [e]; rfl)) (fun ⟨a, e⟩ => Or.inr ⟨ta G a, by rw [e]; rfl⟩)) (fun t ht hW => ⟨⟨some v, w, rfl, hq, by rw [ht]; exact hR⟩, K0.moved hW hS ht X.2.2.2.2.2.2.2.2.1, hS.F ht⟩) hS.2.2 hd X.2.2.2.2.2.2.1
/-- constants of the pool -/
theorem aw_ldc {idx : Nat} {v : Int32} (hd : DN M.2.1 pc (.ldc idx) 2 pc2) (hc : Cond.constant M.1.cls idx v ∈ gw) (kk : AW G M d mc ms F pc2 lv (.int v :: st) w k n) : AW G M d mc ms F pc lv st w k n := by
  obtain ⟨hd, rfl⟩ := hd
  exact fun p l e R s m args below meth c H locs ls X hR hl => lv_ldc X.1 X.2.1 X.2.2.2.1 (X.2.2.2.2.1 _ hc) hd (kk p l e R s m args below meth c H locs ls X hR hl)
theorem aw_ldcw {idx : Nat} {v : Int32} (hd : DN M.2.1 pc (.ldc_w idx) 3 pc2) (hc : Cond.constant M.1.cls idx v ∈ gw) (kk : AW G M d mc ms F pc2 lv (.int v :: st) w k n) : AW G M d mc ms F pc lv st w k n := by
  obtain ⟨hd, rfl⟩ := hd
  exact fun p l e R s m args below meth c H locs ls X hR hl => lv_ldcw X.1 X.2.1 X.2.2.2.1 (X.2.2.2.2.1 _ hc) hd (kk p l e R s m args below meth c H locs ls X hR hl)
theorem aw_ldc2 {idx : Nat} {v : Int64} (hd : DN M.2.1 pc (.ldc2_w idx) 3 pc2) (hc : Cond.constantLong M.1.cls idx v ∈ gw) (kk : AW G M d mc ms F pc2 lv (.long v :: st) w k n) : AW G M d mc ms F pc lv st w k n := by
  obtain ⟨hd, rfl⟩ := hd
  exact fun p l e R s m args below meth c H locs ls X hR hl => lv_ldc2 X.1 X.2.1 X.2.2.2.1 (X.2.2.2.2.1 _ hc) hd (kk p l e R s m args below meth c H locs ls X hR hl)
theorem aw_lconst {z : Fin 2} {v : Int64} (hd : DN M.2.1 pc (.lconst z) 1 pc2) (hv : Int64.ofNat (z : Nat) = v) (kk : AW G M d mc ms F pc2 lv (.long v :: st) w k n) : AW G M d mc ms F pc lv st w k n := by
  obtain ⟨hd, rfl⟩ := hd
  exact fun p l e R s m args below meth c H locs ls X hR hl => lv_lconst X.1 X.2.1 hd hv (kk p l e R s m args below meth c H locs ls X hR hl)
/-- Object's constructor -/
def OI (own : String) (idx : Nat) : Prop := Cond.methodLink own idx objectInit ∈ gw
theorem oi_i : Cond.instanceMethod objectInit ∈ gw := by decide +kernel
theorem oi_c : Cond.code objectInit ⟨#[0xb1]⟩ 1 none ∈ gw := by decide +kernel
theorem tv_cats (G : aG) (l : List Value) : ((l.map (tv G)).map fun v => v.category) = l.map fun v => v.category := by
  rw [List.map_map]
  exact List.map_congr_left fun v _ => tv_cat G v
theorem aw_objInit {idx a : Nat} (hd : DN M.2.1 pc (.invokespecial idx) 3 pc2) (ho : OI M.1.cls idx) (hdd : 1 ≤ d) (hst : (st.map fun v => v.category).sum ≤ 8) (kk : AW G M d mc ms F pc2 lv st w k n) : AW G M d mc ms F pc lv (.ref a :: st) w k n := by
  obtain ⟨hd, rfl⟩ := hd
  intro p l e R s m args below meth c H locs ls X hR hl
  have hts := X.2.2.2.2.1
  have hRm := X.2.2.2.2.2.2.2.2.2.2
  exact W.objInit X.1 X.2.1 X.2.2.2.1 (hts _ ho) (hts _ oi_i) (hts _ oi_c) rfl (by show ls.size = _; rw [hl.1, X.2.2.1]) rfl hd (Nat.le_trans hdd hRm.1) (by show 2 * 0 + _ + 12 ≤ _; rw [tv_cats]; have := hRm.2.1; omega) (kk p l e R s m args below meth c H locs ls X hR hl)
/-- calls -/
def CLB (own : String) (idx : Nat) (M' : MI) (a : Nat) : Prop := Cond.methodLink own idx M'.1 ∈ gw ∧ Cond.initialized M'.1.cls ∈ gw ∧ Cond.code M'.1 M'.2.1 M'.2.2.1 M'.2.2.2 ∈ gw ∧ M'.2.2.1 ≤ 41 ∧ (M'.1.cls ≠ "java/lang/invoke/MethodHandle" ∧ M'.1.cls ≠ "java/lang/invoke/VarHandle" ∧ (parseMethodDescriptor M'.1.desc).map (fun d => d.parameters.length) = some a)
def CLv (own : String) (idx : Nat) (M' : MI) (a : Nat) : Prop := CLB own idx M' a ∧ Cond.instanceMethod M'.1 ∈ gw ∧ Cond.selects M'.1.cls M'.1 M'.1 ∈ gw
def CLs (own : String) (idx : Nat) (M' : MI) (a : Nat) : Prop := CLB own idx M' a ∧ Cond.static M'.1 ∈ gw
def CLi (own : String) (idx : Nat) (M' : MI) (a : Nat) : Prop := CLB own idx M' a ∧ M'.1.name = "<init>" ∧ Cond.instanceMethod M'.1 ∈ gw ∧ M'.2.2.2 = none
def CLn (own : String) (idx : Nat) (M' : MI) (a : Nat) : Prop := (∃ host, Cond.methodLinkNest own idx M'.1 host ∈ nws) ∧ Cond.initialized M'.1.cls ∈ gw ∧ Cond.code M'.1 M'.2.1 M'.2.2.1 M'.2.2.2 ∈ gw ∧ M'.2.2.1 ≤ 41 ∧ (M'.1.cls ≠ "java/lang/invoke/MethodHandle" ∧ M'.1.cls ≠ "java/lang/invoke/VarHandle" ∧ (parseMethodDescriptor M'.1.desc).map (fun d => d.parameters.length) = some a) ∧ M'.1.name = "<init>" ∧ Cond.instanceMethod M'.1 ∈ gw ∧ M'.2.2.2 = none
def rmOf (d mc ms : Nat) : Room := { frames := d, cells := mc, slots := ms, locals := 60 * d }
/-- behind a call -/
theorem aw_back {p : Program} {l : Launch} {e : Env} {R : Room} {s : State} {m : MethodId} {args : Array Value} {below : List Frame} {meth : Method} {c : Code} {H : Heap} {locs : List Loc} {ls : Array Slot} {mc2 ms2 : Nat} {st0 rest : List Value} {av : Array Value} {Q : Option Value → aH → Prop} (X : AX G M d mc ms p R s m args meth c H locs) (hl : lv_has ls M.2.2.1 (lv.map (tl G)))
    (hr : va_Run p l e R s m args below meth c H locs k n mc2 ms2 (F0 m pc ls st0) (rest.map (tv G)) (AQ G Q av) (gA G)) (kk : ∀ (r : Option Value) (w2 : aH), Q r w2 → AW G M d mc ms F (pc + 3) lv (r.toList ++ rest) w2 (k + mc2) (n + ms2)) : W p l e R s m args below meth c H locs k n (F below args s) (F0 m pc ls st0) := by
  have hS := X.2.2.2.2.2.2.2.2.2.1
  intro T hT XT
  obtain ⟨v, st₀, t, T', L, h0, X', hL, e1, e2, ⟨⟨r, w2, hv, hq, hR2⟩, hK2, hz, hk⟩, go⟩ := hr T hT XT
  cases hv
  rw [h0] at hz hk
  have hS2 : va_S (gA G) s.heap T'.heap (locs ++ L) := ⟨Nat.le_trans hS.1 (by rw [e1]; exact hz), fun q h1 h2 => by rw [e1, hk q (Nat.lt_of_lt_of_le h1 hS.1) h2]; exact hS.2.1 q h1 h2, fun q hq => by
      rcases List.mem_append.mp hq with h | h
      · exact hS.2.2 q h
      · exact hL q h⟩
  obtain ⟨t2, a1, b1⟩ := kk r w2 hq p l e R s m args below meth c T'.heap (locs ++ L) ls (axS X hS2) (by rw [e1]; exact hR2) hl T' rfl X'
  refine ⟨t2, go t2 ?_, b1⟩
  rw [List.map_append] at a1
  have e3 : (r.toList).map (tv G) = (r.map (tv G)).toList := by cases r <;> rfl
  rw [e3] at a1
  exact a1
theorem apc_at {s : State} {H : Heap} {locs : List Loc} {av : List Value} (hR : Rel G w H) (hK : K0 G s) (hS : va_S (gA G) s.heap H locs) : PreS s H (APc G av w) (av.map (tv G)) :=
  ⟨APc.blind G av w, fun U hU hW => ⟨rfl, by rw [hU]; exact hR, K0.moved hW hS hU hK⟩⟩
theorem aw_callv {M' : MI} {d2 mc2 ms2 idx ci a b : Nat} {fs av rest stk : List Value} {q : vw_C} {Q : Option Value → aH → Prop} (hd : DN M.2.1 pc (.invokevirtual idx) 3 pc2) (hc : CLv M.1.cls idx M' a) (hm : AMet G M' d2 mc2 ms2 (.ref b :: av) w Q) (hb : w.2 b = some (.inr (ci, fs))) (hq : cls[ci]? = some q) (hcl : q.1 = M'.1.cls) (hs : stk = av.reverse ++ .ref b :: rest) (ha : av.length = a) (hdd : d2 + 1 ≤ d) (hk : k + mc2 ≤ mc) (hn : n + ms2 ≤ ms) (hst : (rest.map fun v => v.category).sum ≤ 8)
    (kk : ∀ (r : Option Value) (w2 : aH), Q r w2 → AW G M d mc ms F pc2 lv (r.toList ++ rest) w2 (k + mc2) (n + ms2)) : AW G M d mc ms F pc lv stk w k n := by
  obtain ⟨hd, rfl⟩ := hd
  obtain ⟨⟨c1, c2, c3, c4, c5⟩, c6, c7⟩ := hc
  subst hs
  intro p l e R s m args below meth c H locs ls X hR hl
  have hts := X.2.2.2.2.1
  have hRm := X.2.2.2.2.2.2.2.2.2.2
  have hP := apc_at (av := .ref b :: av) hR X.2.2.2.2.2.2.2.2.1 X.2.2.2.2.2.2.2.2.2.1
  have hrec := va_recv X.2.2.2.2.2.2.2.2.1.1 (hR.at hb) hq (q0 := 0) rfl
  rw [hcl] at hrec
  refine aw_back X hl (va_runV (As := av.map (tv G)) (rest := rest.map (tv G)) (b := ta G b) (C := M'.1.cls) ⟨X.1, X.2.1, X.2.2.1, X.2.2.2.1, hts⟩ (hm l (rmOf d2 mc2 ms2) (Nat.le_refl _) (Nat.le_refl _) rfl rfl) ⟨callB_of (rm := rmOf d2 mc2 ms2) a hts (gw_in c3) rfl rfl rfl (hts _ c2) (hts _ c1) c5 ⟨by show d2 + 1 ≤ _; omega, by show 8 + (M'.2.2.1 + 11) + 60 * d2 ≤ R.locals; have := hRm.2.1; omega⟩, hts _ c6, hts _ c7⟩ ⟨hP.1, hrec, hP.2⟩ rfl (by simpa using ha) hl.1 (by show (av.reverse ++ .ref b :: rest).map (tv G) = _; simp [List.map_append, tv]) (by show 2 * 0 + _ ≤ 8; rw [tv_cats]; omega) hd ⟨Nat.le_trans hk hRm.2.2.1, Nat.le_trans hn hRm.2.2.2⟩) kk
theorem aw_calls {M' : MI} {d2 mc2 ms2 idx a : Nat} {av rest stk : List Value} {Q : Option Value → aH → Prop} (hd : DN M.2.1 pc (.invokestatic idx) 3 pc2) (hc : CLs M.1.cls idx M' a) (hm : AMet G M' d2 mc2 ms2 av w Q) (hs : stk = av.reverse ++ rest) (ha : av.length = a) (hdd : d2 + 1 ≤ d) (hk : k + mc2 ≤ mc) (hn : n + ms2 ≤ ms) (hst : (rest.map fun v => v.category).sum ≤ 8)
    (kk : ∀ (r : Option Value) (w2 : aH), Q r w2 → AW G M d mc ms F pc2 lv (r.toList ++ rest) w2 (k + mc2) (n + ms2)) : AW G M d mc ms F pc lv stk w k n := by
  obtain ⟨hd, rfl⟩ := hd
  obtain ⟨⟨c1, c2, c3, c4, c5⟩, c6⟩ := hc
  subst hs
  intro p l e R s m args below meth c H locs ls X hR hl
  have hts := X.2.2.2.2.1
  have hRm := X.2.2.2.2.2.2.2.2.2.2
  have hP := apc_at (av := av) hR X.2.2.2.2.2.2.2.2.1 X.2.2.2.2.2.2.2.2.2.1
  refine aw_back X hl (va_runS (As := av.map (tv G)) (rest := rest.map (tv G)) ⟨X.1, X.2.1, X.2.2.1, X.2.2.2.1, hts⟩ (hm l (rmOf d2 mc2 ms2) (Nat.le_refl _) (Nat.le_refl _) rfl rfl) ⟨callB_of (rm := rmOf d2 mc2 ms2) a hts (gw_in c3) rfl rfl rfl (hts _ c2) (hts _ c1) c5 ⟨by show d2 + 1 ≤ _; omega, by show 8 + (M'.2.2.1 + 11) + 60 * d2 ≤ R.locals; have := hRm.2.1; omega⟩, hts _ c6⟩ hP rfl (by simpa using ha) hl.1 (by show (av.reverse ++ rest).map (tv G) = _; simp [List.map_append]) (by show 2 * 0 + _ ≤ 8; rw [tv_cats]; omega) hd ⟨Nat.le_trans hk hRm.2.2.1, Nat.le_trans hn hRm.2.2.2⟩) kk
theorem aw_calli {M' : MI} {d2 mc2 ms2 idx a b : Nat} {av rest stk : List Value} {Q : Option Value → aH → Prop} (hd : DN M.2.1 pc (.invokespecial idx) 3 pc2) (hc : CLi M.1.cls idx M' a) (hm : AMet G M' d2 mc2 ms2 (.ref b :: av) w Q) (hs : stk = av.reverse ++ .ref b :: rest) (ha : av.length = a) (hdd : d2 + 1 ≤ d) (hk : k + mc2 ≤ mc) (hn : n + ms2 ≤ ms) (hst : (rest.map fun v => v.category).sum ≤ 8)
    (kk : ∀ (r : Option Value) (w2 : aH), Q r w2 → AW G M d mc ms F pc2 lv (r.toList ++ rest) w2 (k + mc2) (n + ms2)) : AW G M d mc ms F pc lv stk w k n := by
  obtain ⟨hd, rfl⟩ := hd
  obtain ⟨⟨c1, c2, c3, c4, c5⟩, c6, c7, c8⟩ := hc
  subst hs
  intro p l e R s m args below meth c H locs ls X hR hl
  have hts := X.2.2.2.2.1
  have hRm := X.2.2.2.2.2.2.2.2.2.2
  have hP := apc_at (av := .ref b :: av) hR X.2.2.2.2.2.2.2.2.1 X.2.2.2.2.2.2.2.2.2.1
  have hm2 := hm l (rmOf d2 mc2 ms2) (Nat.le_refl _) (Nat.le_refl _) rfl rfl
  rw [c8] at hm2 c3
  refine aw_back X hl (va_runI (As := av.map (tv G)) (rest := rest.map (tv G)) (b := ta G b) ⟨X.1, X.2.1, X.2.2.1, X.2.2.2.1, hts⟩ hm2 ⟨callB_of (rm := rmOf d2 mc2 ms2) a hts (gw_in c3) rfl rfl rfl (hts _ c2) (hts _ c1) c5 ⟨by show d2 + 1 ≤ _; omega, by show 8 + (M'.2.2.1 + 11) + 60 * d2 ≤ R.locals; have := hRm.2.1; omega⟩, c6, hts _ c7⟩ hP rfl (by simpa using ha) hl.1 (by show (av.reverse ++ .ref b :: rest).map (tv G) = _; simp [List.map_append, tv]) (by show 2 * 0 + _ ≤ 8; rw [tv_cats]; omega) hd ⟨Nat.le_trans hk hRm.2.2.1, Nat.le_trans hn hRm.2.2.2⟩) kk
theorem aw_calln {M' : MI} {d2 mc2 ms2 idx a b : Nat} {av rest stk : List Value} {Q : Option Value → aH → Prop} (hd : DN M.2.1 pc (.invokespecial idx) 3 pc2) (hc : CLn M.1.cls idx M' a) (hm : AMet G M' d2 mc2 ms2 (.ref b :: av) w Q) (hs : stk = av.reverse ++ .ref b :: rest) (ha : av.length = a) (hdd : d2 + 1 ≤ d) (hk : k + mc2 ≤ mc) (hn : n + ms2 ≤ ms) (hst : (rest.map fun v => v.category).sum ≤ 8)
    (kk : ∀ (r : Option Value) (w2 : aH), Q r w2 → AW G M d mc ms F pc2 lv (r.toList ++ rest) w2 (k + mc2) (n + ms2)) : AW G M d mc ms F pc lv stk w k n := by
  obtain ⟨hd, rfl⟩ := hd
  obtain ⟨⟨host, c1⟩, c2, c3, c4, c5, c6, c7, c8⟩ := hc
  subst hs
  intro p l e R s m args below meth c H locs ls X hR hl
  have hts := X.2.2.2.2.1
  have hRm := X.2.2.2.2.2.2.2.2.2.2
  have hP := apc_at (av := .ref b :: av) hR X.2.2.2.2.2.2.2.2.1 X.2.2.2.2.2.2.2.2.2.1
  have hm2 := hm l (rmOf d2 mc2 ms2) (Nat.le_refl _) (Nat.le_refl _) rfl rfl
  rw [c8] at hm2 c3
  refine aw_back X hl (va_runIN (As := av.map (tv G)) (rest := rest.map (tv G)) (b := ta G b) ⟨X.1, X.2.1, X.2.2.1, X.2.2.2.1, hts⟩ hm2 ⟨va_cnB (rm := rmOf d2 mc2 ms2) a hts (gw_in c3) rfl rfl rfl (X.2.2.2.2.2.2.2.2.1.2.1 _ c1) (hts _ c2) c5 ⟨by show d2 + 1 ≤ _; omega, by show 8 + (M'.2.2.1 + 11) + 60 * d2 ≤ R.locals; have := hRm.2.1; omega⟩, c6, hts _ c7⟩ hP rfl (by simpa using ha) hl.1 (by show (av.reverse ++ .ref b :: rest).map (tv G) = _; simp [List.map_append, tv]) (by show 2 * 0 + _ ≤ 8; rw [tv_cats]; omega) hd ⟨Nat.le_trans hk hRm.2.2.1, Nat.le_trans hn hRm.2.2.2⟩) kk
/-- new objects -/
def NL (own : String) (idx ci : Nat) (dfs : List Value) : Prop := ∃ r : vw_C, CK ci r ∧ Cond.classLink own idx r.1 ∈ gw ∧ Cond.instantiable r.1 r.2.2 ∈ gw ∧ Cond.initialized r.1 ∈ gw ∧ r.2.2 = dfs.length ∧ ∀ j, j < r.2.2 → defaultValue (cty ci j) = vp_V dfs j
theorem tv_def (ty : FieldType) : tv G (defaultValue ty) = defaultValue ty := by cases ty <;> rfl
theorem aw_new {idx ci N : Nat} {dfs : List Value} (hd : DN M.2.1 pc (.new idx) 3 pc2) (hf : NL M.1.cls idx ci dfs) (hN : dfs.length = N) (hk : k + 1 ≤ mc) (hs : n + N ≤ ms) (kk : AW G M d mc ms F pc2 lv (.ref nx :: st) (nx + 1, hset h nx (.inr (ci, dfs))) (k + 1) (n + N)) : AW G M d mc ms F pc lv st (nx, h) k n := by
  obtain ⟨hd, rfl⟩ := hd
  obtain ⟨r, ⟨hc, hin, hty, hnm⟩, c1, c2, c3, c4, c5⟩ := hf
  subst hN
  intro p l e R s m args below meth c H locs ls X hR hl
  have hK := X.2.2.2.2.2.2.2.2.1
  have hS := X.2.2.2.2.2.2.2.2.2.1
  have hts := X.2.2.2.2.1
  have hRm := X.2.2.2.2.2.2.2.2.2.2
  have hKn := hK.1.1 ci _ hc
  rw [← c4] at hs kk
  refine W.newcK X.1 X.2.1 X.2.2.2.1 (hts _ c1) (hts _ c2) (hts _ c3) rfl hd (Nat.le_trans hk hRm.2.2.1) (Nat.le_trans hs hRm.2.2.2) hKn.2.1 rfl fun H1 kC hkC e1 z1 o1 => ?_
  have hst : (Value.ref nx :: st).map (tv G) = .ref H.size :: st.map (tv G) := by rw [List.map_cons]; show Value.ref (ta G nx) :: _ = _; rw [hR.nx]
  have := kk p l e R s m args below meth c H1 locs ls (axS X ⟨Nat.le_trans hS.1 (by omega), fun x h1 h2 => (o1 x (Nat.lt_of_lt_of_le h1 hS.1)).trans (hS.2.1 x h1 h2), hS.2.2⟩) (Rel.new hR z1 o1 ⟨_, hc, (u_born (cty ci) hts hin hKn hkC e1 hty).to (fun j hj => by
    rw [c5 j hj]
    have := tv_def (G := G) (cty ci j)
    rw [c5 j hj] at this
    rw [← this]
    show tv G (dfs.getD j .null) = (dfs.map (tv G)).getD j .null
    simp only [List.getD_eq_getElem?_getD, List.getElem?_map]
    cases dfs[j]? <;> rfl)⟩) hl
  rw [hst] at this
  exact this
/-- arrays of references -/
theorem aw_anew {idx N : Nat} {v : Int32} (hd : DN M.2.1 pc (.anewarray idx) 3 pc2) (hc : Cond.classLink M.1.cls idx "java/lang/Object" ∈ gw) (hv : v = nI N) (hN : N ≤ 1000000) (hk : k + 1 ≤ mc) (hs : n + N ≤ ms) (kk : AW G M d mc ms F pc2 lv (.ref nx :: st) (nx + 1, hset h nx (cO N (fun _ => none))) (k + 1) (n + N)) : AW G M d mc ms F pc lv (.int v :: st) (nx, h) k n := by
  obtain ⟨hd, rfl⟩ := hd
  intro p l e R s m args below meth c H locs ls X hR hl
  have hK := X.2.2.2.2.2.2.2.2.1
  have hS := X.2.2.2.2.2.2.2.2.2.1
  have hts := X.2.2.2.2.1
  have hRm := X.2.2.2.2.2.2.2.2.2.2
  have hcl : v.toNatClampNeg = N := by rw [hv]; exact nI_clamp (by omega)
  refine W.anew X.1 X.2.1 X.2.2.2.1 (hts _ hc) (va_AO.use hK.2.2.2.2.2.1) rfl hd rfl (by rw [hv]; exact nI_pos (by omega)) (by rw [hcl]; omega) (Nat.le_trans hk hRm.2.2.1) (by rw [hcl]; exact Nat.le_trans hs hRm.2.2.2) fun cA kA comp f1 f2 f3 f4 => ?_
  rw [hcl]
  generalize hH1 : H.push ({ cls := cA, slots := Array.replicate N .null, vm := .none } : Cell) = H1
  have z1 : H1.size = H.size + 1 := by rw [← hH1, Array.size_push]
  have e1 : H1[H.size]? = some (arrV cA N (fun _ => .null)) := by rw [← hH1, Array.getElem?_push_size, ← arrV_new]
  have o1 : ∀ q : Nat, q < H.size → H1[q]? = H[q]? := fun q hq => by rw [← hH1, Array.getElem?_push, if_neg (Nat.ne_of_lt hq)]
  obtain ⟨-, -, -, -, -, g4⟩ := (hK.1.2 4 _ rfl).2
  have ec : cA = gC G 4 := Option.some.inj (f1.symm.trans g4)
  subst ec
  have hst : (Value.ref nx :: st).map (tv G) = .ref H.size :: st.map (tv G) := by rw [List.map_cons]; show Value.ref (ta G nx) :: _ = _; rw [hR.nx]
  have := kk p l e R s m args below meth c H1 locs ls (axS X ⟨Nat.le_trans hS.1 (by omega), fun x h1 h2 => (o1 x (Nat.lt_of_lt_of_le h1 hS.1)).trans (hS.2.1 x h1 h2), hS.2.2⟩) (Rel.new hR z1 o1 e1) hl
  rw [hst] at this
  exact this
theorem aw_aastore {a b N ci : Nat} {f : Nat → Option Nat} {fs : List Value} {i : Int32} {q : vw_C} (hd : DN M.2.1 pc .aastore 1 pc2) (ha : h a = some (cO N f)) (hb : h b = some (.inr (ci, fs))) (hq : cls[ci]? = some q) (hcast : Cond.castable q.1 "java/lang/Object" ∈ nws) (hin : vp_in i N) (kk : AW G M d mc ms F pc2 lv st (nx, hset h a (cO N (va_up f i.toNatClampNeg (some b)))) k n) : AW G M d mc ms F pc lv (.ref b :: .int i :: .ref a :: st) (nx, h) k n := by
  obtain ⟨hd, rfl⟩ := hd
  intro p l e R s m args below meth c H locs ls X hR hl
  have hK := X.2.2.2.2.2.2.2.2.1
  have hS := X.2.2.2.2.2.2.2.2.2.1
  have hlt : i.toNatClampNeg < N := Nat.not_le.mp fun q => hin (Or.inr q)
  have h0 : ¬ i < 0 := fun q => hin (Or.inl q)
  obtain ⟨cellV, g1, g3, g2⟩ := va_recv hK.1 (hR.at hb) hq (q0 := 0) rfl
  obtain ⟨kC, hkC, -⟩ := Vm.findClass_spec g2
  obtain ⟨kA, comp, k1, k2, k3, -⟩ := (hK.1.2 4 _ rfl).2
  obtain ⟨kE, hkE, -⟩ := Vm.findClass_spec k3
  obtain ⟨c0, t0, f1, f2, f3⟩ := Cond.castable_spec (va_Nw.use (A := args) rfl (hK.2.1 _ hcast))
  have ec : c0 = cellV.cls := Option.some.inj (f1.symm.trans g2)
  have et : t0 = comp := Option.some.inj (f2.symm.trans k3)
  subst ec; subst et
  refine W.aast X.1 X.2.1 (hR.2.2 a _ ha).2.2 (fun q h => by cases h) (fun h => by cases h) k1 k2 rfl hkE ⟨h0, by show _ < (arrV _ _ _).slots.size; rw [arrV_size]; exact hlt⟩ g1 (fun q h => by rw [h] at g3; cases g3) hkC f3 rfl rfl hd fun H1 e1 z oq => ?_
  refine kk p l e R s m args below meth c H1 _ ls (axS X (hS.put z oq (ta_A (hR.ge ha)))) (Rel.set hR ha z oq ?_) hl
  show H1[ta G a]? = some (vp_cell _ _)
  rw [e1]
  show some ((vp_cell (gC G 4) (N, .inr (.inr (.inr (.inr (fun j => (f j).map (ta G))))))).setSlot i.toNatClampNeg (.ref (ta G b))) = some (vp_cell (gC G 4) (N, .inr (.inr (.inr (.inr (fun j => (va_up f i.toNatClampNeg (some b) j).map (ta G)))))))
  rw [vp_cell_q, vp_cell_q, arrV_store]
  congr 2
  funext q
  by_cases hq : q = i.toNatClampNeg
  · subst hq
    simp [updV, va_up, va_rf]
  · simp [updV, va_up, hq]
theorem aw_aastoreN {a N : Nat} {f : Nat → Option Nat} {i : Int32} (hd : DN M.2.1 pc .aastore 1 pc2) (ha : h a = some (cO N f)) (hin : vp_in i N) (kk : AW G M d mc ms F pc2 lv st (nx, hset h a (cO N (va_up f i.toNatClampNeg none))) k n) : AW G M d mc ms F pc lv (.null :: .int i :: .ref a :: st) (nx, h) k n := by
  obtain ⟨hd, rfl⟩ := hd
  intro p l e R s m args below meth c H locs ls X hR hl
  have hK := X.2.2.2.2.2.2.2.2.1
  have hS := X.2.2.2.2.2.2.2.2.2.1
  refine va_WaastN (C := "java/lang/Object") X.1 X.2.1 (hR.2.2 a _ ha).2.2 ((hK.1.2 4 _ rfl).1 N (fun j => va_rf ((f j).map (ta G)))) (fun h => by cases h) (by show ¬ (i < 0 ∨ (arrV _ _ _).slots.size ≤ _); rw [arrV_size]; exact hin) rfl rfl hd fun H1 e1 z oq => ?_
  refine kk p l e R s m args below meth c H1 _ ls (axS X (hS.put z oq (ta_A (hR.ge ha)))) (Rel.set hR ha z oq ?_) hl
  show H1[ta G a]? = some (vp_cell _ _)
  rw [e1]
  show some ((vp_cell (gC G 4) (N, .inr (.inr (.inr (.inr (fun j => (f j).map (ta G))))))).setSlot i.toNatClampNeg .null) = some (vp_cell (gC G 4) (N, .inr (.inr (.inr (.inr (fun j => (va_up f i.toNatClampNeg none j).map (ta G)))))))
  rw [vp_cell_q, vp_cell_q, arrV_store]
  congr 2
  funext q
  by_cases hq : q = i.toNatClampNeg
  · subst hq
    simp [updV, va_up, va_rf]
  · simp [updV, va_up, hq]
/-- the empty row of the library, compared -/
theorem aw_getsE {idx : Nat} (hd : DN M.2.1 pc (.getstatic idx) 3 pc2) (hc : Cond.fieldLink M.1.cls idx "java/util/ArrayList" "DEFAULTCAPACITY_EMPTY_ELEMENTDATA" "[Ljava/lang/Object;" ∈ gw) (kk : AW G M d mc ms F pc2 lv (.ref 0 :: st) w k n) : AW G M d mc ms F pc lv st w k n := by
  obtain ⟨hd, rfl⟩ := hd
  intro p l e R s m args below meth c H locs ls X hR hl
  exact va_gets X.1 X.2.1 X.2.2.2.2.2.2.2.2.1.2.2.1 X.2.2.2.2.2.2.2.2.2.1 X.2.2.2.1 (X.2.2.2.2.1 _ hc) (fun _ h => h) hd (kk p l e R s m args below meth c H locs ls X hR hl)
theorem aw_acmp_eq {a b : Nat} (hd : BR M.2.1 pc (.if_acmp .eq) tgt pc2) (hab : a = b) (kk : AW G M d mc ms F tgt lv st w k n) : AW G M d mc ms F pc lv (.ref b :: .ref a :: st) w k n := by
  obtain ⟨off, hd, ht, rfl⟩ := hd
  subst hab
  exact fun p l e R s m args below meth c H locs ls X hR hl => lv_acmp_eq (rx := some (ta G a)) (ry := some (ta G a)) X.1 X.2.1 hd ht (fun _ => kk p l e R s m args below meth c H locs ls X hR hl) (fun q => absurd rfl q)
theorem aw_acmp_ne {a b : Nat} (hd : BR M.2.1 pc (.if_acmp .ne) tgt pc2) (hab : a = b) (kk : AW G M d mc ms F pc2 lv st w k n) : AW G M d mc ms F pc lv (.ref b :: .ref a :: st) w k n := by
  obtain ⟨off, hd, ht, rfl⟩ := hd
  subst hab
  exact fun p l e R s m args below meth c H locs ls X hR hl => lv_acmp_ne (rx := some (ta G a)) (ry := some (ta G a)) X.1 X.2.1 hd ht (fun q => absurd rfl q) (fun _ => kk p l e R s m args below meth c H locs ls X hR hl)
theorem aw_cast {idx a ci : Nat} {fs : List Value} {q : vw_C} (hd : DN M.2.1 pc (.checkcast idx) 3 pc2) (ha : w.2 a = some (.inr (ci, fs))) (hq : cls[ci]? = some q) (hc : Cond.classLink M.1.cls idx q.1 ∈ gw) (kk : AW G M d mc ms F pc2 lv (.ref a :: st) w k n) : AW G M d mc ms F pc lv (.ref a :: st) w k n := by
  obtain ⟨hd, rfl⟩ := hd
  intro p l e R s m args below meth c H locs ls X hR hl
  have hK := X.2.2.2.2.2.2.2.2.1
  exact va_castS X.1 X.2.1 X.2.2.2.1 (X.2.2.2.2.1 _ hc) (hK.1.1 ci q hq).2 (va_recv hK.1 (hR.at ha) hq (q0 := 0) rfl) hd (kk p l e R s m args below meth c H locs ls X hR hl)
end RUC
end
section
section RUN7
variable {G : aG} {M : MI} {d mc ms : Nat} {F : FT} {pc pc2 tgt : Nat} {lv lv2 : List (Nat × Value)} {st : List Value} {w : aH} {k n : Nat} {nx : Nat} {h : Nat → Option aC}
abbrev gcN : MethodName := ⟨"java/lang/Object", "getClass", "()Ljava/lang/Class;"⟩
theorem gc_sel : Cond.selects "[Ljava/lang/Object;" gcN gcN ∈ gw := by decide +kernel
theorem gc_ins : Cond.instanceMethod gcN ∈ gw := by decide +kernel
theorem gc_nat : Cond.native gcN ∈ gw := by decide +kernel
theorem aw_getClass {idx a N : Nat} {f : Nat → Option Nat} (hd : DN M.2.1 pc (.invokevirtual idx) 3 pc2) (hc : Cond.methodLink M.1.cls idx gcN ∈ gw) (ha : w.2 a = some (cO N f)) (hdd : 1 ≤ d) (hst : (st.map fun v => v.category).sum ≤ 8) (kk : AW G M d mc ms F pc2 lv (.ref 2 :: st) w k n) : AW G M d mc ms F pc lv (.ref a :: st) w k n := by
  obtain ⟨hd, rfl⟩ := hd
  intro p l e R s m args below meth c H locs ls X hR hl
  have hK := X.2.2.2.2.2.2.2.2.1
  have hts := X.2.2.2.2.1
  have hRm := X.2.2.2.2.2.2.2.2.2.2
  obtain ⟨-, -, -, -, -, g4⟩ := (hK.1.2 4 _ rfl).2
  exact va_getC X.1 X.2.1 (by rw [X.2.2.1]; exact hl.1.symm) (C := "[Ljava/lang/Object;") (mi := gM G) X.2.2.2.1 (hts _ hc) (va_Dc.use hK.2.2.2.2.2.2.1) (hts _ gc_sel) (hts _ gc_ins) (hts _ gc_nat) hK.2.2.2.2.1 ⟨_, (hR.2.2 a _ ha).2.2, rfl, g4⟩ (Nat.le_trans hdd hRm.1) (by rw [tv_cats]; have := hRm.2.1; omega) hd (kk p l e R s m args below meth c H locs ls X hR hl)
theorem aw_ldcM {idx : Nat} (hd : DN M.2.1 pc (.ldc idx) 2 pc2) (hc : Cond.classLink M.1.cls idx "[Ljava/lang/Object;" ∈ gw) (kk : AW G M d mc ms F pc2 lv (.ref 2 :: st) w k n) : AW G M d mc ms F pc lv st w k n := by
  obtain ⟨hd, rfl⟩ := hd
  intro p l e R s m args below meth c H locs ls X hR hl
  exact va_ldcM X.1 X.2.1 X.2.2.2.1 (X.2.2.2.2.1 _ hc) X.2.2.2.2.2.2.2.2.1.2.2.2.2.1 hd (kk p l e R s m args below meth c H locs ls X hR hl)
theorem ac_nat : Cond.native arraycopyName ∈ gw := by decide +kernel
theorem ac_sta : Cond.static arraycopyName ∈ gw := by decide +kernel
theorem ac_ini : Cond.initialized "java/lang/System" ∈ gw := by decide +kernel
/-- all of one row of references, into the beginning of another -/
theorem aw_acopy {idx a b N0 N1 C : Nat} {f g : Nat → Option Nat} {q : vw_C} {ci : Nat} (hd : DN M.2.1 pc (.invokestatic idx) 3 pc2) (hc : Cond.methodLink M.1.cls idx arraycopyName ∈ gw) (ha : h a = some (cO N0 f)) (hb : h b = some (cO N1 g)) (hC0 : C ≤ N0) (hC1 : C ≤ N1) (hCs : C ≤ 1000000) (hq : cls[ci]? = some q) (hcast : Cond.castable q.1 "java/lang/Object" ∈ nws) (hel : ∀ i : Nat, i < C → ∀ y : Nat, f i = some y → ∃ fs, h y = some (.inr (ci, fs))) (hdd : 1 ≤ d) (hst : (st.map fun v => v.category).sum ≤ 8)
    (kk : AW G M d mc ms F pc2 lv st (nx, hset h b (cO N1 (va_cpy f g 0 0 C))) k n) : AW G M d mc ms F pc lv (.int (nI C) :: .int 0 :: .ref b :: .int 0 :: .ref a :: st) (nx, h) k n := by
  obtain ⟨hd, rfl⟩ := hd
  intro p l e R s m args below meth c H locs ls X hR hl
  have hK := X.2.2.2.2.2.2.2.2.1
  have hS := X.2.2.2.2.2.2.2.2.2.1
  have hts := X.2.2.2.2.1
  have hRm := X.2.2.2.2.2.2.2.2.2.2
  have hc0 : H[ta G a]? = some (vp_cell (gC G 4) (N0, .inr (.inr (.inr (.inr (fun j => (f j).map (ta G))))))) := (hR.2.2 a _ ha).2.2
  have hc1 : H[ta G b]? = some (vp_cell (gC G 4) (N1, .inr (.inr (.inr (.inr (fun j => (g j).map (ta G))))))) := (hR.2.2 b _ hb).2.2
  obtain ⟨-, k0, hk0, cm0, hkk0⟩ := (hK.1.2 4 _ rfl).1 N0 (fun j => va_rf ((f j).map (ta G)))
  have z0 : (0 : Int32).toNatClampNeg = 0 := rfl
  have zC : (nI C).toNatClampNeg = C := nI_clamp (by omega)
  have iC : (nI C).toInt = (C : Int) := nI_toInt (by omega)
  intro T hT XT
  obtain ⟨vm', X', step⟩ := XT.arraycopy X.1 X.2.2.2.1 (hts _ hc) (hts _ ac_nat) (hts _ ac_sta) (hts _ ac_ini) (src := ta G a) (dst := ta G b) (cs := vp_cell (gC G 4) (N0, .inr (.inr (.inr (.inr (fun j => (f j).map (ta G))))))) (cd := vp_cell (gC G 4) (N1, .inr (.inr (.inr (.inr (fun j => (g j).map (ta G))))))) (srcPos := 0) (destPos := 0) (n := nI C) (by rw [hT]; exact hc0) (by rw [hT]; exact hc1)
    (fun _ h => by cases h) (fun _ h => by cases h) (fun h => by cases h) (fun h => by cases h) hk0 hk0 hkk0 hkk0 rfl (by decide) (by decide) (nI_pos (by omega))
    (by rw [iC]; show ¬ (0 : Int) + _ > ((arrV _ N0 (fun j => va_rf ((f j).map (ta G)))).slots.size : Int); rw [arrV_size]; omega)
    (by rw [iC]; show ¬ (0 : Int) + _ > ((arrV _ N1 (fun j => va_rf ((g j).map (ta G)))).slots.size : Int); rw [arrV_size]; omega)
    (fun vm₁ hal i hi => by
      rw [zC] at hi
      have e1 : (vp_cell (gC G 4) (N0, .inr (.inr (.inr (.inr (fun j => (f j).map (ta G))))))).slots.getD ((0 : Int32).toNatClampNeg + i) .null = va_rf ((f i).map (ta G)) := by
        show (arrV (gC G 4) N0 (fun j => va_rf ((f j).map (ta G)))).slots.getD _ _ = _
        rw [z0, Nat.zero_add, Array.getD_eq_getD_getElem?, arrV_read _ _ (by omega)]
        rfl
      rw [e1]
      cases hy : f i with
      | none => exact ⟨rfl, trivial⟩
      | some y =>
        obtain ⟨fs, hfs⟩ := hel i hi y hy
        obtain ⟨cellV, g1, g2, g3⟩ := va_recv hK.1 (hR.at (w := (nx, h)) hfs) hq (q0 := 0) rfl
        obtain ⟨kC, hkC, -⟩ := Vm.findClass_spec g3
        obtain ⟨kA, comp, r1, r2, r3, -⟩ := (hK.1.2 4 _ rfl).2
        cases hk0.symm.trans r1
        cases hkk0.symm.trans r2
        obtain ⟨kE, hkE, -⟩ := Vm.findClass_spec r3
        obtain ⟨kC', hkC', -⟩ := hal.2.2 _ _ hkC
        obtain ⟨kE', hkE', -⟩ := hal.2.2 _ _ hkE
        obtain ⟨c0, t0, f1, f2, f3⟩ := Cond.castable_spec (va_Nw.use (A := args) rfl (hK.2.1 _ hcast))
        cases f1.symm.trans g3
        cases f2.symm.trans r3
        refine ⟨rfl, cellV, (show T.heap[ta G y]? = some cellV by rw [hT]; exact g1), (fun q h => by rw [h] at g2; cases g2), ⟨kC', hkC'⟩, ⟨kE', hkE'⟩, ?_⟩
        show vm₁.assignable _ _ = true
        rw [hal.assignable]
        exact f3)
    (g := F0 m pc ls (.int (nI C) :: .int 0 :: .ref (ta G b) :: .int 0 :: .ref (ta G a) :: st.map (tv G))) rfl (by show ls.size = _; rw [hl.1, X.2.2.1]) (rest := st.map (tv G)) rfl (by rw [X.2.1]; exact hd) (Nat.le_trans hdd hRm.1) (by show 2 * 0 + _ + _ ≤ _; rw [tv_cats]; have hw : nativeFrameWords "java/lang/System" "arraycopy" 5 ≤ 20 := (by decide); have := hRm.2.1; omega)
  have e1 : copied (vp_cell (gC G 4) (N0, .inr (.inr (.inr (.inr (fun j => (f j).map (ta G))))))) (vp_cell (gC G 4) (N1, .inr (.inr (.inr (.inr (fun j => (g j).map (ta G))))))) 0 0 (nI C) = vp_cell (gC G 4) (N1, .inr (.inr (.inr (.inr (va_cpy (fun j => (f j).map (ta G)) (fun j => (g j).map (ta G)) (0 : Int32).toNatClampNeg (0 : Int32).toNatClampNeg (nI C).toNatClampNeg))))) := by
    rw [vp_cell_q, vp_cell_q, vp_cell_q]
    exact va_copied (fun z => va_rf z) (gC G 4) (gC G 4) (fun j => (f j).map (ta G)) (fun j => (g j).map (ta G)) (by rw [zC, z0]; omega)
  have e2 : va_cpy (fun j => (f j).map (ta G)) (fun j => (g j).map (ta G)) (0 : Int32).toNatClampNeg (0 : Int32).toNatClampNeg (nI C).toNatClampNeg = fun j => (va_cpy f g 0 0 C j).map (ta G) := by
    rw [zC, z0]
    funext j
    simp only [va_cpy]
    split <;> rfl
  rw [e2] at e1
  rw [e1] at X' step
  have hlb : ta G b < H.size := (Array.getElem?_eq_some_iff.mp hc1).1
  have oq : ∀ q : Nat, q ≠ ta G b → ((T.setVm vm').setCell (ta G b) (vp_cell (gC G 4) (N1, .inr (.inr (.inr (.inr (fun j => (va_cpy f g 0 0 C j).map (ta G)))))))).heap[q]? = H[q]? := fun q hq => by rw [heapAt_setCell_ne _ (Ne.symm hq)]; show T.heap[q]? = _; rw [hT]
  obtain ⟨t, a1, b1⟩ := kk p l e R s m args below meth c _ _ ls (axS X ⟨by rw [size_setCell]; show _ ≤ T.heap.size; rw [hT]; exact hS.1, fun q g1 g2 => by
      rw [oq q (fun e => g2 (by rw [e]; exact ta_A (hR.ge hb)))]
      exact hS.2.1 q g1 g2, fun q hq => by
      rcases List.mem_append.mp hq with h | h
      · exact hS.2.2 q h
      · obtain ⟨z, -, hz⟩ := List.mem_map.mp h
        rw [← hz]
        exact ta_A (hR.ge hb)⟩) (Rel.set hR hb (by rw [size_setCell]; show T.heap.size = _; rw [hT]) oq (by
      show _ = some (vp_cell _ _)
      rw [heapAt_setCell_self _ (by show _ < T.heap.size; rw [hT]; exact hlb)]
      rfl)) hl _ rfl X'
  exact ⟨t, step t a1, b1⟩
end RUN7
end
section
theorem i_vc : Claimed_1_1 ∧ Claimed_1_2 := sorry
end
