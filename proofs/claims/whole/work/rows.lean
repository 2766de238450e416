section
-- ===== PART A: goes FIRST, ahead of the names: the tables' words, and 'selects' of the private methods out of them =====
/-- a private method of a class that the tables say can be made, by its rows of tables_1 -/
def lw_okq (q : MethodName × Nat) : Prop := (q.1.cls ≠ "java/lang/invoke/MethodHandle" ∧ q.1.cls ≠ "java/lang/invoke/VarHandle") ∧ Cond.instantiable q.1.cls q.2 ∈ tables_1 ∧ Cond.privateMethod q.1 ∈ tables_1 ∧ Cond.instanceMethod q.1 ∈ tables_1
theorem lw_p0 : lw_okq (⟨"java/util/ArrayList", "add", "(Ljava/lang/Object;[Ljava/lang/Object;I)V"⟩, 3) := ⟨⟨by decide +kernel, by decide +kernel⟩, List.mem_of_getElem? (i := 71) (by decide +kernel), List.mem_of_getElem? (i := 377) (by decide +kernel), List.mem_of_getElem? (i := 378) (by decide +kernel)⟩
theorem lw_p1 : lw_okq (⟨"java/util/ArrayList", "grow", "()[Ljava/lang/Object;"⟩, 3) := ⟨⟨by decide +kernel, by decide +kernel⟩, List.mem_of_getElem? (i := 71) (by decide +kernel), List.mem_of_getElem? (i := 381) (by decide +kernel), List.mem_of_getElem? (i := 382) (by decide +kernel)⟩
theorem lw_p2 : lw_okq (⟨"java/util/ArrayList", "grow", "(I)[Ljava/lang/Object;"⟩, 3) := ⟨⟨by decide +kernel, by decide +kernel⟩, List.mem_of_getElem? (i := 71) (by decide +kernel), List.mem_of_getElem? (i := 385) (by decide +kernel), List.mem_of_getElem? (i := 386) (by decide +kernel)⟩
theorem lw_p3 : lw_okq (⟨"StreamPair$End", "sendNext", "(II)V"⟩, 14) := ⟨⟨by decide +kernel, by decide +kernel⟩, List.mem_of_getElem? (i := 110) (by decide +kernel), List.mem_of_getElem? (i := 468) (by decide +kernel), List.mem_of_getElem? (i := 469) (by decide +kernel)⟩
theorem lw_p4 : lw_okq (⟨"StreamPair$End", "send", "(III)V"⟩, 14) := ⟨⟨by decide +kernel, by decide +kernel⟩, List.mem_of_getElem? (i := 110) (by decide +kernel), List.mem_of_getElem? (i := 472) (by decide +kernel), List.mem_of_getElem? (i := 473) (by decide +kernel)⟩
theorem lw_p5 : lw_okq (⟨"StreamPair$End", "emit", "(IIIII)V"⟩, 14) := ⟨⟨by decide +kernel, by decide +kernel⟩, List.mem_of_getElem? (i := 110) (by decide +kernel), List.mem_of_getElem? (i := 489) (by decide +kernel), List.mem_of_getElem? (i := 490) (by decide +kernel)⟩
theorem lw_p6 : lw_okq (⟨"java/util/ArrayList", "fastRemove", "([Ljava/lang/Object;I)V"⟩, 3) := ⟨⟨by decide +kernel, by decide +kernel⟩, List.mem_of_getElem? (i := 71) (by decide +kernel), List.mem_of_getElem? (i := 527) (by decide +kernel), List.mem_of_getElem? (i := 528) (by decide +kernel)⟩
theorem lw_p7 : lw_okq (⟨"java/lang/Throwable", "fillInStackTrace", "(I)Ljava/lang/Throwable;"⟩, 6) := ⟨⟨by decide +kernel, by decide +kernel⟩, List.mem_of_getElem? (i := 623) (by decide +kernel), List.mem_of_getElem? (i := 621) (by decide +kernel), List.mem_of_getElem? (i := 622) (by decide +kernel)⟩
theorem lw_p8 : lw_okq (⟨"StreamPair", "sideOf", "(I)LStreamPair$End;"⟩, 6) := ⟨⟨by decide +kernel, by decide +kernel⟩, List.mem_of_getElem? (i := 30) (by decide +kernel), List.mem_of_getElem? (i := 698) (by decide +kernel), List.mem_of_getElem? (i := 699) (by decide +kernel)⟩
theorem lw_p9 : lw_okq (⟨"StreamPair$Supply", "makeRoom", "(I)V"⟩, 12) := ⟨⟨by decide +kernel, by decide +kernel⟩, List.mem_of_getElem? (i := 116) (by decide +kernel), List.mem_of_getElem? (i := 750) (by decide +kernel), List.mem_of_getElem? (i := 751) (by decide +kernel)⟩
theorem lw_p10 : lw_okq (⟨"StreamPair$End", "maySend", "()Z"⟩, 14) := ⟨⟨by decide +kernel, by decide +kernel⟩, List.mem_of_getElem? (i := 110) (by decide +kernel), List.mem_of_getElem? (i := 759) (by decide +kernel), List.mem_of_getElem? (i := 760) (by decide +kernel)⟩
theorem lw_p11 : lw_okq (⟨"StreamPair$End", "bytesToSend", "()I"⟩, 14) := ⟨⟨by decide +kernel, by decide +kernel⟩, List.mem_of_getElem? (i := 110) (by decide +kernel), List.mem_of_getElem? (i := 763) (by decide +kernel), List.mem_of_getElem? (i := 764) (by decide +kernel)⟩
theorem lw_p12 : lw_okq (⟨"StreamPair$End", "takesData", "()Z"⟩, 14) := ⟨⟨by decide +kernel, by decide +kernel⟩, List.mem_of_getElem? (i := 110) (by decide +kernel), List.mem_of_getElem? (i := 801) (by decide +kernel), List.mem_of_getElem? (i := 802) (by decide +kernel)⟩
theorem lw_p13 : lw_okq (⟨"StreamPair$End", "sendAck", "()V"⟩, 14) := ⟨⟨by decide +kernel, by decide +kernel⟩, List.mem_of_getElem? (i := 110) (by decide +kernel), List.mem_of_getElem? (i := 806) (by decide +kernel), List.mem_of_getElem? (i := 807) (by decide +kernel)⟩
theorem lw_p14 : lw_okq (⟨"StreamPair$End", "shut", "(I)V"⟩, 14) := ⟨⟨by decide +kernel, by decide +kernel⟩, List.mem_of_getElem? (i := 110) (by decide +kernel), List.mem_of_getElem? (i := 826) (by decide +kernel), List.mem_of_getElem? (i := 827) (by decide +kernel)⟩
theorem lw_p15 : lw_okq (⟨"StreamPair", "nextDue", "()LStreamPair$End;"⟩, 6) := ⟨⟨by decide +kernel, by decide +kernel⟩, List.mem_of_getElem? (i := 30) (by decide +kernel), List.mem_of_getElem? (i := 851) (by decide +kernel), List.mem_of_getElem? (i := 852) (by decide +kernel)⟩
def lw_privs_1 : List (MethodName × Nat) := [(⟨"java/util/ArrayList", "add", "(Ljava/lang/Object;[Ljava/lang/Object;I)V"⟩, 3), (⟨"java/util/ArrayList", "grow", "()[Ljava/lang/Object;"⟩, 3), (⟨"java/util/ArrayList", "grow", "(I)[Ljava/lang/Object;"⟩, 3), (⟨"StreamPair$End", "sendNext", "(II)V"⟩, 14), (⟨"StreamPair$End", "send", "(III)V"⟩, 14), (⟨"StreamPair$End", "emit", "(IIIII)V"⟩, 14), (⟨"java/util/ArrayList", "fastRemove", "([Ljava/lang/Object;I)V"⟩, 3), (⟨"java/lang/Throwable", "fillInStackTrace", "(I)Ljava/lang/Throwable;"⟩, 6), (⟨"StreamPair", "sideOf", "(I)LStreamPair$End;"⟩, 6), (⟨"StreamPair$Supply", "makeRoom", "(I)V"⟩, 12), (⟨"StreamPair$End", "maySend", "()Z"⟩, 14), (⟨"StreamPair$End", "bytesToSend", "()I"⟩, 14), (⟨"StreamPair$End", "takesData", "()Z"⟩, 14), (⟨"StreamPair$End", "sendAck", "()V"⟩, 14), (⟨"StreamPair$End", "shut", "(I)V"⟩, 14), (⟨"StreamPair", "nextDue", "()LStreamPair$End;"⟩, 6)]
theorem lw_r1 : ∀ q ∈ lw_privs_1, lw_okq q := List.forall_mem_cons.mpr ⟨lw_p0, List.forall_mem_cons.mpr ⟨lw_p1, List.forall_mem_cons.mpr ⟨lw_p2, List.forall_mem_cons.mpr ⟨lw_p3, List.forall_mem_cons.mpr ⟨lw_p4, List.forall_mem_cons.mpr ⟨lw_p5, List.forall_mem_cons.mpr ⟨lw_p6, List.forall_mem_cons.mpr ⟨lw_p7, List.forall_mem_cons.mpr ⟨lw_p8, List.forall_mem_cons.mpr ⟨lw_p9, List.forall_mem_cons.mpr ⟨lw_p10, List.forall_mem_cons.mpr ⟨lw_p11, List.forall_mem_cons.mpr ⟨lw_p12, List.forall_mem_cons.mpr ⟨lw_p13, List.forall_mem_cons.mpr ⟨lw_p14, List.forall_mem_cons.mpr ⟨lw_p15, fun _ h => absurd h List.not_mem_nil⟩⟩⟩⟩⟩⟩⟩⟩⟩⟩⟩⟩⟩⟩⟩⟩
theorem lw_p16 : lw_okq (⟨"StreamPair$Crowd", "lowered", "(I)I"⟩, 4) := ⟨⟨by decide +kernel, by decide +kernel⟩, List.mem_of_getElem? (i := 249) (by decide +kernel), List.mem_of_getElem? (i := 869) (by decide +kernel), List.mem_of_getElem? (i := 870) (by decide +kernel)⟩
theorem lw_p17 : lw_okq (⟨"StreamPair", "segmentOf", "(I)LStreamPair$Segment;"⟩, 6) := ⟨⟨by decide +kernel, by decide +kernel⟩, List.mem_of_getElem? (i := 30) (by decide +kernel), List.mem_of_getElem? (i := 881) (by decide +kernel), List.mem_of_getElem? (i := 882) (by decide +kernel)⟩
theorem lw_p18 : lw_okq (⟨"StreamPair$End", "isOfThisConnection", "(LStreamPair$Segment;)Z"⟩, 14) := ⟨⟨by decide +kernel, by decide +kernel⟩, List.mem_of_getElem? (i := 110) (by decide +kernel), List.mem_of_getElem? (i := 896) (by decide +kernel), List.mem_of_getElem? (i := 897) (by decide +kernel)⟩
theorem lw_p19 : lw_okq (⟨"StreamPair$End", "heedInListen", "(LStreamPair$Segment;)I"⟩, 14) := ⟨⟨by decide +kernel, by decide +kernel⟩, List.mem_of_getElem? (i := 110) (by decide +kernel), List.mem_of_getElem? (i := 913) (by decide +kernel), List.mem_of_getElem? (i := 914) (by decide +kernel)⟩
theorem lw_p20 : lw_okq (⟨"StreamPair$End", "heedSyn", "(LStreamPair$Segment;)V"⟩, 14) := ⟨⟨by decide +kernel, by decide +kernel⟩, List.mem_of_getElem? (i := 110) (by decide +kernel), List.mem_of_getElem? (i := 921) (by decide +kernel), List.mem_of_getElem? (i := 922) (by decide +kernel)⟩
theorem lw_p21 : lw_okq (⟨"StreamPair$End", "heedInSynSent", "(LStreamPair$Segment;)I"⟩, 14) := ⟨⟨by decide +kernel, by decide +kernel⟩, List.mem_of_getElem? (i := 110) (by decide +kernel), List.mem_of_getElem? (i := 956) (by decide +kernel), List.mem_of_getElem? (i := 957) (by decide +kernel)⟩
theorem lw_p22 : lw_okq (⟨"StreamPair$Pace", "measure", "(J)V"⟩, 9) := ⟨⟨by decide +kernel, by decide +kernel⟩, List.mem_of_getElem? (i := 207) (by decide +kernel), List.mem_of_getElem? (i := 970) (by decide +kernel), List.mem_of_getElem? (i := 971) (by decide +kernel)⟩
theorem lw_p23 : lw_okq (⟨"StreamPair$End", "heedInOthers", "(LStreamPair$Segment;)I"⟩, 14) := ⟨⟨by decide +kernel, by decide +kernel⟩, List.mem_of_getElem? (i := 110) (by decide +kernel), List.mem_of_getElem? (i := 990) (by decide +kernel), List.mem_of_getElem? (i := 991) (by decide +kernel)⟩
theorem lw_p24 : lw_okq (⟨"StreamPair$End", "admit", "(LStreamPair$Segment;)I"⟩, 14) := ⟨⟨by decide +kernel, by decide +kernel⟩, List.mem_of_getElem? (i := 110) (by decide +kernel), List.mem_of_getElem? (i := 994) (by decide +kernel), List.mem_of_getElem? (i := 995) (by decide +kernel)⟩
theorem lw_p25 : lw_okq (⟨"StreamPair$End", "refuse", "(LStreamPair$Segment;)I"⟩, 14) := ⟨⟨by decide +kernel, by decide +kernel⟩, List.mem_of_getElem? (i := 110) (by decide +kernel), List.mem_of_getElem? (i := 1015) (by decide +kernel), List.mem_of_getElem? (i := 1016) (by decide +kernel)⟩
theorem lw_p26 : lw_okq (⟨"StreamPair$End", "heedProgress", "(I)V"⟩, 14) := ⟨⟨by decide +kernel, by decide +kernel⟩, List.mem_of_getElem? (i := 110) (by decide +kernel), List.mem_of_getElem? (i := 1019) (by decide +kernel), List.mem_of_getElem? (i := 1020) (by decide +kernel)⟩
theorem lw_p27 : lw_okq (⟨"StreamPair$End", "isSameAgain", "(LStreamPair$Segment;)Z"⟩, 14) := ⟨⟨by decide +kernel, by decide +kernel⟩, List.mem_of_getElem? (i := 110) (by decide +kernel), List.mem_of_getElem? (i := 1028) (by decide +kernel), List.mem_of_getElem? (i := 1029) (by decide +kernel)⟩
theorem lw_p28 : lw_okq (⟨"StreamPair$End", "heedSameAgain", "()V"⟩, 14) := ⟨⟨by decide +kernel, by decide +kernel⟩, List.mem_of_getElem? (i := 110) (by decide +kernel), List.mem_of_getElem? (i := 1033) (by decide +kernel), List.mem_of_getElem? (i := 1034) (by decide +kernel)⟩
theorem lw_p29 : lw_okq (⟨"StreamPair$End", "heedWindow", "(LStreamPair$Segment;)V"⟩, 14) := ⟨⟨by decide +kernel, by decide +kernel⟩, List.mem_of_getElem? (i := 110) (by decide +kernel), List.mem_of_getElem? (i := 1049) (by decide +kernel), List.mem_of_getElem? (i := 1050) (by decide +kernel)⟩
theorem lw_p30 : lw_okq (⟨"StreamPair$End", "heedFinAcknowledged", "()V"⟩, 14) := ⟨⟨by decide +kernel, by decide +kernel⟩, List.mem_of_getElem? (i := 110) (by decide +kernel), List.mem_of_getElem? (i := 1061) (by decide +kernel), List.mem_of_getElem? (i := 1062) (by decide +kernel)⟩
theorem lw_p31 : lw_okq (⟨"StreamPair$End", "takeIn", "(LStreamPair$Segment;)V"⟩, 14) := ⟨⟨by decide +kernel, by decide +kernel⟩, List.mem_of_getElem? (i := 110) (by decide +kernel), List.mem_of_getElem? (i := 1065) (by decide +kernel), List.mem_of_getElem? (i := 1066) (by decide +kernel)⟩
def lw_privs_2 : List (MethodName × Nat) := [(⟨"StreamPair$Crowd", "lowered", "(I)I"⟩, 4), (⟨"StreamPair", "segmentOf", "(I)LStreamPair$Segment;"⟩, 6), (⟨"StreamPair$End", "isOfThisConnection", "(LStreamPair$Segment;)Z"⟩, 14), (⟨"StreamPair$End", "heedInListen", "(LStreamPair$Segment;)I"⟩, 14), (⟨"StreamPair$End", "heedSyn", "(LStreamPair$Segment;)V"⟩, 14), (⟨"StreamPair$End", "heedInSynSent", "(LStreamPair$Segment;)I"⟩, 14), (⟨"StreamPair$Pace", "measure", "(J)V"⟩, 9), (⟨"StreamPair$End", "heedInOthers", "(LStreamPair$Segment;)I"⟩, 14), (⟨"StreamPair$End", "admit", "(LStreamPair$Segment;)I"⟩, 14), (⟨"StreamPair$End", "refuse", "(LStreamPair$Segment;)I"⟩, 14), (⟨"StreamPair$End", "heedProgress", "(I)V"⟩, 14), (⟨"StreamPair$End", "isSameAgain", "(LStreamPair$Segment;)Z"⟩, 14), (⟨"StreamPair$End", "heedSameAgain", "()V"⟩, 14), (⟨"StreamPair$End", "heedWindow", "(LStreamPair$Segment;)V"⟩, 14), (⟨"StreamPair$End", "heedFinAcknowledged", "()V"⟩, 14), (⟨"StreamPair$End", "takeIn", "(LStreamPair$Segment;)V"⟩, 14)]
theorem lw_r2 : ∀ q ∈ lw_privs_2, lw_okq q := List.forall_mem_cons.mpr ⟨lw_p16, List.forall_mem_cons.mpr ⟨lw_p17, List.forall_mem_cons.mpr ⟨lw_p18, List.forall_mem_cons.mpr ⟨lw_p19, List.forall_mem_cons.mpr ⟨lw_p20, List.forall_mem_cons.mpr ⟨lw_p21, List.forall_mem_cons.mpr ⟨lw_p22, List.forall_mem_cons.mpr ⟨lw_p23, List.forall_mem_cons.mpr ⟨lw_p24, List.forall_mem_cons.mpr ⟨lw_p25, List.forall_mem_cons.mpr ⟨lw_p26, List.forall_mem_cons.mpr ⟨lw_p27, List.forall_mem_cons.mpr ⟨lw_p28, List.forall_mem_cons.mpr ⟨lw_p29, List.forall_mem_cons.mpr ⟨lw_p30, List.forall_mem_cons.mpr ⟨lw_p31, fun _ h => absurd h List.not_mem_nil⟩⟩⟩⟩⟩⟩⟩⟩⟩⟩⟩⟩⟩⟩⟩⟩
theorem lw_p32 : lw_okq (⟨"StreamPair$Arrivals", "takeWithoutGap", "()V"⟩, 8) := ⟨⟨by decide +kernel, by decide +kernel⟩, List.mem_of_getElem? (i := 168) (by decide +kernel), List.mem_of_getElem? (i := 1077) (by decide +kernel), List.mem_of_getElem? (i := 1078) (by decide +kernel)⟩
theorem lw_p33 : lw_okq (⟨"StreamPair$End", "answer", "(LStreamPair$Segment;)V"⟩, 14) := ⟨⟨by decide +kernel, by decide +kernel⟩, List.mem_of_getElem? (i := 110) (by decide +kernel), List.mem_of_getElem? (i := 1085) (by decide +kernel), List.mem_of_getElem? (i := 1086) (by decide +kernel)⟩
theorem lw_p34 : lw_okq (⟨"StreamPairModel", "fail", "(I)I"⟩, 54) := ⟨⟨by decide +kernel, by decide +kernel⟩, List.mem_of_getElem? (i := 1164) (by decide +kernel), List.mem_of_getElem? (i := 1351) (by decide +kernel), List.mem_of_getElem? (i := 1352) (by decide +kernel)⟩
theorem lw_p35 : lw_okq (⟨"StreamPairModel", "removed", "(I)V"⟩, 54) := ⟨⟨by decide +kernel, by decide +kernel⟩, List.mem_of_getElem? (i := 1164) (by decide +kernel), List.mem_of_getElem? (i := 1363) (by decide +kernel), List.mem_of_getElem? (i := 1364) (by decide +kernel)⟩
theorem lw_p36 : lw_okq (⟨"StreamPairModel", "fresh", "(II)V"⟩, 54) := ⟨⟨by decide +kernel, by decide +kernel⟩, List.mem_of_getElem? (i := 1164) (by decide +kernel), List.mem_of_getElem? (i := 1367) (by decide +kernel), List.mem_of_getElem? (i := 1368) (by decide +kernel)⟩
theorem lw_p37 : lw_okq (⟨"StreamPairModel", "send", "(IIIII)V"⟩, 54) := ⟨⟨by decide +kernel, by decide +kernel⟩, List.mem_of_getElem? (i := 1164) (by decide +kernel), List.mem_of_getElem? (i := 1371) (by decide +kernel), List.mem_of_getElem? (i := 1372) (by decide +kernel)⟩
theorem lw_p38 : lw_okq (⟨"StreamPairModel", "freeRoom", "(I)I"⟩, 54) := ⟨⟨by decide +kernel, by decide +kernel⟩, List.mem_of_getElem? (i := 1164) (by decide +kernel), List.mem_of_getElem? (i := 1375) (by decide +kernel), List.mem_of_getElem? (i := 1376) (by decide +kernel)⟩
theorem lw_p39 : lw_okq (⟨"StreamPairModel", "written", "(IIIIIII)I"⟩, 54) := ⟨⟨by decide +kernel, by decide +kernel⟩, List.mem_of_getElem? (i := 1164) (by decide +kernel), List.mem_of_getElem? (i := 1382) (by decide +kernel), List.mem_of_getElem? (i := 1383) (by decide +kernel)⟩
theorem lw_p40 : lw_okq (⟨"StreamPairModel", "launched", "(II)I"⟩, 54) := ⟨⟨by decide +kernel, by decide +kernel⟩, List.mem_of_getElem? (i := 1164) (by decide +kernel), List.mem_of_getElem? (i := 1386) (by decide +kernel), List.mem_of_getElem? (i := 1387) (by decide +kernel)⟩
theorem lw_p41 : lw_okq (⟨"StreamPairModel", "free", "()I"⟩, 54) := ⟨⟨by decide +kernel, by decide +kernel⟩, List.mem_of_getElem? (i := 1164) (by decide +kernel), List.mem_of_getElem? (i := 1390) (by decide +kernel), List.mem_of_getElem? (i := 1391) (by decide +kernel)⟩
theorem lw_p42 : lw_okq (⟨"StreamPairModel", "port", "(I)I"⟩, 54) := ⟨⟨by decide +kernel, by decide +kernel⟩, List.mem_of_getElem? (i := 1164) (by decide +kernel), List.mem_of_getElem? (i := 1394) (by decide +kernel), List.mem_of_getElem? (i := 1395) (by decide +kernel)⟩
theorem lw_p43 : lw_okq (⟨"StreamPairModel", "put", "(IIII)V"⟩, 54) := ⟨⟨by decide +kernel, by decide +kernel⟩, List.mem_of_getElem? (i := 1164) (by decide +kernel), List.mem_of_getElem? (i := 1399) (by decide +kernel), List.mem_of_getElem? (i := 1400) (by decide +kernel)⟩
theorem lw_p44 : lw_okq (⟨"StreamPairModel", "sealed", "(I)V"⟩, 54) := ⟨⟨by decide +kernel, by decide +kernel⟩, List.mem_of_getElem? (i := 1164) (by decide +kernel), List.mem_of_getElem? (i := 1404) (by decide +kernel), List.mem_of_getElem? (i := 1405) (by decide +kernel)⟩
theorem lw_p45 : lw_okq (⟨"StreamPairModel", "checksum", "(I)I"⟩, 54) := ⟨⟨by decide +kernel, by decide +kernel⟩, List.mem_of_getElem? (i := 1164) (by decide +kernel), List.mem_of_getElem? (i := 1408) (by decide +kernel), List.mem_of_getElem? (i := 1409) (by decide +kernel)⟩
theorem lw_p46 : lw_okq (⟨"StreamPairModel", "here", "(II)I"⟩, 54) := ⟨⟨by decide +kernel, by decide +kernel⟩, List.mem_of_getElem? (i := 1164) (by decide +kernel), List.mem_of_getElem? (i := 1414) (by decide +kernel), List.mem_of_getElem? (i := 1415) (by decide +kernel)⟩
theorem lw_p47 : lw_okq (⟨"StreamPairModel", "output", "(I)Z"⟩, 54) := ⟨⟨by decide +kernel, by decide +kernel⟩, List.mem_of_getElem? (i := 1164) (by decide +kernel), List.mem_of_getElem? (i := 1430) (by decide +kernel), List.mem_of_getElem? (i := 1431) (by decide +kernel)⟩
def lw_privs_3 : List (MethodName × Nat) := [(⟨"StreamPair$Arrivals", "takeWithoutGap", "()V"⟩, 8), (⟨"StreamPair$End", "answer", "(LStreamPair$Segment;)V"⟩, 14), (⟨"StreamPairModel", "fail", "(I)I"⟩, 54), (⟨"StreamPairModel", "removed", "(I)V"⟩, 54), (⟨"StreamPairModel", "fresh", "(II)V"⟩, 54), (⟨"StreamPairModel", "send", "(IIIII)V"⟩, 54), (⟨"StreamPairModel", "freeRoom", "(I)I"⟩, 54), (⟨"StreamPairModel", "written", "(IIIIIII)I"⟩, 54), (⟨"StreamPairModel", "launched", "(II)I"⟩, 54), (⟨"StreamPairModel", "free", "()I"⟩, 54), (⟨"StreamPairModel", "port", "(I)I"⟩, 54), (⟨"StreamPairModel", "put", "(IIII)V"⟩, 54), (⟨"StreamPairModel", "sealed", "(I)V"⟩, 54), (⟨"StreamPairModel", "checksum", "(I)I"⟩, 54), (⟨"StreamPairModel", "here", "(II)I"⟩, 54), (⟨"StreamPairModel", "output", "(I)Z"⟩, 54)]
theorem lw_r3 : ∀ q ∈ lw_privs_3, lw_okq q := List.forall_mem_cons.mpr ⟨lw_p32, List.forall_mem_cons.mpr ⟨lw_p33, List.forall_mem_cons.mpr ⟨lw_p34, List.forall_mem_cons.mpr ⟨lw_p35, List.forall_mem_cons.mpr ⟨lw_p36, List.forall_mem_cons.mpr ⟨lw_p37, List.forall_mem_cons.mpr ⟨lw_p38, List.forall_mem_cons.mpr ⟨lw_p39, List.forall_mem_cons.mpr ⟨lw_p40, List.forall_mem_cons.mpr ⟨lw_p41, List.forall_mem_cons.mpr ⟨lw_p42, List.forall_mem_cons.mpr ⟨lw_p43, List.forall_mem_cons.mpr ⟨lw_p44, List.forall_mem_cons.mpr ⟨lw_p45, List.forall_mem_cons.mpr ⟨lw_p46, List.forall_mem_cons.mpr ⟨lw_p47, fun _ h => absurd h List.not_mem_nil⟩⟩⟩⟩⟩⟩⟩⟩⟩⟩⟩⟩⟩⟩⟩⟩
theorem lw_p48 : lw_okq (⟨"StreamPairModel", "left", "(I)I"⟩, 54) := ⟨⟨by decide +kernel, by decide +kernel⟩, List.mem_of_getElem? (i := 1164) (by decide +kernel), List.mem_of_getElem? (i := 1434) (by decide +kernel), List.mem_of_getElem? (i := 1435) (by decide +kernel)⟩
theorem lw_p49 : lw_okq (⟨"StreamPairModel", "finNumber", "(I)I"⟩, 54) := ⟨⟨by decide +kernel, by decide +kernel⟩, List.mem_of_getElem? (i := 1164) (by decide +kernel), List.mem_of_getElem? (i := 1438) (by decide +kernel), List.mem_of_getElem? (i := 1439) (by decide +kernel)⟩
theorem lw_p50 : lw_okq (⟨"StreamPairModel", "sendAck", "(I)V"⟩, 54) := ⟨⟨by decide +kernel, by decide +kernel⟩, List.mem_of_getElem? (i := 1164) (by decide +kernel), List.mem_of_getElem? (i := 1447) (by decide +kernel), List.mem_of_getElem? (i := 1448) (by decide +kernel)⟩
theorem lw_p51 : lw_okq (⟨"StreamPairModel", "finished", "(I)V"⟩, 54) := ⟨⟨by decide +kernel, by decide +kernel⟩, List.mem_of_getElem? (i := 1164) (by decide +kernel), List.mem_of_getElem? (i := 1455) (by decide +kernel), List.mem_of_getElem? (i := 1456) (by decide +kernel)⟩
theorem lw_p52 : lw_okq (⟨"StreamPairModel", "broken", "(II)V"⟩, 54) := ⟨⟨by decide +kernel, by decide +kernel⟩, List.mem_of_getElem? (i := 1164) (by decide +kernel), List.mem_of_getElem? (i := 1463) (by decide +kernel), List.mem_of_getElem? (i := 1464) (by decide +kernel)⟩
theorem lw_p53 : lw_okq (⟨"StreamPairModel", "timer", "(I)V"⟩, 54) := ⟨⟨by decide +kernel, by decide +kernel⟩, List.mem_of_getElem? (i := 1164) (by decide +kernel), List.mem_of_getElem? (i := 1472) (by decide +kernel), List.mem_of_getElem? (i := 1473) (by decide +kernel)⟩
theorem lw_p54 : lw_okq (⟨"StreamPairModel", "least", "(I)I"⟩, 54) := ⟨⟨by decide +kernel, by decide +kernel⟩, List.mem_of_getElem? (i := 1164) (by decide +kernel), List.mem_of_getElem? (i := 1477) (by decide +kernel), List.mem_of_getElem? (i := 1478) (by decide +kernel)⟩
theorem lw_p55 : lw_okq (⟨"StreamPairModel", "noWay", "(I)Z"⟩, 54) := ⟨⟨by decide +kernel, by decide +kernel⟩, List.mem_of_getElem? (i := 1164) (by decide +kernel), List.mem_of_getElem? (i := 1485) (by decide +kernel), List.mem_of_getElem? (i := 1486) (by decide +kernel)⟩
theorem lw_p56 : lw_okq (⟨"StreamPairModel", "comes", "(II)V"⟩, 54) := ⟨⟨by decide +kernel, by decide +kernel⟩, List.mem_of_getElem? (i := 1164) (by decide +kernel), List.mem_of_getElem? (i := 1489) (by decide +kernel), List.mem_of_getElem? (i := 1490) (by decide +kernel)⟩
theorem lw_p57 : lw_okq (⟨"StreamPairModel", "header", "(II)Z"⟩, 54) := ⟨⟨by decide +kernel, by decide +kernel⟩, List.mem_of_getElem? (i := 1164) (by decide +kernel), List.mem_of_getElem? (i := 1493) (by decide +kernel), List.mem_of_getElem? (i := 1494) (by decide +kernel)⟩
theorem lw_p58 : lw_okq (⟨"StreamPairModel", "sound", "(I)Z"⟩, 54) := ⟨⟨by decide +kernel, by decide +kernel⟩, List.mem_of_getElem? (i := 1164) (by decide +kernel), List.mem_of_getElem? (i := 1497) (by decide +kernel), List.mem_of_getElem? (i := 1498) (by decide +kernel)⟩
theorem lw_p59 : lw_okq (⟨"StreamPairModel", "two", "(II)I"⟩, 54) := ⟨⟨by decide +kernel, by decide +kernel⟩, List.mem_of_getElem? (i := 1164) (by decide +kernel), List.mem_of_getElem? (i := 1501) (by decide +kernel), List.mem_of_getElem? (i := 1502) (by decide +kernel)⟩
theorem lw_p60 : lw_okq (⟨"StreamPairModel", "four", "(II)I"⟩, 54) := ⟨⟨by decide +kernel, by decide +kernel⟩, List.mem_of_getElem? (i := 1164) (by decide +kernel), List.mem_of_getElem? (i := 1505) (by decide +kernel), List.mem_of_getElem? (i := 1506) (by decide +kernel)⟩
theorem lw_p61 : lw_okq (⟨"StreamPairModel", "options", "(II)V"⟩, 54) := ⟨⟨by decide +kernel, by decide +kernel⟩, List.mem_of_getElem? (i := 1164) (by decide +kernel), List.mem_of_getElem? (i := 1509) (by decide +kernel), List.mem_of_getElem? (i := 1510) (by decide +kernel)⟩
theorem lw_p62 : lw_okq (⟨"StreamPairModel", "answer", "(I)V"⟩, 54) := ⟨⟨by decide +kernel, by decide +kernel⟩, List.mem_of_getElem? (i := 1164) (by decide +kernel), List.mem_of_getElem? (i := 1513) (by decide +kernel), List.mem_of_getElem? (i := 1514) (by decide +kernel)⟩
theorem lw_p63 : lw_okq (⟨"StreamPairModel", "listened", "(I)V"⟩, 54) := ⟨⟨by decide +kernel, by decide +kernel⟩, List.mem_of_getElem? (i := 1164) (by decide +kernel), List.mem_of_getElem? (i := 1517) (by decide +kernel), List.mem_of_getElem? (i := 1518) (by decide +kernel)⟩
def lw_privs_4 : List (MethodName × Nat) := [(⟨"StreamPairModel", "left", "(I)I"⟩, 54), (⟨"StreamPairModel", "finNumber", "(I)I"⟩, 54), (⟨"StreamPairModel", "sendAck", "(I)V"⟩, 54), (⟨"StreamPairModel", "finished", "(I)V"⟩, 54), (⟨"StreamPairModel", "broken", "(II)V"⟩, 54), (⟨"StreamPairModel", "timer", "(I)V"⟩, 54), (⟨"StreamPairModel", "least", "(I)I"⟩, 54), (⟨"StreamPairModel", "noWay", "(I)Z"⟩, 54), (⟨"StreamPairModel", "comes", "(II)V"⟩, 54), (⟨"StreamPairModel", "header", "(II)Z"⟩, 54), (⟨"StreamPairModel", "sound", "(I)Z"⟩, 54), (⟨"StreamPairModel", "two", "(II)I"⟩, 54), (⟨"StreamPairModel", "four", "(II)I"⟩, 54), (⟨"StreamPairModel", "options", "(II)V"⟩, 54), (⟨"StreamPairModel", "answer", "(I)V"⟩, 54), (⟨"StreamPairModel", "listened", "(I)V"⟩, 54)]
theorem lw_r4 : ∀ q ∈ lw_privs_4, lw_okq q := List.forall_mem_cons.mpr ⟨lw_p48, List.forall_mem_cons.mpr ⟨lw_p49, List.forall_mem_cons.mpr ⟨lw_p50, List.forall_mem_cons.mpr ⟨lw_p51, List.forall_mem_cons.mpr ⟨lw_p52, List.forall_mem_cons.mpr ⟨lw_p53, List.forall_mem_cons.mpr ⟨lw_p54, List.forall_mem_cons.mpr ⟨lw_p55, List.forall_mem_cons.mpr ⟨lw_p56, List.forall_mem_cons.mpr ⟨lw_p57, List.forall_mem_cons.mpr ⟨lw_p58, List.forall_mem_cons.mpr ⟨lw_p59, List.forall_mem_cons.mpr ⟨lw_p60, List.forall_mem_cons.mpr ⟨lw_p61, List.forall_mem_cons.mpr ⟨lw_p62, List.forall_mem_cons.mpr ⟨lw_p63, fun _ h => absurd h List.not_mem_nil⟩⟩⟩⟩⟩⟩⟩⟩⟩⟩⟩⟩⟩⟩⟩⟩
theorem lw_p64 : lw_okq (⟨"StreamPairModel", "known", "(I)V"⟩, 54) := ⟨⟨by decide +kernel, by decide +kernel⟩, List.mem_of_getElem? (i := 1164) (by decide +kernel), List.mem_of_getElem? (i := 1521) (by decide +kernel), List.mem_of_getElem? (i := 1522) (by decide +kernel)⟩
theorem lw_p65 : lw_okq (⟨"StreamPairModel", "follow", "(I)V"⟩, 54) := ⟨⟨by decide +kernel, by decide +kernel⟩, List.mem_of_getElem? (i := 1164) (by decide +kernel), List.mem_of_getElem? (i := 1525) (by decide +kernel), List.mem_of_getElem? (i := 1526) (by decide +kernel)⟩
theorem lw_p66 : lw_okq (⟨"StreamPairModel", "called", "(I)V"⟩, 54) := ⟨⟨by decide +kernel, by decide +kernel⟩, List.mem_of_getElem? (i := 1164) (by decide +kernel), List.mem_of_getElem? (i := 1529) (by decide +kernel), List.mem_of_getElem? (i := 1530) (by decide +kernel)⟩
theorem lw_p67 : lw_okq (⟨"StreamPairModel", "measured", "(II)V"⟩, 54) := ⟨⟨by decide +kernel, by decide +kernel⟩, List.mem_of_getElem? (i := 1164) (by decide +kernel), List.mem_of_getElem? (i := 1533) (by decide +kernel), List.mem_of_getElem? (i := 1534) (by decide +kernel)⟩
theorem lw_p68 : lw_okq (⟨"StreamPairModel", "admitted", "(I)Z"⟩, 54) := ⟨⟨by decide +kernel, by decide +kernel⟩, List.mem_of_getElem? (i := 1164) (by decide +kernel), List.mem_of_getElem? (i := 1543) (by decide +kernel), List.mem_of_getElem? (i := 1544) (by decide +kernel)⟩
theorem lw_p69 : lw_okq (⟨"StreamPairModel", "fits", "(I)Z"⟩, 54) := ⟨⟨by decide +kernel, by decide +kernel⟩, List.mem_of_getElem? (i := 1164) (by decide +kernel), List.mem_of_getElem? (i := 1547) (by decide +kernel), List.mem_of_getElem? (i := 1548) (by decide +kernel)⟩
theorem lw_p70 : lw_okq (⟨"StreamPairModel", "inside", "(II)Z"⟩, 54) := ⟨⟨by decide +kernel, by decide +kernel⟩, List.mem_of_getElem? (i := 1164) (by decide +kernel), List.mem_of_getElem? (i := 1551) (by decide +kernel), List.mem_of_getElem? (i := 1552) (by decide +kernel)⟩
theorem lw_p71 : lw_okq (⟨"StreamPairModel", "acknowledged", "(I)Z"⟩, 54) := ⟨⟨by decide +kernel, by decide +kernel⟩, List.mem_of_getElem? (i := 1164) (by decide +kernel), List.mem_of_getElem? (i := 1556) (by decide +kernel), List.mem_of_getElem? (i := 1557) (by decide +kernel)⟩
theorem lw_p72 : lw_okq (⟨"StreamPairModel", "grown", "(I)V"⟩, 54) := ⟨⟨by decide +kernel, by decide +kernel⟩, List.mem_of_getElem? (i := 1164) (by decide +kernel), List.mem_of_getElem? (i := 1560) (by decide +kernel), List.mem_of_getElem? (i := 1561) (by decide +kernel)⟩
theorem lw_p73 : lw_okq (⟨"StreamPairModel", "again", "(I)V"⟩, 54) := ⟨⟨by decide +kernel, by decide +kernel⟩, List.mem_of_getElem? (i := 1164) (by decide +kernel), List.mem_of_getElem? (i := 1564) (by decide +kernel), List.mem_of_getElem? (i := 1565) (by decide +kernel)⟩
theorem lw_p74 : lw_okq (⟨"StreamPairModel", "received", "(I)V"⟩, 54) := ⟨⟨by decide +kernel, by decide +kernel⟩, List.mem_of_getElem? (i := 1164) (by decide +kernel), List.mem_of_getElem? (i := 1568) (by decide +kernel), List.mem_of_getElem? (i := 1569) (by decide +kernel)⟩
theorem lw_p75 : lw_okq (⟨"StreamPairModel", "waiting", "(I)I"⟩, 54) := ⟨⟨by decide +kernel, by decide +kernel⟩, List.mem_of_getElem? (i := 1164) (by decide +kernel), List.mem_of_getElem? (i := 1596) (by decide +kernel), List.mem_of_getElem? (i := 1597) (by decide +kernel)⟩
theorem lw_p76 : lw_okq (⟨"StreamPairModel", "keptBytes", "(I)I"⟩, 54) := ⟨⟨by decide +kernel, by decide +kernel⟩, List.mem_of_getElem? (i := 1164) (by decide +kernel), List.mem_of_getElem? (i := 1600) (by decide +kernel), List.mem_of_getElem? (i := 1601) (by decide +kernel)⟩
def lw_privs_5 : List (MethodName × Nat) := [(⟨"StreamPairModel", "known", "(I)V"⟩, 54), (⟨"StreamPairModel", "follow", "(I)V"⟩, 54), (⟨"StreamPairModel", "called", "(I)V"⟩, 54), (⟨"StreamPairModel", "measured", "(II)V"⟩, 54), (⟨"StreamPairModel", "admitted", "(I)Z"⟩, 54), (⟨"StreamPairModel", "fits", "(I)Z"⟩, 54), (⟨"StreamPairModel", "inside", "(II)Z"⟩, 54), (⟨"StreamPairModel", "acknowledged", "(I)Z"⟩, 54), (⟨"StreamPairModel", "grown", "(I)V"⟩, 54), (⟨"StreamPairModel", "again", "(I)V"⟩, 54), (⟨"StreamPairModel", "received", "(I)V"⟩, 54), (⟨"StreamPairModel", "waiting", "(I)I"⟩, 54), (⟨"StreamPairModel", "keptBytes", "(I)I"⟩, 54)]
theorem lw_r5 : ∀ q ∈ lw_privs_5, lw_okq q := List.forall_mem_cons.mpr ⟨lw_p64, List.forall_mem_cons.mpr ⟨lw_p65, List.forall_mem_cons.mpr ⟨lw_p66, List.forall_mem_cons.mpr ⟨lw_p67, List.forall_mem_cons.mpr ⟨lw_p68, List.forall_mem_cons.mpr ⟨lw_p69, List.forall_mem_cons.mpr ⟨lw_p70, List.forall_mem_cons.mpr ⟨lw_p71, List.forall_mem_cons.mpr ⟨lw_p72, List.forall_mem_cons.mpr ⟨lw_p73, List.forall_mem_cons.mpr ⟨lw_p74, List.forall_mem_cons.mpr ⟨lw_p75, List.forall_mem_cons.mpr ⟨lw_p76, fun _ h => absurd h List.not_mem_nil⟩⟩⟩⟩⟩⟩⟩⟩⟩⟩⟩⟩⟩
def lw_privs : List (MethodName × Nat) := lw_privs_1 ++ (lw_privs_2 ++ (lw_privs_3 ++ (lw_privs_4 ++ (lw_privs_5))))
def lw_tbl : List Cond := k2_sels lw_privs ++ tables_1
theorem lw_privs_ok : ∀ q ∈ lw_privs, lw_okq q := by
  show ∀ q ∈ lw_privs_1 ++ (lw_privs_2 ++ (lw_privs_3 ++ (lw_privs_4 ++ (lw_privs_5)))), lw_okq q
  exact List.forall_mem_append.mpr ⟨lw_r1, List.forall_mem_append.mpr ⟨lw_r2, List.forall_mem_append.mpr ⟨lw_r3, List.forall_mem_append.mpr ⟨lw_r4, lw_r5⟩⟩⟩⟩
-- ===== end of PART A; then your names; then what follows =====
end
section
/-! each word of the tables, as a member of lw_tbl (printed by gen_words.py) -/
theorem wd_0 : Cond.selects "java/util/ArrayList" ⟨"java/util/ArrayList", "add", "(Ljava/lang/Object;[Ljava/lang/Object;I)V"⟩ ⟨"java/util/ArrayList", "add", "(Ljava/lang/Object;[Ljava/lang/Object;I)V"⟩ ∈ lw_tbl := List.mem_of_getElem? (i := 0) (by decide +kernel)
theorem wd_1 : Cond.selects "java/util/ArrayList" ⟨"java/util/ArrayList", "grow", "()[Ljava/lang/Object;"⟩ ⟨"java/util/ArrayList", "grow", "()[Ljava/lang/Object;"⟩ ∈ lw_tbl := List.mem_of_getElem? (i := 1) (by decide +kernel)
theorem wd_2 : Cond.selects "java/util/ArrayList" ⟨"java/util/ArrayList", "grow", "(I)[Ljava/lang/Object;"⟩ ⟨"java/util/ArrayList", "grow", "(I)[Ljava/lang/Object;"⟩ ∈ lw_tbl := List.mem_of_getElem? (i := 2) (by decide +kernel)
theorem wd_3 : Cond.selects "StreamPair$End" ⟨"StreamPair$End", "sendNext", "(II)V"⟩ ⟨"StreamPair$End", "sendNext", "(II)V"⟩ ∈ lw_tbl := List.mem_of_getElem? (i := 3) (by decide +kernel)
theorem wd_4 : Cond.selects "StreamPair$End" ⟨"StreamPair$End", "send", "(III)V"⟩ ⟨"StreamPair$End", "send", "(III)V"⟩ ∈ lw_tbl := List.mem_of_getElem? (i := 4) (by decide +kernel)
theorem wd_5 : Cond.selects "StreamPair$End" ⟨"StreamPair$End", "emit", "(IIIII)V"⟩ ⟨"StreamPair$End", "emit", "(IIIII)V"⟩ ∈ lw_tbl := List.mem_of_getElem? (i := 5) (by decide +kernel)
theorem wd_6 : Cond.selects "java/util/ArrayList" ⟨"java/util/ArrayList", "fastRemove", "([Ljava/lang/Object;I)V"⟩ ⟨"java/util/ArrayList", "fastRemove", "([Ljava/lang/Object;I)V"⟩ ∈ lw_tbl := List.mem_of_getElem? (i := 6) (by decide +kernel)
theorem wd_7 : Cond.selects "java/lang/Throwable" ⟨"java/lang/Throwable", "fillInStackTrace", "(I)Ljava/lang/Throwable;"⟩ ⟨"java/lang/Throwable", "fillInStackTrace", "(I)Ljava/lang/Throwable;"⟩ ∈ lw_tbl := List.mem_of_getElem? (i := 7) (by decide +kernel)
theorem wd_8 : Cond.selects "StreamPair" ⟨"StreamPair", "sideOf", "(I)LStreamPair$End;"⟩ ⟨"StreamPair", "sideOf", "(I)LStreamPair$End;"⟩ ∈ lw_tbl := List.mem_of_getElem? (i := 8) (by decide +kernel)
theorem wd_9 : Cond.selects "StreamPair$Supply" ⟨"StreamPair$Supply", "makeRoom", "(I)V"⟩ ⟨"StreamPair$Supply", "makeRoom", "(I)V"⟩ ∈ lw_tbl := List.mem_of_getElem? (i := 9) (by decide +kernel)
theorem wd_10 : Cond.selects "StreamPair$End" ⟨"StreamPair$End", "maySend", "()Z"⟩ ⟨"StreamPair$End", "maySend", "()Z"⟩ ∈ lw_tbl := List.mem_of_getElem? (i := 10) (by decide +kernel)
theorem wd_11 : Cond.selects "StreamPair$End" ⟨"StreamPair$End", "bytesToSend", "()I"⟩ ⟨"StreamPair$End", "bytesToSend", "()I"⟩ ∈ lw_tbl := List.mem_of_getElem? (i := 11) (by decide +kernel)
theorem wd_12 : Cond.selects "StreamPair$End" ⟨"StreamPair$End", "takesData", "()Z"⟩ ⟨"StreamPair$End", "takesData", "()Z"⟩ ∈ lw_tbl := List.mem_of_getElem? (i := 12) (by decide +kernel)
theorem wd_13 : Cond.selects "StreamPair$End" ⟨"StreamPair$End", "sendAck", "()V"⟩ ⟨"StreamPair$End", "sendAck", "()V"⟩ ∈ lw_tbl := List.mem_of_getElem? (i := 13) (by decide +kernel)
theorem wd_14 : Cond.selects "StreamPair$End" ⟨"StreamPair$End", "shut", "(I)V"⟩ ⟨"StreamPair$End", "shut", "(I)V"⟩ ∈ lw_tbl := List.mem_of_getElem? (i := 14) (by decide +kernel)
theorem wd_15 : Cond.selects "StreamPair" ⟨"StreamPair", "nextDue", "()LStreamPair$End;"⟩ ⟨"StreamPair", "nextDue", "()LStreamPair$End;"⟩ ∈ lw_tbl := List.mem_of_getElem? (i := 15) (by decide +kernel)
theorem wd_16 : Cond.selects "StreamPair$Crowd" ⟨"StreamPair$Crowd", "lowered", "(I)I"⟩ ⟨"StreamPair$Crowd", "lowered", "(I)I"⟩ ∈ lw_tbl := List.mem_of_getElem? (i := 16) (by decide +kernel)
theorem wd_17 : Cond.selects "StreamPair" ⟨"StreamPair", "segmentOf", "(I)LStreamPair$Segment;"⟩ ⟨"StreamPair", "segmentOf", "(I)LStreamPair$Segment;"⟩ ∈ lw_tbl := List.mem_of_getElem? (i := 17) (by decide +kernel)
theorem wd_18 : Cond.selects "StreamPair$End" ⟨"StreamPair$End", "isOfThisConnection", "(LStreamPair$Segment;)Z"⟩ ⟨"StreamPair$End", "isOfThisConnection", "(LStreamPair$Segment;)Z"⟩ ∈ lw_tbl := List.mem_of_getElem? (i := 18) (by decide +kernel)
theorem wd_19 : Cond.selects "StreamPair$End" ⟨"StreamPair$End", "heedInListen", "(LStreamPair$Segment;)I"⟩ ⟨"StreamPair$End", "heedInListen", "(LStreamPair$Segment;)I"⟩ ∈ lw_tbl := List.mem_of_getElem? (i := 19) (by decide +kernel)
theorem wd_20 : Cond.selects "StreamPair$End" ⟨"StreamPair$End", "heedSyn", "(LStreamPair$Segment;)V"⟩ ⟨"StreamPair$End", "heedSyn", "(LStreamPair$Segment;)V"⟩ ∈ lw_tbl := List.mem_of_getElem? (i := 20) (by decide +kernel)
theorem wd_21 : Cond.selects "StreamPair$End" ⟨"StreamPair$End", "heedInSynSent", "(LStreamPair$Segment;)I"⟩ ⟨"StreamPair$End", "heedInSynSent", "(LStreamPair$Segment;)I"⟩ ∈ lw_tbl := List.mem_of_getElem? (i := 21) (by decide +kernel)
theorem wd_22 : Cond.selects "StreamPair$Pace" ⟨"StreamPair$Pace", "measure", "(J)V"⟩ ⟨"StreamPair$Pace", "measure", "(J)V"⟩ ∈ lw_tbl := List.mem_of_getElem? (i := 22) (by decide +kernel)
theorem wd_23 : Cond.selects "StreamPair$End" ⟨"StreamPair$End", "heedInOthers", "(LStreamPair$Segment;)I"⟩ ⟨"StreamPair$End", "heedInOthers", "(LStreamPair$Segment;)I"⟩ ∈ lw_tbl := List.mem_of_getElem? (i := 23) (by decide +kernel)
theorem wd_24 : Cond.selects "StreamPair$End" ⟨"StreamPair$End", "admit", "(LStreamPair$Segment;)I"⟩ ⟨"StreamPair$End", "admit", "(LStreamPair$Segment;)I"⟩ ∈ lw_tbl := List.mem_of_getElem? (i := 24) (by decide +kernel)
theorem wd_25 : Cond.selects "StreamPair$End" ⟨"StreamPair$End", "refuse", "(LStreamPair$Segment;)I"⟩ ⟨"StreamPair$End", "refuse", "(LStreamPair$Segment;)I"⟩ ∈ lw_tbl := List.mem_of_getElem? (i := 25) (by decide +kernel)
theorem wd_26 : Cond.selects "StreamPair$End" ⟨"StreamPair$End", "heedProgress", "(I)V"⟩ ⟨"StreamPair$End", "heedProgress", "(I)V"⟩ ∈ lw_tbl := List.mem_of_getElem? (i := 26) (by decide +kernel)
theorem wd_27 : Cond.selects "StreamPair$End" ⟨"StreamPair$End", "isSameAgain", "(LStreamPair$Segment;)Z"⟩ ⟨"StreamPair$End", "isSameAgain", "(LStreamPair$Segment;)Z"⟩ ∈ lw_tbl := List.mem_of_getElem? (i := 27) (by decide +kernel)
theorem wd_28 : Cond.selects "StreamPair$End" ⟨"StreamPair$End", "heedSameAgain", "()V"⟩ ⟨"StreamPair$End", "heedSameAgain", "()V"⟩ ∈ lw_tbl := List.mem_of_getElem? (i := 28) (by decide +kernel)
theorem wd_29 : Cond.selects "StreamPair$End" ⟨"StreamPair$End", "heedWindow", "(LStreamPair$Segment;)V"⟩ ⟨"StreamPair$End", "heedWindow", "(LStreamPair$Segment;)V"⟩ ∈ lw_tbl := List.mem_of_getElem? (i := 29) (by decide +kernel)
theorem wd_30 : Cond.selects "StreamPair$End" ⟨"StreamPair$End", "heedFinAcknowledged", "()V"⟩ ⟨"StreamPair$End", "heedFinAcknowledged", "()V"⟩ ∈ lw_tbl := List.mem_of_getElem? (i := 30) (by decide +kernel)
theorem wd_31 : Cond.selects "StreamPair$End" ⟨"StreamPair$End", "takeIn", "(LStreamPair$Segment;)V"⟩ ⟨"StreamPair$End", "takeIn", "(LStreamPair$Segment;)V"⟩ ∈ lw_tbl := List.mem_of_getElem? (i := 31) (by decide +kernel)
theorem wd_32 : Cond.selects "StreamPair$Arrivals" ⟨"StreamPair$Arrivals", "takeWithoutGap", "()V"⟩ ⟨"StreamPair$Arrivals", "takeWithoutGap", "()V"⟩ ∈ lw_tbl := List.mem_of_getElem? (i := 32) (by decide +kernel)
theorem wd_33 : Cond.selects "StreamPair$End" ⟨"StreamPair$End", "answer", "(LStreamPair$Segment;)V"⟩ ⟨"StreamPair$End", "answer", "(LStreamPair$Segment;)V"⟩ ∈ lw_tbl := List.mem_of_getElem? (i := 33) (by decide +kernel)
theorem wd_34 : Cond.selects "StreamPairModel" ⟨"StreamPairModel", "fail", "(I)I"⟩ ⟨"StreamPairModel", "fail", "(I)I"⟩ ∈ lw_tbl := List.mem_of_getElem? (i := 34) (by decide +kernel)
theorem wd_35 : Cond.selects "StreamPairModel" ⟨"StreamPairModel", "removed", "(I)V"⟩ ⟨"StreamPairModel", "removed", "(I)V"⟩ ∈ lw_tbl := List.mem_of_getElem? (i := 35) (by decide +kernel)
theorem wd_36 : Cond.selects "StreamPairModel" ⟨"StreamPairModel", "fresh", "(II)V"⟩ ⟨"StreamPairModel", "fresh", "(II)V"⟩ ∈ lw_tbl := List.mem_of_getElem? (i := 36) (by decide +kernel)
theorem wd_37 : Cond.selects "StreamPairModel" ⟨"StreamPairModel", "send", "(IIIII)V"⟩ ⟨"StreamPairModel", "send", "(IIIII)V"⟩ ∈ lw_tbl := List.mem_of_getElem? (i := 37) (by decide +kernel)
theorem wd_38 : Cond.selects "StreamPairModel" ⟨"StreamPairModel", "freeRoom", "(I)I"⟩ ⟨"StreamPairModel", "freeRoom", "(I)I"⟩ ∈ lw_tbl := List.mem_of_getElem? (i := 38) (by decide +kernel)
theorem wd_39 : Cond.selects "StreamPairModel" ⟨"StreamPairModel", "written", "(IIIIIII)I"⟩ ⟨"StreamPairModel", "written", "(IIIIIII)I"⟩ ∈ lw_tbl := List.mem_of_getElem? (i := 39) (by decide +kernel)
theorem wd_40 : Cond.selects "StreamPairModel" ⟨"StreamPairModel", "launched", "(II)I"⟩ ⟨"StreamPairModel", "launched", "(II)I"⟩ ∈ lw_tbl := List.mem_of_getElem? (i := 40) (by decide +kernel)
theorem wd_41 : Cond.selects "StreamPairModel" ⟨"StreamPairModel", "free", "()I"⟩ ⟨"StreamPairModel", "free", "()I"⟩ ∈ lw_tbl := List.mem_of_getElem? (i := 41) (by decide +kernel)
theorem wd_42 : Cond.selects "StreamPairModel" ⟨"StreamPairModel", "port", "(I)I"⟩ ⟨"StreamPairModel", "port", "(I)I"⟩ ∈ lw_tbl := List.mem_of_getElem? (i := 42) (by decide +kernel)
theorem wd_43 : Cond.selects "StreamPairModel" ⟨"StreamPairModel", "put", "(IIII)V"⟩ ⟨"StreamPairModel", "put", "(IIII)V"⟩ ∈ lw_tbl := List.mem_of_getElem? (i := 43) (by decide +kernel)
theorem wd_44 : Cond.selects "StreamPairModel" ⟨"StreamPairModel", "sealed", "(I)V"⟩ ⟨"StreamPairModel", "sealed", "(I)V"⟩ ∈ lw_tbl := List.mem_of_getElem? (i := 44) (by decide +kernel)
theorem wd_45 : Cond.selects "StreamPairModel" ⟨"StreamPairModel", "checksum", "(I)I"⟩ ⟨"StreamPairModel", "checksum", "(I)I"⟩ ∈ lw_tbl := List.mem_of_getElem? (i := 45) (by decide +kernel)
theorem wd_46 : Cond.selects "StreamPairModel" ⟨"StreamPairModel", "here", "(II)I"⟩ ⟨"StreamPairModel", "here", "(II)I"⟩ ∈ lw_tbl := List.mem_of_getElem? (i := 46) (by decide +kernel)
theorem wd_47 : Cond.selects "StreamPairModel" ⟨"StreamPairModel", "output", "(I)Z"⟩ ⟨"StreamPairModel", "output", "(I)Z"⟩ ∈ lw_tbl := List.mem_of_getElem? (i := 47) (by decide +kernel)
theorem wd_48 : Cond.selects "StreamPairModel" ⟨"StreamPairModel", "left", "(I)I"⟩ ⟨"StreamPairModel", "left", "(I)I"⟩ ∈ lw_tbl := List.mem_of_getElem? (i := 48) (by decide +kernel)
theorem wd_49 : Cond.selects "StreamPairModel" ⟨"StreamPairModel", "finNumber", "(I)I"⟩ ⟨"StreamPairModel", "finNumber", "(I)I"⟩ ∈ lw_tbl := List.mem_of_getElem? (i := 49) (by decide +kernel)
theorem wd_50 : Cond.selects "StreamPairModel" ⟨"StreamPairModel", "sendAck", "(I)V"⟩ ⟨"StreamPairModel", "sendAck", "(I)V"⟩ ∈ lw_tbl := List.mem_of_getElem? (i := 50) (by decide +kernel)
theorem wd_51 : Cond.selects "StreamPairModel" ⟨"StreamPairModel", "finished", "(I)V"⟩ ⟨"StreamPairModel", "finished", "(I)V"⟩ ∈ lw_tbl := List.mem_of_getElem? (i := 51) (by decide +kernel)
theorem wd_52 : Cond.selects "StreamPairModel" ⟨"StreamPairModel", "broken", "(II)V"⟩ ⟨"StreamPairModel", "broken", "(II)V"⟩ ∈ lw_tbl := List.mem_of_getElem? (i := 52) (by decide +kernel)
theorem wd_53 : Cond.selects "StreamPairModel" ⟨"StreamPairModel", "timer", "(I)V"⟩ ⟨"StreamPairModel", "timer", "(I)V"⟩ ∈ lw_tbl := List.mem_of_getElem? (i := 53) (by decide +kernel)
theorem wd_54 : Cond.selects "StreamPairModel" ⟨"StreamPairModel", "least", "(I)I"⟩ ⟨"StreamPairModel", "least", "(I)I"⟩ ∈ lw_tbl := List.mem_of_getElem? (i := 54) (by decide +kernel)
theorem wd_55 : Cond.selects "StreamPairModel" ⟨"StreamPairModel", "noWay", "(I)Z"⟩ ⟨"StreamPairModel", "noWay", "(I)Z"⟩ ∈ lw_tbl := List.mem_of_getElem? (i := 55) (by decide +kernel)
theorem wd_56 : Cond.selects "StreamPairModel" ⟨"StreamPairModel", "comes", "(II)V"⟩ ⟨"StreamPairModel", "comes", "(II)V"⟩ ∈ lw_tbl := List.mem_of_getElem? (i := 56) (by decide +kernel)
theorem wd_57 : Cond.selects "StreamPairModel" ⟨"StreamPairModel", "header", "(II)Z"⟩ ⟨"StreamPairModel", "header", "(II)Z"⟩ ∈ lw_tbl := List.mem_of_getElem? (i := 57) (by decide +kernel)
theorem wd_58 : Cond.selects "StreamPairModel" ⟨"StreamPairModel", "sound", "(I)Z"⟩ ⟨"StreamPairModel", "sound", "(I)Z"⟩ ∈ lw_tbl := List.mem_of_getElem? (i := 58) (by decide +kernel)
theorem wd_59 : Cond.selects "StreamPairModel" ⟨"StreamPairModel", "two", "(II)I"⟩ ⟨"StreamPairModel", "two", "(II)I"⟩ ∈ lw_tbl := List.mem_of_getElem? (i := 59) (by decide +kernel)
theorem wd_60 : Cond.selects "StreamPairModel" ⟨"StreamPairModel", "four", "(II)I"⟩ ⟨"StreamPairModel", "four", "(II)I"⟩ ∈ lw_tbl := List.mem_of_getElem? (i := 60) (by decide +kernel)
theorem wd_61 : Cond.selects "StreamPairModel" ⟨"StreamPairModel", "options", "(II)V"⟩ ⟨"StreamPairModel", "options", "(II)V"⟩ ∈ lw_tbl := List.mem_of_getElem? (i := 61) (by decide +kernel)
theorem wd_62 : Cond.selects "StreamPairModel" ⟨"StreamPairModel", "answer", "(I)V"⟩ ⟨"StreamPairModel", "answer", "(I)V"⟩ ∈ lw_tbl := List.mem_of_getElem? (i := 62) (by decide +kernel)
theorem wd_63 : Cond.selects "StreamPairModel" ⟨"StreamPairModel", "listened", "(I)V"⟩ ⟨"StreamPairModel", "listened", "(I)V"⟩ ∈ lw_tbl := List.mem_of_getElem? (i := 63) (by decide +kernel)
theorem wd_64 : Cond.selects "StreamPairModel" ⟨"StreamPairModel", "known", "(I)V"⟩ ⟨"StreamPairModel", "known", "(I)V"⟩ ∈ lw_tbl := List.mem_of_getElem? (i := 64) (by decide +kernel)
theorem wd_65 : Cond.selects "StreamPairModel" ⟨"StreamPairModel", "follow", "(I)V"⟩ ⟨"StreamPairModel", "follow", "(I)V"⟩ ∈ lw_tbl := List.mem_of_getElem? (i := 65) (by decide +kernel)
theorem wd_66 : Cond.selects "StreamPairModel" ⟨"StreamPairModel", "called", "(I)V"⟩ ⟨"StreamPairModel", "called", "(I)V"⟩ ∈ lw_tbl := List.mem_of_getElem? (i := 66) (by decide +kernel)
theorem wd_67 : Cond.selects "StreamPairModel" ⟨"StreamPairModel", "measured", "(II)V"⟩ ⟨"StreamPairModel", "measured", "(II)V"⟩ ∈ lw_tbl := List.mem_of_getElem? (i := 67) (by decide +kernel)
theorem wd_68 : Cond.selects "StreamPairModel" ⟨"StreamPairModel", "admitted", "(I)Z"⟩ ⟨"StreamPairModel", "admitted", "(I)Z"⟩ ∈ lw_tbl := List.mem_of_getElem? (i := 68) (by decide +kernel)
theorem wd_69 : Cond.selects "StreamPairModel" ⟨"StreamPairModel", "fits", "(I)Z"⟩ ⟨"StreamPairModel", "fits", "(I)Z"⟩ ∈ lw_tbl := List.mem_of_getElem? (i := 69) (by decide +kernel)
theorem wd_70 : Cond.selects "StreamPairModel" ⟨"StreamPairModel", "inside", "(II)Z"⟩ ⟨"StreamPairModel", "inside", "(II)Z"⟩ ∈ lw_tbl := List.mem_of_getElem? (i := 70) (by decide +kernel)
theorem wd_71 : Cond.selects "StreamPairModel" ⟨"StreamPairModel", "acknowledged", "(I)Z"⟩ ⟨"StreamPairModel", "acknowledged", "(I)Z"⟩ ∈ lw_tbl := List.mem_of_getElem? (i := 71) (by decide +kernel)
theorem wd_72 : Cond.selects "StreamPairModel" ⟨"StreamPairModel", "grown", "(I)V"⟩ ⟨"StreamPairModel", "grown", "(I)V"⟩ ∈ lw_tbl := List.mem_of_getElem? (i := 72) (by decide +kernel)
theorem wd_73 : Cond.selects "StreamPairModel" ⟨"StreamPairModel", "again", "(I)V"⟩ ⟨"StreamPairModel", "again", "(I)V"⟩ ∈ lw_tbl := List.mem_of_getElem? (i := 73) (by decide +kernel)
theorem wd_74 : Cond.selects "StreamPairModel" ⟨"StreamPairModel", "received", "(I)V"⟩ ⟨"StreamPairModel", "received", "(I)V"⟩ ∈ lw_tbl := List.mem_of_getElem? (i := 74) (by decide +kernel)
theorem wd_75 : Cond.selects "StreamPairModel" ⟨"StreamPairModel", "waiting", "(I)I"⟩ ⟨"StreamPairModel", "waiting", "(I)I"⟩ ∈ lw_tbl := List.mem_of_getElem? (i := 75) (by decide +kernel)
theorem wd_76 : Cond.selects "StreamPairModel" ⟨"StreamPairModel", "keptBytes", "(I)I"⟩ ⟨"StreamPairModel", "keptBytes", "(I)I"⟩ ∈ lw_tbl := List.mem_of_getElem? (i := 76) (by decide +kernel)
theorem wd_77 : (Jvm.Cond.initialized "StreamPairLaw") ∈ lw_tbl := List.mem_of_getElem? (i := 77) (by decide +kernel)
theorem wd_78 : (Jvm.Cond.initialized "StreamPair") ∈ lw_tbl := List.mem_of_getElem? (i := 78) (by decide +kernel)
theorem wd_79 : (Jvm.Cond.initialized "StreamPair$Tape") ∈ lw_tbl := List.mem_of_getElem? (i := 79) (by decide +kernel)
theorem wd_80 : (Jvm.Cond.initialized "StreamPair$Clock") ∈ lw_tbl := List.mem_of_getElem? (i := 80) (by decide +kernel)
theorem wd_81 : (Jvm.Cond.initialized "StreamPair$Network") ∈ lw_tbl := List.mem_of_getElem? (i := 81) (by decide +kernel)
theorem wd_82 : (Jvm.Cond.initialized "java/util/AbstractCollection") ∈ lw_tbl := List.mem_of_getElem? (i := 82) (by decide +kernel)
theorem wd_83 : (Jvm.Cond.initialized "java/util/AbstractList") ∈ lw_tbl := List.mem_of_getElem? (i := 83) (by decide +kernel)
theorem wd_84 : (Jvm.Cond.initialized "java/util/ArrayList") ∈ lw_tbl := List.mem_of_getElem? (i := 84) (by decide +kernel)
theorem wd_85 : (Jvm.Cond.initialized "StreamPair$End") ∈ lw_tbl := List.mem_of_getElem? (i := 85) (by decide +kernel)
theorem wd_86 : (Jvm.Cond.initialized "StreamPair$Supply") ∈ lw_tbl := List.mem_of_getElem? (i := 86) (by decide +kernel)
theorem wd_87 : (Jvm.Cond.initialized "StreamPair$Arrivals") ∈ lw_tbl := List.mem_of_getElem? (i := 87) (by decide +kernel)
theorem wd_88 : (Jvm.Cond.initialized "StreamPair$Pace") ∈ lw_tbl := List.mem_of_getElem? (i := 88) (by decide +kernel)
theorem wd_89 : (Jvm.Cond.initialized "StreamPair$Crowd") ∈ lw_tbl := List.mem_of_getElem? (i := 89) (by decide +kernel)
theorem wd_90 : (Jvm.Cond.initialized "StreamPairModel") ∈ lw_tbl := List.mem_of_getElem? (i := 90) (by decide +kernel)
theorem wd_91 : (Jvm.Cond.initialized "java/lang/Throwable") ∈ lw_tbl := List.mem_of_getElem? (i := 91) (by decide +kernel)
theorem wd_92 : (Jvm.Cond.initialized "java/lang/Exception") ∈ lw_tbl := List.mem_of_getElem? (i := 92) (by decide +kernel)
theorem wd_93 : (Jvm.Cond.initialized "java/lang/RuntimeException") ∈ lw_tbl := List.mem_of_getElem? (i := 93) (by decide +kernel)
theorem wd_94 : (Jvm.Cond.initialized "java/lang/IllegalStateException") ∈ lw_tbl := List.mem_of_getElem? (i := 94) (by decide +kernel)
theorem wd_95 : (Jvm.Cond.initialized "java/util/Arrays") ∈ lw_tbl := List.mem_of_getElem? (i := 95) (by decide +kernel)
theorem wd_96 : (Jvm.Cond.initialized "java/lang/Math") ∈ lw_tbl := List.mem_of_getElem? (i := 96) (by decide +kernel)
theorem wd_97 : (Jvm.Cond.initialized "java/lang/System") ∈ lw_tbl := List.mem_of_getElem? (i := 97) (by decide +kernel)
theorem wd_98 : (Jvm.Cond.initialized "java/lang/IllegalArgumentException") ∈ lw_tbl := List.mem_of_getElem? (i := 98) (by decide +kernel)
theorem wd_99 : (Jvm.Cond.initialized "java/util/Objects") ∈ lw_tbl := List.mem_of_getElem? (i := 99) (by decide +kernel)
theorem wd_100 : (Jvm.Cond.initialized "jdk/internal/util/Preconditions") ∈ lw_tbl := List.mem_of_getElem? (i := 100) (by decide +kernel)
theorem wd_101 : (Jvm.Cond.initialized "jdk/internal/util/ArraysSupport") ∈ lw_tbl := List.mem_of_getElem? (i := 101) (by decide +kernel)
theorem wd_102 : (Jvm.Cond.initialized "StreamPair$Segment") ∈ lw_tbl := List.mem_of_getElem? (i := 102) (by decide +kernel)
theorem wd_103 : (Jvm.Cond.initialized "java/util/NoSuchElementException") ∈ lw_tbl := List.mem_of_getElem? (i := 103) (by decide +kernel)
theorem wd_104 : (Jvm.Cond.initialized "java/lang/UnsupportedOperationException") ∈ lw_tbl := List.mem_of_getElem? (i := 104) (by decide +kernel)
theorem wd_105 : (Jvm.Cond.initialized "java/lang/IndexOutOfBoundsException") ∈ lw_tbl := List.mem_of_getElem? (i := 105) (by decide +kernel)
theorem wd_106 : (Jvm.Cond.classLink "StreamPairLaw" (8 : Nat) "StreamPair") ∈ lw_tbl := List.mem_of_getElem? (i := 106) (by decide +kernel)
theorem wd_107 : (Jvm.Cond.instantiable "StreamPair" (6 : Nat)) ∈ lw_tbl := List.mem_of_getElem? (i := 107) (by decide +kernel)
theorem wd_108 : (Jvm.Cond.methodLink "StreamPairLaw" (71 : Nat) ({ cls := "StreamPair", name := "<init>", desc := "()V" } : Jvm.MethodName)) ∈ lw_tbl := List.mem_of_getElem? (i := 108) (by decide +kernel)
theorem wd_109 : (Jvm.Cond.instanceMethod ({ cls := "StreamPair", name := "<init>", desc := "()V" } : Jvm.MethodName)) ∈ lw_tbl := List.mem_of_getElem? (i := 109) (by decide +kernel)
theorem wd_110 : (Jvm.Cond.code ({ cls := "StreamPair", name := "<init>", desc := "()V" } : Jvm.MethodName) prog_1_method_1_code (1 : Nat) (Option.none : Option Jvm.ClassFile.FieldType)) ∈ lw_tbl := List.mem_of_getElem? (i := 110) (by decide +kernel)
theorem wd_111 : (Jvm.Cond.methodLink "StreamPair" (1 : Nat) ({ cls := "java/lang/Object", name := "<init>", desc := "()V" } : Jvm.MethodName)) ∈ lw_tbl := List.mem_of_getElem? (i := 111) (by decide +kernel)
theorem wd_112 : (Jvm.Cond.instanceMethod ({ cls := "java/lang/Object", name := "<init>", desc := "()V" } : Jvm.MethodName)) ∈ lw_tbl := List.mem_of_getElem? (i := 112) (by decide +kernel)
theorem wd_113 : (Jvm.Cond.code ({ cls := "java/lang/Object", name := "<init>", desc := "()V" } : Jvm.MethodName) object_method_1_code (1 : Nat) (Option.none : Option Jvm.ClassFile.FieldType)) ∈ lw_tbl := List.mem_of_getElem? (i := 113) (by decide +kernel)
theorem wd_114 : (Jvm.Cond.classLink "StreamPair" (7 : Nat) "StreamPair$Tape") ∈ lw_tbl := List.mem_of_getElem? (i := 114) (by decide +kernel)
theorem wd_115 : (Jvm.Cond.instantiable "StreamPair$Tape" (2 : Nat)) ∈ lw_tbl := List.mem_of_getElem? (i := 115) (by decide +kernel)
theorem wd_116 : (Jvm.Cond.methodLinkNest "StreamPair" (9 : Nat) ({ cls := "StreamPair$Tape", name := "<init>", desc := "()V" } : Jvm.MethodName) "StreamPair") ∈ lw_tbl := List.mem_of_getElem? (i := 116) (by decide +kernel)
theorem wd_117 : (Jvm.Cond.instanceMethod ({ cls := "StreamPair$Tape", name := "<init>", desc := "()V" } : Jvm.MethodName)) ∈ lw_tbl := List.mem_of_getElem? (i := 117) (by decide +kernel)
theorem wd_118 : (Jvm.Cond.code ({ cls := "StreamPair$Tape", name := "<init>", desc := "()V" } : Jvm.MethodName) prog_10_method_1_code (1 : Nat) (Option.none : Option Jvm.ClassFile.FieldType)) ∈ lw_tbl := List.mem_of_getElem? (i := 118) (by decide +kernel)
theorem wd_119 : (Jvm.Cond.methodLink "StreamPair$Tape" (3 : Nat) ({ cls := "java/lang/Object", name := "<init>", desc := "()V" } : Jvm.MethodName)) ∈ lw_tbl := List.mem_of_getElem? (i := 119) (by decide +kernel)
theorem wd_120 : (Jvm.Cond.fieldLink "StreamPair$Tape" (9 : Nat) "StreamPair$Tape" "bytes" "[B") ∈ lw_tbl := List.mem_of_getElem? (i := 120) (by decide +kernel)
theorem wd_121 : (Jvm.Cond.fieldLink "StreamPair" (122 : Nat) "StreamPair$Tape" "bytes" "[B") ∈ lw_tbl := List.mem_of_getElem? (i := 121) (by decide +kernel)
theorem wd_122 : (Jvm.Cond.fieldLink "StreamPair$Tape" (15 : Nat) "StreamPair$Tape" "length" "I") ∈ lw_tbl := List.mem_of_getElem? (i := 122) (by decide +kernel)
theorem wd_123 : (Jvm.Cond.fieldLink "StreamPair" (42 : Nat) "StreamPair$Tape" "length" "I") ∈ lw_tbl := List.mem_of_getElem? (i := 123) (by decide +kernel)
theorem wd_124 : (Jvm.Cond.lays "StreamPair$Tape" "StreamPair$Tape" "bytes" "[B") ∈ lw_tbl := List.mem_of_getElem? (i := 124) (by decide +kernel)
theorem wd_126 : (Jvm.Cond.lays "StreamPair$Tape" "StreamPair$Tape" "length" "I") ∈ lw_tbl := List.mem_of_getElem? (i := 126) (by decide +kernel)
theorem wd_129 : (Jvm.Cond.arrayClass Jvm.ClassFile.FieldType.byte) ∈ lw_tbl := List.mem_of_getElem? (i := 129) (by decide +kernel)
theorem wd_130 : (Jvm.Cond.classLink "StreamPair" (16 : Nat) "StreamPair$Clock") ∈ lw_tbl := List.mem_of_getElem? (i := 130) (by decide +kernel)
theorem wd_131 : (Jvm.Cond.instantiable "StreamPair$Clock" (1 : Nat)) ∈ lw_tbl := List.mem_of_getElem? (i := 131) (by decide +kernel)
theorem wd_132 : (Jvm.Cond.methodLinkNest "StreamPair" (18 : Nat) ({ cls := "StreamPair$Clock", name := "<init>", desc := "()V" } : Jvm.MethodName) "StreamPair") ∈ lw_tbl := List.mem_of_getElem? (i := 132) (by decide +kernel)
theorem wd_133 : (Jvm.Cond.instanceMethod ({ cls := "StreamPair$Clock", name := "<init>", desc := "()V" } : Jvm.MethodName)) ∈ lw_tbl := List.mem_of_getElem? (i := 133) (by decide +kernel)
theorem wd_134 : (Jvm.Cond.code ({ cls := "StreamPair$Clock", name := "<init>", desc := "()V" } : Jvm.MethodName) prog_3_method_1_code (1 : Nat) (Option.none : Option Jvm.ClassFile.FieldType)) ∈ lw_tbl := List.mem_of_getElem? (i := 134) (by decide +kernel)
theorem wd_135 : (Jvm.Cond.methodLink "StreamPair$Clock" (1 : Nat) ({ cls := "java/lang/Object", name := "<init>", desc := "()V" } : Jvm.MethodName)) ∈ lw_tbl := List.mem_of_getElem? (i := 135) (by decide +kernel)
theorem wd_136 : (Jvm.Cond.fieldLink "StreamPair$End" (121 : Nat) "StreamPair$Clock" "time" "J") ∈ lw_tbl := List.mem_of_getElem? (i := 136) (by decide +kernel)
theorem wd_137 : (Jvm.Cond.fieldLink "StreamPair" (171 : Nat) "StreamPair$Clock" "time" "J") ∈ lw_tbl := List.mem_of_getElem? (i := 137) (by decide +kernel)
theorem wd_138 : (Jvm.Cond.lays "StreamPair$Clock" "StreamPair$Clock" "time" "J") ∈ lw_tbl := List.mem_of_getElem? (i := 138) (by decide +kernel)
theorem wd_141 : (Jvm.Cond.classLink "StreamPair" (23 : Nat) "StreamPair$Network") ∈ lw_tbl := List.mem_of_getElem? (i := 141) (by decide +kernel)
theorem wd_142 : (Jvm.Cond.instantiable "StreamPair$Network" (3 : Nat)) ∈ lw_tbl := List.mem_of_getElem? (i := 142) (by decide +kernel)
theorem wd_143 : (Jvm.Cond.methodLinkNest "StreamPair" (25 : Nat) ({ cls := "StreamPair$Network", name := "<init>", desc := "()V" } : Jvm.MethodName) "StreamPair") ∈ lw_tbl := List.mem_of_getElem? (i := 143) (by decide +kernel)
theorem wd_144 : (Jvm.Cond.instanceMethod ({ cls := "StreamPair$Network", name := "<init>", desc := "()V" } : Jvm.MethodName)) ∈ lw_tbl := List.mem_of_getElem? (i := 144) (by decide +kernel)
theorem wd_145 : (Jvm.Cond.code ({ cls := "StreamPair$Network", name := "<init>", desc := "()V" } : Jvm.MethodName) prog_6_method_1_code (1 : Nat) (Option.none : Option Jvm.ClassFile.FieldType)) ∈ lw_tbl := List.mem_of_getElem? (i := 145) (by decide +kernel)
theorem wd_146 : (Jvm.Cond.methodLink "StreamPair$Network" (1 : Nat) ({ cls := "java/lang/Object", name := "<init>", desc := "()V" } : Jvm.MethodName)) ∈ lw_tbl := List.mem_of_getElem? (i := 146) (by decide +kernel)
theorem wd_147 : (Jvm.Cond.classLink "StreamPair$Network" (7 : Nat) "java/util/ArrayList") ∈ lw_tbl := List.mem_of_getElem? (i := 147) (by decide +kernel)
theorem wd_148 : (Jvm.Cond.instantiable "java/util/ArrayList" (3 : Nat)) ∈ lw_tbl := List.mem_of_getElem? (i := 148) (by decide +kernel)
theorem wd_149 : (Jvm.Cond.methodLink "StreamPair$Network" (9 : Nat) ({ cls := "java/util/ArrayList", name := "<init>", desc := "()V" } : Jvm.MethodName)) ∈ lw_tbl := List.mem_of_getElem? (i := 149) (by decide +kernel)
theorem wd_150 : (Jvm.Cond.instanceMethod ({ cls := "java/util/ArrayList", name := "<init>", desc := "()V" } : Jvm.MethodName)) ∈ lw_tbl := List.mem_of_getElem? (i := 150) (by decide +kernel)
theorem wd_151 : (Jvm.Cond.code ({ cls := "java/util/ArrayList", name := "<init>", desc := "()V" } : Jvm.MethodName) prog_28_method_2_code (1 : Nat) (Option.none : Option Jvm.ClassFile.FieldType)) ∈ lw_tbl := List.mem_of_getElem? (i := 151) (by decide +kernel)
theorem wd_152 : (Jvm.Cond.methodLink "java/util/ArrayList" (1 : Nat) ({ cls := "java/util/AbstractList", name := "<init>", desc := "()V" } : Jvm.MethodName)) ∈ lw_tbl := List.mem_of_getElem? (i := 152) (by decide +kernel)
theorem wd_153 : (Jvm.Cond.instanceMethod ({ cls := "java/util/AbstractList", name := "<init>", desc := "()V" } : Jvm.MethodName)) ∈ lw_tbl := List.mem_of_getElem? (i := 153) (by decide +kernel)
theorem wd_154 : (Jvm.Cond.code ({ cls := "java/util/AbstractList", name := "<init>", desc := "()V" } : Jvm.MethodName) prog_27_method_1_code (1 : Nat) (Option.none : Option Jvm.ClassFile.FieldType)) ∈ lw_tbl := List.mem_of_getElem? (i := 154) (by decide +kernel)
theorem wd_155 : (Jvm.Cond.methodLink "java/util/AbstractList" (1 : Nat) ({ cls := "java/util/AbstractCollection", name := "<init>", desc := "()V" } : Jvm.MethodName)) ∈ lw_tbl := List.mem_of_getElem? (i := 155) (by decide +kernel)
theorem wd_156 : (Jvm.Cond.instanceMethod ({ cls := "java/util/AbstractCollection", name := "<init>", desc := "()V" } : Jvm.MethodName)) ∈ lw_tbl := List.mem_of_getElem? (i := 156) (by decide +kernel)
theorem wd_157 : (Jvm.Cond.code ({ cls := "java/util/AbstractCollection", name := "<init>", desc := "()V" } : Jvm.MethodName) prog_26_method_1_code (1 : Nat) (Option.none : Option Jvm.ClassFile.FieldType)) ∈ lw_tbl := List.mem_of_getElem? (i := 157) (by decide +kernel)
theorem wd_158 : (Jvm.Cond.methodLink "java/util/AbstractCollection" (1 : Nat) ({ cls := "java/lang/Object", name := "<init>", desc := "()V" } : Jvm.MethodName)) ∈ lw_tbl := List.mem_of_getElem? (i := 158) (by decide +kernel)
theorem wd_159 : (Jvm.Cond.fieldLink "java/util/ArrayList" (39 : Nat) "java/util/ArrayList" "DEFAULTCAPACITY_EMPTY_ELEMENTDATA" "[Ljava/lang/Object;") ∈ lw_tbl := List.mem_of_getElem? (i := 159) (by decide +kernel)
theorem wd_160 : (Jvm.Cond.laysStatic "java/util/ArrayList" "DEFAULTCAPACITY_EMPTY_ELEMENTDATA" "[Ljava/lang/Object;") ∈ lw_tbl := List.mem_of_getElem? (i := 160) (by decide +kernel)
theorem wd_161 : (Jvm.Cond.fieldLink "java/util/ArrayList" (9 : Nat) "java/util/ArrayList" "elementData" "[Ljava/lang/Object;") ∈ lw_tbl := List.mem_of_getElem? (i := 161) (by decide +kernel)
theorem wd_162 : (Jvm.Cond.fieldLink "java/util/ArrayList" (48 : Nat) "java/util/ArrayList" "size" "I") ∈ lw_tbl := List.mem_of_getElem? (i := 162) (by decide +kernel)
theorem wd_163 : (Jvm.Cond.fieldLink "java/util/AbstractList" (7 : Nat) "java/util/AbstractList" "modCount" "I") ∈ lw_tbl := List.mem_of_getElem? (i := 163) (by decide +kernel)
theorem wd_164 : (Jvm.Cond.fieldLink "java/util/ArrayList" (63 : Nat) "java/util/ArrayList" "modCount" "I") ∈ lw_tbl := List.mem_of_getElem? (i := 164) (by decide +kernel)
theorem wd_165 : (Jvm.Cond.sameField "java/util/ArrayList" "java/util/AbstractList" "modCount" "I") ∈ lw_tbl := List.mem_of_getElem? (i := 165) (by decide +kernel)
theorem wd_166 : (Jvm.Cond.lays "java/util/ArrayList" "java/util/ArrayList" "elementData" "[Ljava/lang/Object;") ∈ lw_tbl := List.mem_of_getElem? (i := 166) (by decide +kernel)
theorem wd_168 : (Jvm.Cond.lays "java/util/ArrayList" "java/util/ArrayList" "size" "I") ∈ lw_tbl := List.mem_of_getElem? (i := 168) (by decide +kernel)
theorem wd_170 : (Jvm.Cond.lays "java/util/ArrayList" "java/util/AbstractList" "modCount" "I") ∈ lw_tbl := List.mem_of_getElem? (i := 170) (by decide +kernel)
theorem wd_173 : (Jvm.Cond.fieldLink "StreamPair$Network" (10 : Nat) "StreamPair$Network" "row" "Ljava/util/ArrayList;") ∈ lw_tbl := List.mem_of_getElem? (i := 173) (by decide +kernel)
theorem wd_174 : (Jvm.Cond.fieldLink "StreamPair" (219 : Nat) "StreamPair$Network" "row" "Ljava/util/ArrayList;") ∈ lw_tbl := List.mem_of_getElem? (i := 174) (by decide +kernel)
theorem wd_175 : (Jvm.Cond.fieldLink "StreamPair$Network" (16 : Nat) "StreamPair$Network" "spare" "Ljava/util/ArrayList;") ∈ lw_tbl := List.mem_of_getElem? (i := 175) (by decide +kernel)
theorem wd_176 : (Jvm.Cond.fieldLink "StreamPair" (210 : Nat) "StreamPair$Network" "spare" "Ljava/util/ArrayList;") ∈ lw_tbl := List.mem_of_getElem? (i := 176) (by decide +kernel)
theorem wd_177 : (Jvm.Cond.fieldLink "StreamPair$Network" (23 : Nat) "StreamPair$Network" "lost" "I") ∈ lw_tbl := List.mem_of_getElem? (i := 177) (by decide +kernel)
theorem wd_178 : (Jvm.Cond.fieldLink "StreamPair" (256 : Nat) "StreamPair$Network" "lost" "I") ∈ lw_tbl := List.mem_of_getElem? (i := 178) (by decide +kernel)
theorem wd_179 : (Jvm.Cond.laysFinal "StreamPair$Network" "StreamPair$Network" "row" "Ljava/util/ArrayList;") ∈ lw_tbl := List.mem_of_getElem? (i := 179) (by decide +kernel)
theorem wd_181 : (Jvm.Cond.laysFinal "StreamPair$Network" "StreamPair$Network" "spare" "Ljava/util/ArrayList;") ∈ lw_tbl := List.mem_of_getElem? (i := 181) (by decide +kernel)
theorem wd_183 : (Jvm.Cond.lays "StreamPair$Network" "StreamPair$Network" "lost" "I") ∈ lw_tbl := List.mem_of_getElem? (i := 183) (by decide +kernel)
theorem wd_186 : (Jvm.Cond.classLink "StreamPair" (30 : Nat) "StreamPair$End") ∈ lw_tbl := List.mem_of_getElem? (i := 186) (by decide +kernel)
theorem wd_187 : (Jvm.Cond.instantiable "StreamPair$End" (14 : Nat)) ∈ lw_tbl := List.mem_of_getElem? (i := 187) (by decide +kernel)
theorem wd_188 : (Jvm.Cond.methodLink "StreamPair" (32 : Nat) ({ cls := "StreamPair$End", name := "<init>", desc := "(ILStreamPair$Clock;LStreamPair$Network;)V" } : Jvm.MethodName)) ∈ lw_tbl := List.mem_of_getElem? (i := 188) (by decide +kernel)
theorem wd_189 : (Jvm.Cond.instanceMethod ({ cls := "StreamPair$End", name := "<init>", desc := "(ILStreamPair$Clock;LStreamPair$Network;)V" } : Jvm.MethodName)) ∈ lw_tbl := List.mem_of_getElem? (i := 189) (by decide +kernel)
theorem wd_190 : (Jvm.Cond.code ({ cls := "StreamPair$End", name := "<init>", desc := "(ILStreamPair$Clock;LStreamPair$Network;)V" } : Jvm.MethodName) prog_5_method_1_code (4 : Nat) (Option.none : Option Jvm.ClassFile.FieldType)) ∈ lw_tbl := List.mem_of_getElem? (i := 190) (by decide +kernel)
theorem wd_191 : (Jvm.Cond.methodLink "StreamPair$End" (3 : Nat) ({ cls := "java/lang/Object", name := "<init>", desc := "()V" } : Jvm.MethodName)) ∈ lw_tbl := List.mem_of_getElem? (i := 191) (by decide +kernel)
theorem wd_192 : (Jvm.Cond.classLink "StreamPair$End" (9 : Nat) "StreamPair$Supply") ∈ lw_tbl := List.mem_of_getElem? (i := 192) (by decide +kernel)
theorem wd_193 : (Jvm.Cond.instantiable "StreamPair$Supply" (12 : Nat)) ∈ lw_tbl := List.mem_of_getElem? (i := 193) (by decide +kernel)
theorem wd_194 : (Jvm.Cond.methodLinkNest "StreamPair$End" (11 : Nat) ({ cls := "StreamPair$Supply", name := "<init>", desc := "()V" } : Jvm.MethodName) "StreamPair") ∈ lw_tbl := List.mem_of_getElem? (i := 194) (by decide +kernel)
theorem wd_195 : (Jvm.Cond.instanceMethod ({ cls := "StreamPair$Supply", name := "<init>", desc := "()V" } : Jvm.MethodName)) ∈ lw_tbl := List.mem_of_getElem? (i := 195) (by decide +kernel)
theorem wd_196 : (Jvm.Cond.code ({ cls := "StreamPair$Supply", name := "<init>", desc := "()V" } : Jvm.MethodName) prog_9_method_1_code (1 : Nat) (Option.none : Option Jvm.ClassFile.FieldType)) ∈ lw_tbl := List.mem_of_getElem? (i := 196) (by decide +kernel)
theorem wd_197 : (Jvm.Cond.methodLink "StreamPair$Supply" (3 : Nat) ({ cls := "java/lang/Object", name := "<init>", desc := "()V" } : Jvm.MethodName)) ∈ lw_tbl := List.mem_of_getElem? (i := 197) (by decide +kernel)
theorem wd_198 : (Jvm.Cond.fieldLink "StreamPair$Supply" (9 : Nat) "StreamPair$Supply" "bytes" "[B") ∈ lw_tbl := List.mem_of_getElem? (i := 198) (by decide +kernel)
theorem wd_199 : (Jvm.Cond.fieldLink "StreamPair$Supply" (15 : Nat) "StreamPair$Supply" "start" "I") ∈ lw_tbl := List.mem_of_getElem? (i := 199) (by decide +kernel)
theorem wd_200 : (Jvm.Cond.fieldLink "StreamPair$Supply" (19 : Nat) "StreamPair$Supply" "waiting" "I") ∈ lw_tbl := List.mem_of_getElem? (i := 200) (by decide +kernel)
theorem wd_201 : (Jvm.Cond.fieldLink "StreamPair" (111 : Nat) "StreamPair$Supply" "waiting" "I") ∈ lw_tbl := List.mem_of_getElem? (i := 201) (by decide +kernel)
theorem wd_202 : (Jvm.Cond.fieldLink "StreamPair$End" (337 : Nat) "StreamPair$Supply" "waiting" "I") ∈ lw_tbl := List.mem_of_getElem? (i := 202) (by decide +kernel)
theorem wd_203 : (Jvm.Cond.fieldLink "StreamPair$Supply" (22 : Nat) "StreamPair$Supply" "iss" "I") ∈ lw_tbl := List.mem_of_getElem? (i := 203) (by decide +kernel)
theorem wd_204 : (Jvm.Cond.fieldLink "StreamPair$End" (208 : Nat) "StreamPair$Supply" "iss" "I") ∈ lw_tbl := List.mem_of_getElem? (i := 204) (by decide +kernel)
theorem wd_205 : (Jvm.Cond.fieldLink "StreamPair$Supply" (25 : Nat) "StreamPair$Supply" "una" "I") ∈ lw_tbl := List.mem_of_getElem? (i := 205) (by decide +kernel)
theorem wd_206 : (Jvm.Cond.fieldLink "StreamPair$End" (214 : Nat) "StreamPair$Supply" "una" "I") ∈ lw_tbl := List.mem_of_getElem? (i := 206) (by decide +kernel)
theorem wd_207 : (Jvm.Cond.fieldLink "StreamPair$Supply" (28 : Nat) "StreamPair$Supply" "nxt" "I") ∈ lw_tbl := List.mem_of_getElem? (i := 207) (by decide +kernel)
theorem wd_208 : (Jvm.Cond.fieldLink "StreamPair$End" (91 : Nat) "StreamPair$Supply" "nxt" "I") ∈ lw_tbl := List.mem_of_getElem? (i := 208) (by decide +kernel)
theorem wd_209 : (Jvm.Cond.fieldLink "StreamPair$Supply" (31 : Nat) "StreamPair$Supply" "max" "I") ∈ lw_tbl := List.mem_of_getElem? (i := 209) (by decide +kernel)
theorem wd_210 : (Jvm.Cond.fieldLink "StreamPair$End" (134 : Nat) "StreamPair$Supply" "max" "I") ∈ lw_tbl := List.mem_of_getElem? (i := 210) (by decide +kernel)
theorem wd_211 : (Jvm.Cond.fieldLink "StreamPair$Supply" (34 : Nat) "StreamPair$Supply" "fin" "I") ∈ lw_tbl := List.mem_of_getElem? (i := 211) (by decide +kernel)
theorem wd_212 : (Jvm.Cond.fieldLink "StreamPair$End" (150 : Nat) "StreamPair$Supply" "fin" "I") ∈ lw_tbl := List.mem_of_getElem? (i := 212) (by decide +kernel)
theorem wd_213 : (Jvm.Cond.fieldLink "StreamPair$Supply" (37 : Nat) "StreamPair$Supply" "closed" "Z") ∈ lw_tbl := List.mem_of_getElem? (i := 213) (by decide +kernel)
theorem wd_214 : (Jvm.Cond.fieldLink "StreamPair$End" (83 : Nat) "StreamPair$Supply" "closed" "Z") ∈ lw_tbl := List.mem_of_getElem? (i := 214) (by decide +kernel)
theorem wd_215 : (Jvm.Cond.fieldLink "StreamPair$Supply" (41 : Nat) "StreamPair$Supply" "far" "I") ∈ lw_tbl := List.mem_of_getElem? (i := 215) (by decide +kernel)
theorem wd_216 : (Jvm.Cond.fieldLink "StreamPair$End" (193 : Nat) "StreamPair$Supply" "far" "I") ∈ lw_tbl := List.mem_of_getElem? (i := 216) (by decide +kernel)
theorem wd_217 : (Jvm.Cond.fieldLink "StreamPair$Supply" (44 : Nat) "StreamPair$Supply" "wl1" "I") ∈ lw_tbl := List.mem_of_getElem? (i := 217) (by decide +kernel)
theorem wd_218 : (Jvm.Cond.fieldLink "StreamPair$Supply" (47 : Nat) "StreamPair$Supply" "wl2" "I") ∈ lw_tbl := List.mem_of_getElem? (i := 218) (by decide +kernel)
theorem wd_219 : (Jvm.Cond.lays "StreamPair$Supply" "StreamPair$Supply" "bytes" "[B") ∈ lw_tbl := List.mem_of_getElem? (i := 219) (by decide +kernel)
theorem wd_221 : (Jvm.Cond.lays "StreamPair$Supply" "StreamPair$Supply" "start" "I") ∈ lw_tbl := List.mem_of_getElem? (i := 221) (by decide +kernel)
theorem wd_223 : (Jvm.Cond.lays "StreamPair$Supply" "StreamPair$Supply" "waiting" "I") ∈ lw_tbl := List.mem_of_getElem? (i := 223) (by decide +kernel)
theorem wd_225 : (Jvm.Cond.lays "StreamPair$Supply" "StreamPair$Supply" "iss" "I") ∈ lw_tbl := List.mem_of_getElem? (i := 225) (by decide +kernel)
theorem wd_227 : (Jvm.Cond.lays "StreamPair$Supply" "StreamPair$Supply" "una" "I") ∈ lw_tbl := List.mem_of_getElem? (i := 227) (by decide +kernel)
theorem wd_229 : (Jvm.Cond.lays "StreamPair$Supply" "StreamPair$Supply" "nxt" "I") ∈ lw_tbl := List.mem_of_getElem? (i := 229) (by decide +kernel)
theorem wd_231 : (Jvm.Cond.lays "StreamPair$Supply" "StreamPair$Supply" "max" "I") ∈ lw_tbl := List.mem_of_getElem? (i := 231) (by decide +kernel)
theorem wd_233 : (Jvm.Cond.lays "StreamPair$Supply" "StreamPair$Supply" "fin" "I") ∈ lw_tbl := List.mem_of_getElem? (i := 233) (by decide +kernel)
theorem wd_235 : (Jvm.Cond.lays "StreamPair$Supply" "StreamPair$Supply" "closed" "Z") ∈ lw_tbl := List.mem_of_getElem? (i := 235) (by decide +kernel)
theorem wd_237 : (Jvm.Cond.lays "StreamPair$Supply" "StreamPair$Supply" "far" "I") ∈ lw_tbl := List.mem_of_getElem? (i := 237) (by decide +kernel)
theorem wd_239 : (Jvm.Cond.lays "StreamPair$Supply" "StreamPair$Supply" "wl1" "I") ∈ lw_tbl := List.mem_of_getElem? (i := 239) (by decide +kernel)
theorem wd_241 : (Jvm.Cond.lays "StreamPair$Supply" "StreamPair$Supply" "wl2" "I") ∈ lw_tbl := List.mem_of_getElem? (i := 241) (by decide +kernel)
theorem wd_244 : (Jvm.Cond.classLink "StreamPair$End" (18 : Nat) "StreamPair$Arrivals") ∈ lw_tbl := List.mem_of_getElem? (i := 244) (by decide +kernel)
theorem wd_245 : (Jvm.Cond.instantiable "StreamPair$Arrivals" (8 : Nat)) ∈ lw_tbl := List.mem_of_getElem? (i := 245) (by decide +kernel)
theorem wd_246 : (Jvm.Cond.methodLinkNest "StreamPair$End" (20 : Nat) ({ cls := "StreamPair$Arrivals", name := "<init>", desc := "()V" } : Jvm.MethodName) "StreamPair") ∈ lw_tbl := List.mem_of_getElem? (i := 246) (by decide +kernel)
theorem wd_247 : (Jvm.Cond.instanceMethod ({ cls := "StreamPair$Arrivals", name := "<init>", desc := "()V" } : Jvm.MethodName)) ∈ lw_tbl := List.mem_of_getElem? (i := 247) (by decide +kernel)
theorem wd_248 : (Jvm.Cond.code ({ cls := "StreamPair$Arrivals", name := "<init>", desc := "()V" } : Jvm.MethodName) prog_2_method_1_code (1 : Nat) (Option.none : Option Jvm.ClassFile.FieldType)) ∈ lw_tbl := List.mem_of_getElem? (i := 248) (by decide +kernel)
theorem wd_249 : (Jvm.Cond.methodLink "StreamPair$Arrivals" (3 : Nat) ({ cls := "java/lang/Object", name := "<init>", desc := "()V" } : Jvm.MethodName)) ∈ lw_tbl := List.mem_of_getElem? (i := 249) (by decide +kernel)
theorem wd_250 : (Jvm.Cond.constant "StreamPair$Arrivals" (9 : Nat) (65535 : Int32)) ∈ lw_tbl := List.mem_of_getElem? (i := 250) (by decide +kernel)
theorem wd_251 : (Jvm.Cond.fieldLink "StreamPair$Arrivals" (10 : Nat) "StreamPair$Arrivals" "room" "I") ∈ lw_tbl := List.mem_of_getElem? (i := 251) (by decide +kernel)
theorem wd_252 : (Jvm.Cond.fieldLink "StreamPair" (92 : Nat) "StreamPair$Arrivals" "room" "I") ∈ lw_tbl := List.mem_of_getElem? (i := 252) (by decide +kernel)
theorem wd_253 : (Jvm.Cond.fieldLink "StreamPair$Arrivals" (32 : Nat) "StreamPair$Arrivals" "rcv" "I") ∈ lw_tbl := List.mem_of_getElem? (i := 253) (by decide +kernel)
theorem wd_254 : (Jvm.Cond.fieldLink "StreamPair$End" (153 : Nat) "StreamPair$Arrivals" "rcv" "I") ∈ lw_tbl := List.mem_of_getElem? (i := 254) (by decide +kernel)
theorem wd_255 : (Jvm.Cond.fieldLink "StreamPair$Arrivals" (35 : Nat) "StreamPair$Arrivals" "edge" "I") ∈ lw_tbl := List.mem_of_getElem? (i := 255) (by decide +kernel)
theorem wd_256 : (Jvm.Cond.fieldLink "StreamPair$Arrivals" (38 : Nat) "StreamPair$Arrivals" "finTaken" "Z") ∈ lw_tbl := List.mem_of_getElem? (i := 256) (by decide +kernel)
theorem wd_257 : (Jvm.Cond.fieldLink "StreamPair" (139 : Nat) "StreamPair$Arrivals" "finTaken" "Z") ∈ lw_tbl := List.mem_of_getElem? (i := 257) (by decide +kernel)
theorem wd_258 : (Jvm.Cond.fieldLink "StreamPair$Arrivals" (20 : Nat) "StreamPair$Arrivals" "unread" "I") ∈ lw_tbl := List.mem_of_getElem? (i := 258) (by decide +kernel)
theorem wd_259 : (Jvm.Cond.fieldLink "StreamPair" (136 : Nat) "StreamPair$Arrivals" "unread" "I") ∈ lw_tbl := List.mem_of_getElem? (i := 259) (by decide +kernel)
theorem wd_260 : (Jvm.Cond.fieldLink "StreamPair$End" (334 : Nat) "StreamPair$Arrivals" "unread" "I") ∈ lw_tbl := List.mem_of_getElem? (i := 260) (by decide +kernel)
theorem wd_261 : (Jvm.Cond.fieldLink "StreamPair$Arrivals" (23 : Nat) "StreamPair$Arrivals" "kept" "I") ∈ lw_tbl := List.mem_of_getElem? (i := 261) (by decide +kernel)
theorem wd_262 : (Jvm.Cond.fieldLink "StreamPair$End" (349 : Nat) "StreamPair$Arrivals" "kept" "I") ∈ lw_tbl := List.mem_of_getElem? (i := 262) (by decide +kernel)
theorem wd_263 : (Jvm.Cond.fieldLink "StreamPair$Arrivals" (16 : Nat) "StreamPair$Arrivals" "ring" "[S") ∈ lw_tbl := List.mem_of_getElem? (i := 263) (by decide +kernel)
theorem wd_264 : (Jvm.Cond.fieldLink "StreamPair$Arrivals" (42 : Nat) "StreamPair$Arrivals" "firstUnread" "I") ∈ lw_tbl := List.mem_of_getElem? (i := 264) (by decide +kernel)
theorem wd_265 : (Jvm.Cond.lays "StreamPair$Arrivals" "StreamPair$Arrivals" "room" "I") ∈ lw_tbl := List.mem_of_getElem? (i := 265) (by decide +kernel)
theorem wd_267 : (Jvm.Cond.lays "StreamPair$Arrivals" "StreamPair$Arrivals" "rcv" "I") ∈ lw_tbl := List.mem_of_getElem? (i := 267) (by decide +kernel)
theorem wd_269 : (Jvm.Cond.lays "StreamPair$Arrivals" "StreamPair$Arrivals" "edge" "I") ∈ lw_tbl := List.mem_of_getElem? (i := 269) (by decide +kernel)
theorem wd_271 : (Jvm.Cond.lays "StreamPair$Arrivals" "StreamPair$Arrivals" "finTaken" "Z") ∈ lw_tbl := List.mem_of_getElem? (i := 271) (by decide +kernel)
theorem wd_273 : (Jvm.Cond.lays "StreamPair$Arrivals" "StreamPair$Arrivals" "unread" "I") ∈ lw_tbl := List.mem_of_getElem? (i := 273) (by decide +kernel)
theorem wd_275 : (Jvm.Cond.lays "StreamPair$Arrivals" "StreamPair$Arrivals" "kept" "I") ∈ lw_tbl := List.mem_of_getElem? (i := 275) (by decide +kernel)
theorem wd_277 : (Jvm.Cond.lays "StreamPair$Arrivals" "StreamPair$Arrivals" "ring" "[S") ∈ lw_tbl := List.mem_of_getElem? (i := 277) (by decide +kernel)
theorem wd_279 : (Jvm.Cond.lays "StreamPair$Arrivals" "StreamPair$Arrivals" "firstUnread" "I") ∈ lw_tbl := List.mem_of_getElem? (i := 279) (by decide +kernel)
theorem wd_282 : (Jvm.Cond.arrayClass Jvm.ClassFile.FieldType.short) ∈ lw_tbl := List.mem_of_getElem? (i := 282) (by decide +kernel)
theorem wd_283 : (Jvm.Cond.classLink "StreamPair$End" (25 : Nat) "StreamPair$Pace") ∈ lw_tbl := List.mem_of_getElem? (i := 283) (by decide +kernel)
theorem wd_284 : (Jvm.Cond.instantiable "StreamPair$Pace" (9 : Nat)) ∈ lw_tbl := List.mem_of_getElem? (i := 284) (by decide +kernel)
theorem wd_285 : (Jvm.Cond.methodLinkNest "StreamPair$End" (27 : Nat) ({ cls := "StreamPair$Pace", name := "<init>", desc := "()V" } : Jvm.MethodName) "StreamPair") ∈ lw_tbl := List.mem_of_getElem? (i := 285) (by decide +kernel)
theorem wd_286 : (Jvm.Cond.instanceMethod ({ cls := "StreamPair$Pace", name := "<init>", desc := "()V" } : Jvm.MethodName)) ∈ lw_tbl := List.mem_of_getElem? (i := 286) (by decide +kernel)
theorem wd_287 : (Jvm.Cond.code ({ cls := "StreamPair$Pace", name := "<init>", desc := "()V" } : Jvm.MethodName) prog_7_method_1_code (1 : Nat) (Option.none : Option Jvm.ClassFile.FieldType)) ∈ lw_tbl := List.mem_of_getElem? (i := 287) (by decide +kernel)
theorem wd_288 : (Jvm.Cond.methodLink "StreamPair$Pace" (1 : Nat) ({ cls := "java/lang/Object", name := "<init>", desc := "()V" } : Jvm.MethodName)) ∈ lw_tbl := List.mem_of_getElem? (i := 288) (by decide +kernel)
theorem wd_289 : (Jvm.Cond.constantLong "StreamPair$Pace" (13 : Nat) (-1 : Int64)) ∈ lw_tbl := List.mem_of_getElem? (i := 289) (by decide +kernel)
theorem wd_290 : (Jvm.Cond.fieldLink "StreamPair$Pace" (9 : Nat) "StreamPair$Pace" "rto" "I") ∈ lw_tbl := List.mem_of_getElem? (i := 290) (by decide +kernel)
theorem wd_291 : (Jvm.Cond.fieldLink "StreamPair$End" (127 : Nat) "StreamPair$Pace" "rto" "I") ∈ lw_tbl := List.mem_of_getElem? (i := 291) (by decide +kernel)
theorem wd_292 : (Jvm.Cond.fieldLink "StreamPair$Pace" (19 : Nat) "StreamPair$Pace" "tries" "I") ∈ lw_tbl := List.mem_of_getElem? (i := 292) (by decide +kernel)
theorem wd_293 : (Jvm.Cond.fieldLink "StreamPair$End" (202 : Nat) "StreamPair$Pace" "tries" "I") ∈ lw_tbl := List.mem_of_getElem? (i := 293) (by decide +kernel)
theorem wd_294 : (Jvm.Cond.fieldLink "StreamPair$Pace" (22 : Nat) "StreamPair$Pace" "runs" "Z") ∈ lw_tbl := List.mem_of_getElem? (i := 294) (by decide +kernel)
theorem wd_295 : (Jvm.Cond.fieldLink "StreamPair$End" (98 : Nat) "StreamPair$Pace" "runs" "Z") ∈ lw_tbl := List.mem_of_getElem? (i := 295) (by decide +kernel)
theorem wd_296 : (Jvm.Cond.fieldLink "StreamPair" (183 : Nat) "StreamPair$Pace" "runs" "Z") ∈ lw_tbl := List.mem_of_getElem? (i := 296) (by decide +kernel)
theorem wd_297 : (Jvm.Cond.fieldLink "StreamPair$Pace" (32 : Nat) "StreamPair$Pace" "due" "J") ∈ lw_tbl := List.mem_of_getElem? (i := 297) (by decide +kernel)
theorem wd_298 : (Jvm.Cond.fieldLink "StreamPair" (188 : Nat) "StreamPair$Pace" "due" "J") ∈ lw_tbl := List.mem_of_getElem? (i := 298) (by decide +kernel)
theorem wd_299 : (Jvm.Cond.fieldLink "StreamPair$End" (343 : Nat) "StreamPair$Pace" "due" "J") ∈ lw_tbl := List.mem_of_getElem? (i := 299) (by decide +kernel)
theorem wd_300 : (Jvm.Cond.fieldLink "StreamPair$Pace" (15 : Nat) "StreamPair$Pace" "srtt" "J") ∈ lw_tbl := List.mem_of_getElem? (i := 300) (by decide +kernel)
theorem wd_301 : (Jvm.Cond.fieldLink "StreamPair$End" (346 : Nat) "StreamPair$Pace" "srtt" "J") ∈ lw_tbl := List.mem_of_getElem? (i := 301) (by decide +kernel)
theorem wd_302 : (Jvm.Cond.fieldLink "StreamPair$Pace" (26 : Nat) "StreamPair$Pace" "variation" "J") ∈ lw_tbl := List.mem_of_getElem? (i := 302) (by decide +kernel)
theorem wd_303 : (Jvm.Cond.fieldLink "StreamPair$Pace" (29 : Nat) "StreamPair$Pace" "timed" "Z") ∈ lw_tbl := List.mem_of_getElem? (i := 303) (by decide +kernel)
theorem wd_304 : (Jvm.Cond.fieldLink "StreamPair$Pace" (35 : Nat) "StreamPair$Pace" "timedNumber" "I") ∈ lw_tbl := List.mem_of_getElem? (i := 304) (by decide +kernel)
theorem wd_305 : (Jvm.Cond.fieldLink "StreamPair$Pace" (38 : Nat) "StreamPair$Pace" "timedAt" "J") ∈ lw_tbl := List.mem_of_getElem? (i := 305) (by decide +kernel)
theorem wd_306 : (Jvm.Cond.lays "StreamPair$Pace" "StreamPair$Pace" "rto" "I") ∈ lw_tbl := List.mem_of_getElem? (i := 306) (by decide +kernel)
theorem wd_308 : (Jvm.Cond.lays "StreamPair$Pace" "StreamPair$Pace" "tries" "I") ∈ lw_tbl := List.mem_of_getElem? (i := 308) (by decide +kernel)
theorem wd_310 : (Jvm.Cond.lays "StreamPair$Pace" "StreamPair$Pace" "runs" "Z") ∈ lw_tbl := List.mem_of_getElem? (i := 310) (by decide +kernel)
theorem wd_312 : (Jvm.Cond.lays "StreamPair$Pace" "StreamPair$Pace" "due" "J") ∈ lw_tbl := List.mem_of_getElem? (i := 312) (by decide +kernel)
theorem wd_314 : (Jvm.Cond.lays "StreamPair$Pace" "StreamPair$Pace" "srtt" "J") ∈ lw_tbl := List.mem_of_getElem? (i := 314) (by decide +kernel)
theorem wd_316 : (Jvm.Cond.lays "StreamPair$Pace" "StreamPair$Pace" "variation" "J") ∈ lw_tbl := List.mem_of_getElem? (i := 316) (by decide +kernel)
theorem wd_318 : (Jvm.Cond.lays "StreamPair$Pace" "StreamPair$Pace" "timed" "Z") ∈ lw_tbl := List.mem_of_getElem? (i := 318) (by decide +kernel)
theorem wd_320 : (Jvm.Cond.lays "StreamPair$Pace" "StreamPair$Pace" "timedNumber" "I") ∈ lw_tbl := List.mem_of_getElem? (i := 320) (by decide +kernel)
theorem wd_322 : (Jvm.Cond.lays "StreamPair$Pace" "StreamPair$Pace" "timedAt" "J") ∈ lw_tbl := List.mem_of_getElem? (i := 322) (by decide +kernel)
theorem wd_325 : (Jvm.Cond.classLink "StreamPair$End" (32 : Nat) "StreamPair$Crowd") ∈ lw_tbl := List.mem_of_getElem? (i := 325) (by decide +kernel)
theorem wd_326 : (Jvm.Cond.instantiable "StreamPair$Crowd" (4 : Nat)) ∈ lw_tbl := List.mem_of_getElem? (i := 326) (by decide +kernel)
theorem wd_327 : (Jvm.Cond.methodLinkNest "StreamPair$End" (34 : Nat) ({ cls := "StreamPair$Crowd", name := "<init>", desc := "()V" } : Jvm.MethodName) "StreamPair") ∈ lw_tbl := List.mem_of_getElem? (i := 327) (by decide +kernel)
theorem wd_328 : (Jvm.Cond.instanceMethod ({ cls := "StreamPair$Crowd", name := "<init>", desc := "()V" } : Jvm.MethodName)) ∈ lw_tbl := List.mem_of_getElem? (i := 328) (by decide +kernel)
theorem wd_329 : (Jvm.Cond.code ({ cls := "StreamPair$Crowd", name := "<init>", desc := "()V" } : Jvm.MethodName) prog_4_method_1_code (1 : Nat) (Option.none : Option Jvm.ClassFile.FieldType)) ∈ lw_tbl := List.mem_of_getElem? (i := 329) (by decide +kernel)
theorem wd_330 : (Jvm.Cond.methodLink "StreamPair$Crowd" (1 : Nat) ({ cls := "java/lang/Object", name := "<init>", desc := "()V" } : Jvm.MethodName)) ∈ lw_tbl := List.mem_of_getElem? (i := 330) (by decide +kernel)
theorem wd_331 : (Jvm.Cond.constant "StreamPair$Crowd" (9 : Nat) (65535 : Int32)) ∈ lw_tbl := List.mem_of_getElem? (i := 331) (by decide +kernel)
theorem wd_332 : (Jvm.Cond.fieldLink "StreamPair$Crowd" (14 : Nat) "StreamPair$Crowd" "segment" "I") ∈ lw_tbl := List.mem_of_getElem? (i := 332) (by decide +kernel)
theorem wd_333 : (Jvm.Cond.fieldLink "StreamPair$End" (108 : Nat) "StreamPair$Crowd" "segment" "I") ∈ lw_tbl := List.mem_of_getElem? (i := 333) (by decide +kernel)
theorem wd_334 : (Jvm.Cond.fieldLink "StreamPair$Crowd" (17 : Nat) "StreamPair$Crowd" "cwnd" "I") ∈ lw_tbl := List.mem_of_getElem? (i := 334) (by decide +kernel)
theorem wd_335 : (Jvm.Cond.fieldLink "StreamPair$End" (190 : Nat) "StreamPair$Crowd" "cwnd" "I") ∈ lw_tbl := List.mem_of_getElem? (i := 335) (by decide +kernel)
theorem wd_336 : (Jvm.Cond.fieldLink "StreamPair$Crowd" (10 : Nat) "StreamPair$Crowd" "thresh" "I") ∈ lw_tbl := List.mem_of_getElem? (i := 336) (by decide +kernel)
theorem wd_337 : (Jvm.Cond.fieldLink "StreamPair$End" (340 : Nat) "StreamPair$Crowd" "thresh" "I") ∈ lw_tbl := List.mem_of_getElem? (i := 337) (by decide +kernel)
theorem wd_338 : (Jvm.Cond.fieldLink "StreamPair$Crowd" (20 : Nat) "StreamPair$Crowd" "same" "I") ∈ lw_tbl := List.mem_of_getElem? (i := 338) (by decide +kernel)
theorem wd_339 : (Jvm.Cond.fieldLink "StreamPair$End" (309 : Nat) "StreamPair$Crowd" "same" "I") ∈ lw_tbl := List.mem_of_getElem? (i := 339) (by decide +kernel)
theorem wd_340 : (Jvm.Cond.lays "StreamPair$Crowd" "StreamPair$Crowd" "segment" "I") ∈ lw_tbl := List.mem_of_getElem? (i := 340) (by decide +kernel)
theorem wd_342 : (Jvm.Cond.lays "StreamPair$Crowd" "StreamPair$Crowd" "cwnd" "I") ∈ lw_tbl := List.mem_of_getElem? (i := 342) (by decide +kernel)
theorem wd_344 : (Jvm.Cond.lays "StreamPair$Crowd" "StreamPair$Crowd" "thresh" "I") ∈ lw_tbl := List.mem_of_getElem? (i := 344) (by decide +kernel)
theorem wd_346 : (Jvm.Cond.lays "StreamPair$Crowd" "StreamPair$Crowd" "same" "I") ∈ lw_tbl := List.mem_of_getElem? (i := 346) (by decide +kernel)
theorem wd_349 : (Jvm.Cond.fieldLink "StreamPair$End" (43 : Nat) "StreamPair$End" "index" "I") ∈ lw_tbl := List.mem_of_getElem? (i := 349) (by decide +kernel)
theorem wd_350 : (Jvm.Cond.fieldLink "StreamPair" (245 : Nat) "StreamPair$End" "index" "I") ∈ lw_tbl := List.mem_of_getElem? (i := 350) (by decide +kernel)
theorem wd_351 : (Jvm.Cond.fieldLink "StreamPair$End" (46 : Nat) "StreamPair$End" "clock" "LStreamPair$Clock;") ∈ lw_tbl := List.mem_of_getElem? (i := 351) (by decide +kernel)
theorem wd_352 : (Jvm.Cond.fieldLink "StreamPair$End" (50 : Nat) "StreamPair$End" "network" "LStreamPair$Network;") ∈ lw_tbl := List.mem_of_getElem? (i := 352) (by decide +kernel)
theorem wd_353 : (Jvm.Cond.fieldLink "StreamPair$End" (12 : Nat) "StreamPair$End" "supply" "LStreamPair$Supply;") ∈ lw_tbl := List.mem_of_getElem? (i := 353) (by decide +kernel)
theorem wd_354 : (Jvm.Cond.fieldLink "StreamPair" (107 : Nat) "StreamPair$End" "supply" "LStreamPair$Supply;") ∈ lw_tbl := List.mem_of_getElem? (i := 354) (by decide +kernel)
theorem wd_355 : (Jvm.Cond.fieldLink "StreamPair$End" (21 : Nat) "StreamPair$End" "arrivals" "LStreamPair$Arrivals;") ∈ lw_tbl := List.mem_of_getElem? (i := 355) (by decide +kernel)
theorem wd_356 : (Jvm.Cond.fieldLink "StreamPair" (88 : Nat) "StreamPair$End" "arrivals" "LStreamPair$Arrivals;") ∈ lw_tbl := List.mem_of_getElem? (i := 356) (by decide +kernel)
theorem wd_357 : (Jvm.Cond.fieldLink "StreamPair$End" (28 : Nat) "StreamPair$End" "pace" "LStreamPair$Pace;") ∈ lw_tbl := List.mem_of_getElem? (i := 357) (by decide +kernel)
theorem wd_358 : (Jvm.Cond.fieldLink "StreamPair" (179 : Nat) "StreamPair$End" "pace" "LStreamPair$Pace;") ∈ lw_tbl := List.mem_of_getElem? (i := 358) (by decide +kernel)
theorem wd_359 : (Jvm.Cond.fieldLink "StreamPair$End" (35 : Nat) "StreamPair$End" "crowd" "LStreamPair$Crowd;") ∈ lw_tbl := List.mem_of_getElem? (i := 359) (by decide +kernel)
theorem wd_360 : (Jvm.Cond.fieldLink "StreamPair$End" (39 : Nat) "StreamPair$End" "mss" "I") ∈ lw_tbl := List.mem_of_getElem? (i := 360) (by decide +kernel)
theorem wd_361 : (Jvm.Cond.fieldLink "StreamPair" (97 : Nat) "StreamPair$End" "mss" "I") ∈ lw_tbl := List.mem_of_getElem? (i := 361) (by decide +kernel)
theorem wd_362 : (Jvm.Cond.fieldLink "StreamPair$End" (54 : Nat) "StreamPair$End" "state" "I") ∈ lw_tbl := List.mem_of_getElem? (i := 362) (by decide +kernel)
theorem wd_363 : (Jvm.Cond.fieldLink "StreamPair" (102 : Nat) "StreamPair$End" "state" "I") ∈ lw_tbl := List.mem_of_getElem? (i := 363) (by decide +kernel)
theorem wd_364 : (Jvm.Cond.fieldLink "StreamPair$End" (65 : Nat) "StreamPair$End" "ending" "I") ∈ lw_tbl := List.mem_of_getElem? (i := 364) (by decide +kernel)
theorem wd_365 : (Jvm.Cond.fieldLink "StreamPair" (145 : Nat) "StreamPair$End" "ending" "I") ∈ lw_tbl := List.mem_of_getElem? (i := 365) (by decide +kernel)
theorem wd_366 : (Jvm.Cond.fieldLink "StreamPair$End" (68 : Nat) "StreamPair$End" "sent" "I") ∈ lw_tbl := List.mem_of_getElem? (i := 366) (by decide +kernel)
theorem wd_367 : (Jvm.Cond.fieldLink "StreamPair$End" (71 : Nat) "StreamPair$End" "refused" "I") ∈ lw_tbl := List.mem_of_getElem? (i := 367) (by decide +kernel)
theorem wd_368 : (Jvm.Cond.fieldLink "StreamPair$End" (74 : Nat) "StreamPair$End" "port" "I") ∈ lw_tbl := List.mem_of_getElem? (i := 368) (by decide +kernel)
theorem wd_369 : (Jvm.Cond.fieldLink "StreamPair$End" (77 : Nat) "StreamPair$End" "otherPort" "I") ∈ lw_tbl := List.mem_of_getElem? (i := 369) (by decide +kernel)
theorem wd_370 : (Jvm.Cond.laysFinal "StreamPair$End" "StreamPair$End" "index" "I") ∈ lw_tbl := List.mem_of_getElem? (i := 370) (by decide +kernel)
theorem wd_372 : (Jvm.Cond.laysFinal "StreamPair$End" "StreamPair$End" "clock" "LStreamPair$Clock;") ∈ lw_tbl := List.mem_of_getElem? (i := 372) (by decide +kernel)
theorem wd_374 : (Jvm.Cond.laysFinal "StreamPair$End" "StreamPair$End" "network" "LStreamPair$Network;") ∈ lw_tbl := List.mem_of_getElem? (i := 374) (by decide +kernel)
theorem wd_376 : (Jvm.Cond.laysFinal "StreamPair$End" "StreamPair$End" "supply" "LStreamPair$Supply;") ∈ lw_tbl := List.mem_of_getElem? (i := 376) (by decide +kernel)
theorem wd_378 : (Jvm.Cond.laysFinal "StreamPair$End" "StreamPair$End" "arrivals" "LStreamPair$Arrivals;") ∈ lw_tbl := List.mem_of_getElem? (i := 378) (by decide +kernel)
theorem wd_380 : (Jvm.Cond.laysFinal "StreamPair$End" "StreamPair$End" "pace" "LStreamPair$Pace;") ∈ lw_tbl := List.mem_of_getElem? (i := 380) (by decide +kernel)
theorem wd_382 : (Jvm.Cond.laysFinal "StreamPair$End" "StreamPair$End" "crowd" "LStreamPair$Crowd;") ∈ lw_tbl := List.mem_of_getElem? (i := 382) (by decide +kernel)
theorem wd_384 : (Jvm.Cond.lays "StreamPair$End" "StreamPair$End" "mss" "I") ∈ lw_tbl := List.mem_of_getElem? (i := 384) (by decide +kernel)
theorem wd_386 : (Jvm.Cond.lays "StreamPair$End" "StreamPair$End" "state" "I") ∈ lw_tbl := List.mem_of_getElem? (i := 386) (by decide +kernel)
theorem wd_388 : (Jvm.Cond.lays "StreamPair$End" "StreamPair$End" "ending" "I") ∈ lw_tbl := List.mem_of_getElem? (i := 388) (by decide +kernel)
theorem wd_390 : (Jvm.Cond.lays "StreamPair$End" "StreamPair$End" "sent" "I") ∈ lw_tbl := List.mem_of_getElem? (i := 390) (by decide +kernel)
theorem wd_392 : (Jvm.Cond.lays "StreamPair$End" "StreamPair$End" "refused" "I") ∈ lw_tbl := List.mem_of_getElem? (i := 392) (by decide +kernel)
theorem wd_394 : (Jvm.Cond.lays "StreamPair$End" "StreamPair$End" "port" "I") ∈ lw_tbl := List.mem_of_getElem? (i := 394) (by decide +kernel)
theorem wd_396 : (Jvm.Cond.lays "StreamPair$End" "StreamPair$End" "otherPort" "I") ∈ lw_tbl := List.mem_of_getElem? (i := 396) (by decide +kernel)
theorem wd_399 : (Jvm.Cond.fieldLink "StreamPair" (10 : Nat) "StreamPair" "tape" "LStreamPair$Tape;") ∈ lw_tbl := List.mem_of_getElem? (i := 399) (by decide +kernel)
theorem wd_400 : (Jvm.Cond.fieldLink "StreamPair" (19 : Nat) "StreamPair" "clock" "LStreamPair$Clock;") ∈ lw_tbl := List.mem_of_getElem? (i := 400) (by decide +kernel)
theorem wd_401 : (Jvm.Cond.fieldLink "StreamPair" (26 : Nat) "StreamPair" "network" "LStreamPair$Network;") ∈ lw_tbl := List.mem_of_getElem? (i := 401) (by decide +kernel)
theorem wd_402 : (Jvm.Cond.fieldLink "StreamPair" (35 : Nat) "StreamPair" "opener" "LStreamPair$End;") ∈ lw_tbl := List.mem_of_getElem? (i := 402) (by decide +kernel)
theorem wd_403 : (Jvm.Cond.fieldLink "StreamPair" (39 : Nat) "StreamPair" "waiter" "LStreamPair$End;") ∈ lw_tbl := List.mem_of_getElem? (i := 403) (by decide +kernel)
theorem wd_404 : (Jvm.Cond.fieldLink "StreamPair" (63 : Nat) "StreamPair" "connections" "I") ∈ lw_tbl := List.mem_of_getElem? (i := 404) (by decide +kernel)
theorem wd_405 : (Jvm.Cond.laysFinal "StreamPair" "StreamPair" "tape" "LStreamPair$Tape;") ∈ lw_tbl := List.mem_of_getElem? (i := 405) (by decide +kernel)
theorem wd_407 : (Jvm.Cond.laysFinal "StreamPair" "StreamPair" "clock" "LStreamPair$Clock;") ∈ lw_tbl := List.mem_of_getElem? (i := 407) (by decide +kernel)
theorem wd_409 : (Jvm.Cond.laysFinal "StreamPair" "StreamPair" "network" "LStreamPair$Network;") ∈ lw_tbl := List.mem_of_getElem? (i := 409) (by decide +kernel)
theorem wd_411 : (Jvm.Cond.laysFinal "StreamPair" "StreamPair" "opener" "LStreamPair$End;") ∈ lw_tbl := List.mem_of_getElem? (i := 411) (by decide +kernel)
theorem wd_413 : (Jvm.Cond.laysFinal "StreamPair" "StreamPair" "waiter" "LStreamPair$End;") ∈ lw_tbl := List.mem_of_getElem? (i := 413) (by decide +kernel)
theorem wd_415 : (Jvm.Cond.lays "StreamPair" "StreamPair" "connections" "I") ∈ lw_tbl := List.mem_of_getElem? (i := 415) (by decide +kernel)
theorem wd_418 : (Jvm.Cond.methodLink "StreamPairLaw" (89 : Nat) ({ cls := "StreamPair", name := "open", desc := "(II)I" } : Jvm.MethodName)) ∈ lw_tbl := List.mem_of_getElem? (i := 418) (by decide +kernel)
theorem wd_419 : (Jvm.Cond.instanceMethod ({ cls := "StreamPair", name := "open", desc := "(II)I" } : Jvm.MethodName)) ∈ lw_tbl := List.mem_of_getElem? (i := 419) (by decide +kernel)
theorem wd_420 : (Jvm.Cond.selects "StreamPair" ({ cls := "StreamPair", name := "open", desc := "(II)I" } : Jvm.MethodName) ({ cls := "StreamPair", name := "open", desc := "(II)I" } : Jvm.MethodName)) ∈ lw_tbl := List.mem_of_getElem? (i := 420) (by decide +kernel)
theorem wd_421 : (Jvm.Cond.code ({ cls := "StreamPair", name := "open", desc := "(II)I" } : Jvm.MethodName) prog_1_method_4_code (5 : Nat) (Option.some Jvm.ClassFile.FieldType.int)) ∈ lw_tbl := List.mem_of_getElem? (i := 421) (by decide +kernel)
theorem wd_422 : (Jvm.Cond.constant "StreamPair" (66 : Nat) (40000 : Int32)) ∈ lw_tbl := List.mem_of_getElem? (i := 422) (by decide +kernel)
theorem wd_423 : (Jvm.Cond.methodLink "StreamPair" (67 : Nat) ({ cls := "java/lang/Math", name := "floorMod", desc := "(II)I" } : Jvm.MethodName)) ∈ lw_tbl := List.mem_of_getElem? (i := 423) (by decide +kernel)
theorem wd_424 : (Jvm.Cond.static ({ cls := "java/lang/Math", name := "floorMod", desc := "(II)I" } : Jvm.MethodName)) ∈ lw_tbl := List.mem_of_getElem? (i := 424) (by decide +kernel)
theorem wd_425 : (Jvm.Cond.code ({ cls := "java/lang/Math", name := "floorMod", desc := "(II)I" } : Jvm.MethodName) prog_20_method_50_code (3 : Nat) (Option.some Jvm.ClassFile.FieldType.int)) ∈ lw_tbl := List.mem_of_getElem? (i := 425) (by decide +kernel)
theorem wd_426 : (Jvm.Cond.methodLink "StreamPair" (73 : Nat) ({ cls := "StreamPair$Network", name := "forgetAll", desc := "()V" } : Jvm.MethodName)) ∈ lw_tbl := List.mem_of_getElem? (i := 426) (by decide +kernel)
theorem wd_427 : (Jvm.Cond.instanceMethod ({ cls := "StreamPair$Network", name := "forgetAll", desc := "()V" } : Jvm.MethodName)) ∈ lw_tbl := List.mem_of_getElem? (i := 427) (by decide +kernel)
theorem wd_428 : (Jvm.Cond.selects "StreamPair$Network" ({ cls := "StreamPair$Network", name := "forgetAll", desc := "()V" } : Jvm.MethodName) ({ cls := "StreamPair$Network", name := "forgetAll", desc := "()V" } : Jvm.MethodName)) ∈ lw_tbl := List.mem_of_getElem? (i := 428) (by decide +kernel)
theorem wd_429 : (Jvm.Cond.code ({ cls := "StreamPair$Network", name := "forgetAll", desc := "()V" } : Jvm.MethodName) prog_6_method_5_code (2 : Nat) (Option.none : Option Jvm.ClassFile.FieldType)) ∈ lw_tbl := List.mem_of_getElem? (i := 429) (by decide +kernel)
theorem wd_430 : (Jvm.Cond.methodLink "StreamPair$Network" (19 : Nat) ({ cls := "java/util/ArrayList", name := "size", desc := "()I" } : Jvm.MethodName)) ∈ lw_tbl := List.mem_of_getElem? (i := 430) (by decide +kernel)
theorem wd_431 : (Jvm.Cond.instanceMethod ({ cls := "java/util/ArrayList", name := "size", desc := "()I" } : Jvm.MethodName)) ∈ lw_tbl := List.mem_of_getElem? (i := 431) (by decide +kernel)
theorem wd_432 : (Jvm.Cond.selects "java/util/ArrayList" ({ cls := "java/util/ArrayList", name := "size", desc := "()I" } : Jvm.MethodName) ({ cls := "java/util/ArrayList", name := "size", desc := "()I" } : Jvm.MethodName)) ∈ lw_tbl := List.mem_of_getElem? (i := 432) (by decide +kernel)
theorem wd_433 : (Jvm.Cond.code ({ cls := "java/util/ArrayList", name := "size", desc := "()I" } : Jvm.MethodName) prog_28_method_8_code (1 : Nat) (Option.some Jvm.ClassFile.FieldType.int)) ∈ lw_tbl := List.mem_of_getElem? (i := 433) (by decide +kernel)
theorem wd_434 : (Jvm.Cond.methodLink "StreamPair$Network" (60 : Nat) ({ cls := "java/util/ArrayList", name := "get", desc := "(I)Ljava/lang/Object;" } : Jvm.MethodName)) ∈ lw_tbl := List.mem_of_getElem? (i := 434) (by decide +kernel)
theorem wd_435 : (Jvm.Cond.instanceMethod ({ cls := "java/util/ArrayList", name := "get", desc := "(I)Ljava/lang/Object;" } : Jvm.MethodName)) ∈ lw_tbl := List.mem_of_getElem? (i := 435) (by decide +kernel)
theorem wd_436 : (Jvm.Cond.selects "java/util/ArrayList" ({ cls := "java/util/ArrayList", name := "get", desc := "(I)Ljava/lang/Object;" } : Jvm.MethodName) ({ cls := "java/util/ArrayList", name := "get", desc := "(I)Ljava/lang/Object;" } : Jvm.MethodName)) ∈ lw_tbl := List.mem_of_getElem? (i := 436) (by decide +kernel)
theorem wd_437 : (Jvm.Cond.code ({ cls := "java/util/ArrayList", name := "get", desc := "(I)Ljava/lang/Object;" } : Jvm.MethodName) prog_28_method_20_code (2 : Nat) (Option.some (Jvm.ClassFile.FieldType.object "java/lang/Object"))) ∈ lw_tbl := List.mem_of_getElem? (i := 437) (by decide +kernel)
theorem wd_438 : (Jvm.Cond.methodLink "java/util/ArrayList" (118 : Nat) ({ cls := "java/util/Objects", name := "checkIndex", desc := "(II)I" } : Jvm.MethodName)) ∈ lw_tbl := List.mem_of_getElem? (i := 438) (by decide +kernel)
theorem wd_439 : (Jvm.Cond.static ({ cls := "java/util/Objects", name := "checkIndex", desc := "(II)I" } : Jvm.MethodName)) ∈ lw_tbl := List.mem_of_getElem? (i := 439) (by decide +kernel)
theorem wd_440 : (Jvm.Cond.code ({ cls := "java/util/Objects", name := "checkIndex", desc := "(II)I" } : Jvm.MethodName) prog_33_method_17_code (2 : Nat) (Option.some Jvm.ClassFile.FieldType.int)) ∈ lw_tbl := List.mem_of_getElem? (i := 440) (by decide +kernel)
theorem wd_441 : (Jvm.Cond.methodLink "java/util/Objects" (105 : Nat) ({ cls := "jdk/internal/util/Preconditions", name := "checkIndex", desc := "(IILjava/util/function/BiFunction;)I" } : Jvm.MethodName)) ∈ lw_tbl := List.mem_of_getElem? (i := 441) (by decide +kernel)
theorem wd_442 : (Jvm.Cond.static ({ cls := "jdk/internal/util/Preconditions", name := "checkIndex", desc := "(IILjava/util/function/BiFunction;)I" } : Jvm.MethodName)) ∈ lw_tbl := List.mem_of_getElem? (i := 442) (by decide +kernel)
theorem wd_443 : (Jvm.Cond.code ({ cls := "jdk/internal/util/Preconditions", name := "checkIndex", desc := "(IILjava/util/function/BiFunction;)I" } : Jvm.MethodName) prog_37_method_11_code (3 : Nat) (Option.some Jvm.ClassFile.FieldType.int)) ∈ lw_tbl := List.mem_of_getElem? (i := 443) (by decide +kernel)
theorem wd_444 : (Jvm.Cond.methodLink "java/util/ArrayList" (123 : Nat) ({ cls := "java/util/ArrayList", name := "elementData", desc := "(I)Ljava/lang/Object;" } : Jvm.MethodName)) ∈ lw_tbl := List.mem_of_getElem? (i := 444) (by decide +kernel)
theorem wd_445 : (Jvm.Cond.instanceMethod ({ cls := "java/util/ArrayList", name := "elementData", desc := "(I)Ljava/lang/Object;" } : Jvm.MethodName)) ∈ lw_tbl := List.mem_of_getElem? (i := 445) (by decide +kernel)
theorem wd_446 : (Jvm.Cond.selects "java/util/ArrayList" ({ cls := "java/util/ArrayList", name := "elementData", desc := "(I)Ljava/lang/Object;" } : Jvm.MethodName) ({ cls := "java/util/ArrayList", name := "elementData", desc := "(I)Ljava/lang/Object;" } : Jvm.MethodName)) ∈ lw_tbl := List.mem_of_getElem? (i := 446) (by decide +kernel)
theorem wd_447 : (Jvm.Cond.code ({ cls := "java/util/ArrayList", name := "elementData", desc := "(I)Ljava/lang/Object;" } : Jvm.MethodName) prog_28_method_18_code (2 : Nat) (Option.some (Jvm.ClassFile.FieldType.object "java/lang/Object"))) ∈ lw_tbl := List.mem_of_getElem? (i := 447) (by decide +kernel)
theorem wd_448 : (Jvm.Cond.classLink "StreamPair$Network" (31 : Nat) "StreamPair$Segment") ∈ lw_tbl := List.mem_of_getElem? (i := 448) (by decide +kernel)
theorem wd_449 : (Jvm.Cond.methodLink "StreamPair$Network" (42 : Nat) ({ cls := "java/util/ArrayList", name := "add", desc := "(Ljava/lang/Object;)Z" } : Jvm.MethodName)) ∈ lw_tbl := List.mem_of_getElem? (i := 449) (by decide +kernel)
theorem wd_450 : (Jvm.Cond.instanceMethod ({ cls := "java/util/ArrayList", name := "add", desc := "(Ljava/lang/Object;)Z" } : Jvm.MethodName)) ∈ lw_tbl := List.mem_of_getElem? (i := 450) (by decide +kernel)
theorem wd_451 : (Jvm.Cond.selects "java/util/ArrayList" ({ cls := "java/util/ArrayList", name := "add", desc := "(Ljava/lang/Object;)Z" } : Jvm.MethodName) ({ cls := "java/util/ArrayList", name := "add", desc := "(Ljava/lang/Object;)Z" } : Jvm.MethodName)) ∈ lw_tbl := List.mem_of_getElem? (i := 451) (by decide +kernel)
theorem wd_452 : (Jvm.Cond.code ({ cls := "java/util/ArrayList", name := "add", desc := "(Ljava/lang/Object;)Z" } : Jvm.MethodName) prog_28_method_25_code (2 : Nat) (Option.some Jvm.ClassFile.FieldType.boolean)) ∈ lw_tbl := List.mem_of_getElem? (i := 452) (by decide +kernel)
theorem wd_453 : (Jvm.Cond.methodLink "java/util/ArrayList" (131 : Nat) ({ cls := "java/util/ArrayList", name := "add", desc := "(Ljava/lang/Object;[Ljava/lang/Object;I)V" } : Jvm.MethodName)) ∈ lw_tbl := List.mem_of_getElem? (i := 453) (by decide +kernel)
theorem wd_455 : (Jvm.Cond.instanceMethod ({ cls := "java/util/ArrayList", name := "add", desc := "(Ljava/lang/Object;[Ljava/lang/Object;I)V" } : Jvm.MethodName)) ∈ lw_tbl := List.mem_of_getElem? (i := 455) (by decide +kernel)
theorem wd_456 : (Jvm.Cond.code ({ cls := "java/util/ArrayList", name := "add", desc := "(Ljava/lang/Object;[Ljava/lang/Object;I)V" } : Jvm.MethodName) prog_28_method_24_code (4 : Nat) (Option.none : Option Jvm.ClassFile.FieldType)) ∈ lw_tbl := List.mem_of_getElem? (i := 456) (by decide +kernel)
theorem wd_457 : (Jvm.Cond.methodLink "java/util/ArrayList" (129 : Nat) ({ cls := "java/util/ArrayList", name := "grow", desc := "()[Ljava/lang/Object;" } : Jvm.MethodName)) ∈ lw_tbl := List.mem_of_getElem? (i := 457) (by decide +kernel)
theorem wd_459 : (Jvm.Cond.instanceMethod ({ cls := "java/util/ArrayList", name := "grow", desc := "()[Ljava/lang/Object;" } : Jvm.MethodName)) ∈ lw_tbl := List.mem_of_getElem? (i := 459) (by decide +kernel)
theorem wd_460 : (Jvm.Cond.code ({ cls := "java/util/ArrayList", name := "grow", desc := "()[Ljava/lang/Object;" } : Jvm.MethodName) prog_28_method_7_code (1 : Nat) (Option.some (Jvm.ClassFile.FieldType.array (Jvm.ClassFile.FieldType.object "java/lang/Object")))) ∈ lw_tbl := List.mem_of_getElem? (i := 460) (by decide +kernel)
theorem wd_461 : (Jvm.Cond.methodLink "java/util/ArrayList" (69 : Nat) ({ cls := "java/util/ArrayList", name := "grow", desc := "(I)[Ljava/lang/Object;" } : Jvm.MethodName)) ∈ lw_tbl := List.mem_of_getElem? (i := 461) (by decide +kernel)
theorem wd_463 : (Jvm.Cond.instanceMethod ({ cls := "java/util/ArrayList", name := "grow", desc := "(I)[Ljava/lang/Object;" } : Jvm.MethodName)) ∈ lw_tbl := List.mem_of_getElem? (i := 463) (by decide +kernel)
theorem wd_464 : (Jvm.Cond.code ({ cls := "java/util/ArrayList", name := "grow", desc := "(I)[Ljava/lang/Object;" } : Jvm.MethodName) prog_28_method_6_code (4 : Nat) (Option.some (Jvm.ClassFile.FieldType.array (Jvm.ClassFile.FieldType.object "java/lang/Object")))) ∈ lw_tbl := List.mem_of_getElem? (i := 464) (by decide +kernel)
theorem wd_465 : (Jvm.Cond.methodLink "java/util/ArrayList" (73 : Nat) ({ cls := "jdk/internal/util/ArraysSupport", name := "newLength", desc := "(III)I" } : Jvm.MethodName)) ∈ lw_tbl := List.mem_of_getElem? (i := 465) (by decide +kernel)
theorem wd_466 : (Jvm.Cond.static ({ cls := "jdk/internal/util/ArraysSupport", name := "newLength", desc := "(III)I" } : Jvm.MethodName)) ∈ lw_tbl := List.mem_of_getElem? (i := 466) (by decide +kernel)
theorem wd_467 : (Jvm.Cond.code ({ cls := "jdk/internal/util/ArraysSupport", name := "newLength", desc := "(III)I" } : Jvm.MethodName) prog_36_method_27_code (4 : Nat) (Option.some Jvm.ClassFile.FieldType.int)) ∈ lw_tbl := List.mem_of_getElem? (i := 467) (by decide +kernel)
theorem wd_468 : (Jvm.Cond.methodLink "jdk/internal/util/ArraysSupport" (194 : Nat) ({ cls := "java/lang/Math", name := "max", desc := "(II)I" } : Jvm.MethodName)) ∈ lw_tbl := List.mem_of_getElem? (i := 468) (by decide +kernel)
theorem wd_469 : (Jvm.Cond.static ({ cls := "java/lang/Math", name := "max", desc := "(II)I" } : Jvm.MethodName)) ∈ lw_tbl := List.mem_of_getElem? (i := 469) (by decide +kernel)
theorem wd_470 : (Jvm.Cond.code ({ cls := "java/lang/Math", name := "max", desc := "(II)I" } : Jvm.MethodName) prog_20_method_65_code (2 : Nat) (Option.some Jvm.ClassFile.FieldType.int)) ∈ lw_tbl := List.mem_of_getElem? (i := 470) (by decide +kernel)
theorem wd_471 : (Jvm.Cond.constant "jdk/internal/util/ArraysSupport" (200 : Nat) (2147483639 : Int32)) ∈ lw_tbl := List.mem_of_getElem? (i := 471) (by decide +kernel)
theorem wd_472 : (Jvm.Cond.methodLink "jdk/internal/util/ArraysSupport" (201 : Nat) ({ cls := "jdk/internal/util/ArraysSupport", name := "hugeLength", desc := "(II)I" } : Jvm.MethodName)) ∈ lw_tbl := List.mem_of_getElem? (i := 472) (by decide +kernel)
theorem wd_473 : (Jvm.Cond.static ({ cls := "jdk/internal/util/ArraysSupport", name := "hugeLength", desc := "(II)I" } : Jvm.MethodName)) ∈ lw_tbl := List.mem_of_getElem? (i := 473) (by decide +kernel)
theorem wd_474 : (Jvm.Cond.code ({ cls := "jdk/internal/util/ArraysSupport", name := "hugeLength", desc := "(II)I" } : Jvm.MethodName) prog_36_method_28_code (3 : Nat) (Option.some Jvm.ClassFile.FieldType.int)) ∈ lw_tbl := List.mem_of_getElem? (i := 474) (by decide +kernel)
theorem wd_475 : (Jvm.Cond.methodLink "java/util/ArrayList" (66 : Nat) ({ cls := "java/util/Arrays", name := "copyOf", desc := "([Ljava/lang/Object;I)[Ljava/lang/Object;" } : Jvm.MethodName)) ∈ lw_tbl := List.mem_of_getElem? (i := 475) (by decide +kernel)
theorem wd_476 : (Jvm.Cond.static ({ cls := "java/util/Arrays", name := "copyOf", desc := "([Ljava/lang/Object;I)[Ljava/lang/Object;" } : Jvm.MethodName)) ∈ lw_tbl := List.mem_of_getElem? (i := 476) (by decide +kernel)
theorem wd_477 : (Jvm.Cond.code ({ cls := "java/util/Arrays", name := "copyOf", desc := "([Ljava/lang/Object;I)[Ljava/lang/Object;" } : Jvm.MethodName) prog_29_method_119_code (2 : Nat) (Option.some (Jvm.ClassFile.FieldType.array (Jvm.ClassFile.FieldType.object "java/lang/Object")))) ∈ lw_tbl := List.mem_of_getElem? (i := 477) (by decide +kernel)
theorem wd_478 : (Jvm.Cond.methodLink "java/util/Arrays" (86 : Nat) ({ cls := "java/lang/Object", name := "getClass", desc := "()Ljava/lang/Class;" } : Jvm.MethodName)) ∈ lw_tbl := List.mem_of_getElem? (i := 478) (by decide +kernel)
theorem wd_479 : (Jvm.Cond.instanceMethod ({ cls := "java/lang/Object", name := "getClass", desc := "()Ljava/lang/Class;" } : Jvm.MethodName)) ∈ lw_tbl := List.mem_of_getElem? (i := 479) (by decide +kernel)
theorem wd_480 : (Jvm.Cond.sameMethod "java/lang/Object" "java/lang/Object" "getClass" "()Ljava/lang/Class;") ∈ lw_tbl := List.mem_of_getElem? (i := 480) (by decide +kernel)
theorem wd_481 : (Jvm.Cond.selects "StreamPair" ({ cls := "java/lang/Object", name := "getClass", desc := "()Ljava/lang/Class;" } : Jvm.MethodName) ({ cls := "java/lang/Object", name := "getClass", desc := "()Ljava/lang/Class;" } : Jvm.MethodName)) ∈ lw_tbl := List.mem_of_getElem? (i := 481) (by decide +kernel)
theorem wd_482 : (Jvm.Cond.selects "StreamPair$Arrivals" ({ cls := "java/lang/Object", name := "getClass", desc := "()Ljava/lang/Class;" } : Jvm.MethodName) ({ cls := "java/lang/Object", name := "getClass", desc := "()Ljava/lang/Class;" } : Jvm.MethodName)) ∈ lw_tbl := List.mem_of_getElem? (i := 482) (by decide +kernel)
theorem wd_483 : (Jvm.Cond.selects "StreamPair$Clock" ({ cls := "java/lang/Object", name := "getClass", desc := "()Ljava/lang/Class;" } : Jvm.MethodName) ({ cls := "java/lang/Object", name := "getClass", desc := "()Ljava/lang/Class;" } : Jvm.MethodName)) ∈ lw_tbl := List.mem_of_getElem? (i := 483) (by decide +kernel)
theorem wd_484 : (Jvm.Cond.selects "StreamPair$Crowd" ({ cls := "java/lang/Object", name := "getClass", desc := "()Ljava/lang/Class;" } : Jvm.MethodName) ({ cls := "java/lang/Object", name := "getClass", desc := "()Ljava/lang/Class;" } : Jvm.MethodName)) ∈ lw_tbl := List.mem_of_getElem? (i := 484) (by decide +kernel)
theorem wd_485 : (Jvm.Cond.selects "StreamPair$End" ({ cls := "java/lang/Object", name := "getClass", desc := "()Ljava/lang/Class;" } : Jvm.MethodName) ({ cls := "java/lang/Object", name := "getClass", desc := "()Ljava/lang/Class;" } : Jvm.MethodName)) ∈ lw_tbl := List.mem_of_getElem? (i := 485) (by decide +kernel)
theorem wd_486 : (Jvm.Cond.selects "StreamPair$Network" ({ cls := "java/lang/Object", name := "getClass", desc := "()Ljava/lang/Class;" } : Jvm.MethodName) ({ cls := "java/lang/Object", name := "getClass", desc := "()Ljava/lang/Class;" } : Jvm.MethodName)) ∈ lw_tbl := List.mem_of_getElem? (i := 486) (by decide +kernel)
theorem wd_487 : (Jvm.Cond.selects "StreamPair$Pace" ({ cls := "java/lang/Object", name := "getClass", desc := "()Ljava/lang/Class;" } : Jvm.MethodName) ({ cls := "java/lang/Object", name := "getClass", desc := "()Ljava/lang/Class;" } : Jvm.MethodName)) ∈ lw_tbl := List.mem_of_getElem? (i := 487) (by decide +kernel)
theorem wd_488 : (Jvm.Cond.selects "StreamPair$Segment" ({ cls := "java/lang/Object", name := "getClass", desc := "()Ljava/lang/Class;" } : Jvm.MethodName) ({ cls := "java/lang/Object", name := "getClass", desc := "()Ljava/lang/Class;" } : Jvm.MethodName)) ∈ lw_tbl := List.mem_of_getElem? (i := 488) (by decide +kernel)
theorem wd_489 : (Jvm.Cond.selects "StreamPair$Supply" ({ cls := "java/lang/Object", name := "getClass", desc := "()Ljava/lang/Class;" } : Jvm.MethodName) ({ cls := "java/lang/Object", name := "getClass", desc := "()Ljava/lang/Class;" } : Jvm.MethodName)) ∈ lw_tbl := List.mem_of_getElem? (i := 489) (by decide +kernel)
theorem wd_490 : (Jvm.Cond.selects "StreamPair$Tape" ({ cls := "java/lang/Object", name := "getClass", desc := "()Ljava/lang/Class;" } : Jvm.MethodName) ({ cls := "java/lang/Object", name := "getClass", desc := "()Ljava/lang/Class;" } : Jvm.MethodName)) ∈ lw_tbl := List.mem_of_getElem? (i := 490) (by decide +kernel)
theorem wd_491 : (Jvm.Cond.selects "StreamPairModel" ({ cls := "java/lang/Object", name := "getClass", desc := "()Ljava/lang/Class;" } : Jvm.MethodName) ({ cls := "java/lang/Object", name := "getClass", desc := "()Ljava/lang/Class;" } : Jvm.MethodName)) ∈ lw_tbl := List.mem_of_getElem? (i := 491) (by decide +kernel)
theorem wd_492 : (Jvm.Cond.selects "java/lang/IllegalArgumentException" ({ cls := "java/lang/Object", name := "getClass", desc := "()Ljava/lang/Class;" } : Jvm.MethodName) ({ cls := "java/lang/Object", name := "getClass", desc := "()Ljava/lang/Class;" } : Jvm.MethodName)) ∈ lw_tbl := List.mem_of_getElem? (i := 492) (by decide +kernel)
theorem wd_493 : (Jvm.Cond.selects "java/lang/IllegalStateException" ({ cls := "java/lang/Object", name := "getClass", desc := "()Ljava/lang/Class;" } : Jvm.MethodName) ({ cls := "java/lang/Object", name := "getClass", desc := "()Ljava/lang/Class;" } : Jvm.MethodName)) ∈ lw_tbl := List.mem_of_getElem? (i := 493) (by decide +kernel)
theorem wd_494 : (Jvm.Cond.selects "java/lang/IndexOutOfBoundsException" ({ cls := "java/lang/Object", name := "getClass", desc := "()Ljava/lang/Class;" } : Jvm.MethodName) ({ cls := "java/lang/Object", name := "getClass", desc := "()Ljava/lang/Class;" } : Jvm.MethodName)) ∈ lw_tbl := List.mem_of_getElem? (i := 494) (by decide +kernel)
theorem wd_495 : (Jvm.Cond.selects "java/lang/UnsupportedOperationException" ({ cls := "java/lang/Object", name := "getClass", desc := "()Ljava/lang/Class;" } : Jvm.MethodName) ({ cls := "java/lang/Object", name := "getClass", desc := "()Ljava/lang/Class;" } : Jvm.MethodName)) ∈ lw_tbl := List.mem_of_getElem? (i := 495) (by decide +kernel)
theorem wd_496 : (Jvm.Cond.selects "java/util/ArrayList" ({ cls := "java/lang/Object", name := "getClass", desc := "()Ljava/lang/Class;" } : Jvm.MethodName) ({ cls := "java/lang/Object", name := "getClass", desc := "()Ljava/lang/Class;" } : Jvm.MethodName)) ∈ lw_tbl := List.mem_of_getElem? (i := 496) (by decide +kernel)
theorem wd_497 : (Jvm.Cond.selects "java/util/NoSuchElementException" ({ cls := "java/lang/Object", name := "getClass", desc := "()Ljava/lang/Class;" } : Jvm.MethodName) ({ cls := "java/lang/Object", name := "getClass", desc := "()Ljava/lang/Class;" } : Jvm.MethodName)) ∈ lw_tbl := List.mem_of_getElem? (i := 497) (by decide +kernel)
theorem wd_498 : (Jvm.Cond.native ({ cls := "java/lang/Object", name := "getClass", desc := "()Ljava/lang/Class;" } : Jvm.MethodName)) ∈ lw_tbl := List.mem_of_getElem? (i := 498) (by decide +kernel)
theorem wd_499 : (Jvm.Cond.methodLink "java/util/Arrays" (300 : Nat) ({ cls := "java/util/Arrays", name := "copyOf", desc := "([Ljava/lang/Object;ILjava/lang/Class;)[Ljava/lang/Object;" } : Jvm.MethodName)) ∈ lw_tbl := List.mem_of_getElem? (i := 499) (by decide +kernel)
theorem wd_500 : (Jvm.Cond.static ({ cls := "java/util/Arrays", name := "copyOf", desc := "([Ljava/lang/Object;ILjava/lang/Class;)[Ljava/lang/Object;" } : Jvm.MethodName)) ∈ lw_tbl := List.mem_of_getElem? (i := 500) (by decide +kernel)
theorem wd_501 : (Jvm.Cond.code ({ cls := "java/util/Arrays", name := "copyOf", desc := "([Ljava/lang/Object;ILjava/lang/Class;)[Ljava/lang/Object;" } : Jvm.MethodName) prog_29_method_120_code (4 : Nat) (Option.some (Jvm.ClassFile.FieldType.array (Jvm.ClassFile.FieldType.object "java/lang/Object")))) ∈ lw_tbl := List.mem_of_getElem? (i := 501) (by decide +kernel)
theorem wd_502 : (Jvm.Cond.classLink "java/util/Arrays" (110 : Nat) "[Ljava/lang/Object;") ∈ lw_tbl := List.mem_of_getElem? (i := 502) (by decide +kernel)
theorem wd_503 : (Jvm.Cond.arrayOver (Jvm.ClassFile.FieldType.object "java/lang/Object")) ∈ lw_tbl := List.mem_of_getElem? (i := 503) (by decide +kernel)
theorem wd_504 : (Jvm.Cond.classLink "java/util/Arrays" (2 : Nat) "java/lang/Object") ∈ lw_tbl := List.mem_of_getElem? (i := 504) (by decide +kernel)
theorem wd_505 : (Jvm.Cond.methodLink "java/util/Arrays" (304 : Nat) ({ cls := "java/lang/Math", name := "min", desc := "(II)I" } : Jvm.MethodName)) ∈ lw_tbl := List.mem_of_getElem? (i := 505) (by decide +kernel)
theorem wd_506 : (Jvm.Cond.static ({ cls := "java/lang/Math", name := "min", desc := "(II)I" } : Jvm.MethodName)) ∈ lw_tbl := List.mem_of_getElem? (i := 506) (by decide +kernel)
theorem wd_507 : (Jvm.Cond.code ({ cls := "java/lang/Math", name := "min", desc := "(II)I" } : Jvm.MethodName) prog_20_method_69_code (2 : Nat) (Option.some Jvm.ClassFile.FieldType.int)) ∈ lw_tbl := List.mem_of_getElem? (i := 507) (by decide +kernel)
theorem wd_508 : (Jvm.Cond.methodLink "java/util/Arrays" (150 : Nat) ({ cls := "java/lang/System", name := "arraycopy", desc := "(Ljava/lang/Object;ILjava/lang/Object;II)V" } : Jvm.MethodName)) ∈ lw_tbl := List.mem_of_getElem? (i := 508) (by decide +kernel)
theorem wd_509 : (Jvm.Cond.static ({ cls := "java/lang/System", name := "arraycopy", desc := "(Ljava/lang/Object;ILjava/lang/Object;II)V" } : Jvm.MethodName)) ∈ lw_tbl := List.mem_of_getElem? (i := 509) (by decide +kernel)
theorem wd_510 : (Jvm.Cond.native ({ cls := "java/lang/System", name := "arraycopy", desc := "(Ljava/lang/Object;ILjava/lang/Object;II)V" } : Jvm.MethodName)) ∈ lw_tbl := List.mem_of_getElem? (i := 510) (by decide +kernel)
theorem wd_511 : (Jvm.Cond.methodLink "java/util/ArrayList" (79 : Nat) ({ cls := "java/lang/Math", name := "max", desc := "(II)I" } : Jvm.MethodName)) ∈ lw_tbl := List.mem_of_getElem? (i := 511) (by decide +kernel)
theorem wd_512 : (Jvm.Cond.classLink "java/util/ArrayList" (7 : Nat) "java/lang/Object") ∈ lw_tbl := List.mem_of_getElem? (i := 512) (by decide +kernel)
theorem wd_513 : (Jvm.Cond.methodLink "StreamPair$Network" (63 : Nat) ({ cls := "java/util/ArrayList", name := "clear", desc := "()V" } : Jvm.MethodName)) ∈ lw_tbl := List.mem_of_getElem? (i := 513) (by decide +kernel)
theorem wd_514 : (Jvm.Cond.instanceMethod ({ cls := "java/util/ArrayList", name := "clear", desc := "()V" } : Jvm.MethodName)) ∈ lw_tbl := List.mem_of_getElem? (i := 514) (by decide +kernel)
theorem wd_515 : (Jvm.Cond.selects "java/util/ArrayList" ({ cls := "java/util/ArrayList", name := "clear", desc := "()V" } : Jvm.MethodName) ({ cls := "java/util/ArrayList", name := "clear", desc := "()V" } : Jvm.MethodName)) ∈ lw_tbl := List.mem_of_getElem? (i := 515) (by decide +kernel)
theorem wd_516 : (Jvm.Cond.code ({ cls := "java/util/ArrayList", name := "clear", desc := "()V" } : Jvm.MethodName) prog_28_method_40_code (4 : Nat) (Option.none : Option Jvm.ClassFile.FieldType)) ∈ lw_tbl := List.mem_of_getElem? (i := 516) (by decide +kernel)
theorem wd_517 : (Jvm.Cond.methodLink "StreamPair" (76 : Nat) ({ cls := "StreamPair$End", name := "begin", desc := "(IIII)V" } : Jvm.MethodName)) ∈ lw_tbl := List.mem_of_getElem? (i := 517) (by decide +kernel)
theorem wd_518 : (Jvm.Cond.instanceMethod ({ cls := "StreamPair$End", name := "begin", desc := "(IIII)V" } : Jvm.MethodName)) ∈ lw_tbl := List.mem_of_getElem? (i := 518) (by decide +kernel)
theorem wd_519 : (Jvm.Cond.selects "StreamPair$End" ({ cls := "StreamPair$End", name := "begin", desc := "(IIII)V" } : Jvm.MethodName) ({ cls := "StreamPair$End", name := "begin", desc := "(IIII)V" } : Jvm.MethodName)) ∈ lw_tbl := List.mem_of_getElem? (i := 519) (by decide +kernel)
theorem wd_520 : (Jvm.Cond.code ({ cls := "StreamPair$End", name := "begin", desc := "(IIII)V" } : Jvm.MethodName) prog_5_method_2_code (5 : Nat) (Option.none : Option Jvm.ClassFile.FieldType)) ∈ lw_tbl := List.mem_of_getElem? (i := 520) (by decide +kernel)
theorem wd_521 : (Jvm.Cond.methodLink "StreamPair$End" (57 : Nat) ({ cls := "StreamPair$Supply", name := "begin", desc := "(I)V" } : Jvm.MethodName)) ∈ lw_tbl := List.mem_of_getElem? (i := 521) (by decide +kernel)
theorem wd_522 : (Jvm.Cond.instanceMethod ({ cls := "StreamPair$Supply", name := "begin", desc := "(I)V" } : Jvm.MethodName)) ∈ lw_tbl := List.mem_of_getElem? (i := 522) (by decide +kernel)
theorem wd_523 : (Jvm.Cond.selects "StreamPair$Supply" ({ cls := "StreamPair$Supply", name := "begin", desc := "(I)V" } : Jvm.MethodName) ({ cls := "StreamPair$Supply", name := "begin", desc := "(I)V" } : Jvm.MethodName)) ∈ lw_tbl := List.mem_of_getElem? (i := 523) (by decide +kernel)
theorem wd_524 : (Jvm.Cond.code ({ cls := "StreamPair$Supply", name := "begin", desc := "(I)V" } : Jvm.MethodName) prog_9_method_2_code (2 : Nat) (Option.none : Option Jvm.ClassFile.FieldType)) ∈ lw_tbl := List.mem_of_getElem? (i := 524) (by decide +kernel)
theorem wd_525 : (Jvm.Cond.methodLink "StreamPair$End" (61 : Nat) ({ cls := "StreamPair$Arrivals", name := "begin", desc := "()V" } : Jvm.MethodName)) ∈ lw_tbl := List.mem_of_getElem? (i := 525) (by decide +kernel)
theorem wd_526 : (Jvm.Cond.instanceMethod ({ cls := "StreamPair$Arrivals", name := "begin", desc := "()V" } : Jvm.MethodName)) ∈ lw_tbl := List.mem_of_getElem? (i := 526) (by decide +kernel)
theorem wd_527 : (Jvm.Cond.selects "StreamPair$Arrivals" ({ cls := "StreamPair$Arrivals", name := "begin", desc := "()V" } : Jvm.MethodName) ({ cls := "StreamPair$Arrivals", name := "begin", desc := "()V" } : Jvm.MethodName)) ∈ lw_tbl := List.mem_of_getElem? (i := 527) (by decide +kernel)
theorem wd_528 : (Jvm.Cond.code ({ cls := "StreamPair$Arrivals", name := "begin", desc := "()V" } : Jvm.MethodName) prog_2_method_2_code (1 : Nat) (Option.none : Option Jvm.ClassFile.FieldType)) ∈ lw_tbl := List.mem_of_getElem? (i := 528) (by decide +kernel)
theorem wd_529 : (Jvm.Cond.methodLink "StreamPair$Arrivals" (26 : Nat) ({ cls := "java/util/Arrays", name := "fill", desc := "([SS)V" } : Jvm.MethodName)) ∈ lw_tbl := List.mem_of_getElem? (i := 529) (by decide +kernel)
theorem wd_530 : (Jvm.Cond.static ({ cls := "java/util/Arrays", name := "fill", desc := "([SS)V" } : Jvm.MethodName)) ∈ lw_tbl := List.mem_of_getElem? (i := 530) (by decide +kernel)
theorem wd_531 : (Jvm.Cond.code ({ cls := "java/util/Arrays", name := "fill", desc := "([SS)V" } : Jvm.MethodName) prog_29_method_105_code (4 : Nat) (Option.none : Option Jvm.ClassFile.FieldType)) ∈ lw_tbl := List.mem_of_getElem? (i := 531) (by decide +kernel)
theorem wd_532 : (Jvm.Cond.methodLink "StreamPair$End" (63 : Nat) ({ cls := "StreamPair$Pace", name := "begin", desc := "()V" } : Jvm.MethodName)) ∈ lw_tbl := List.mem_of_getElem? (i := 532) (by decide +kernel)
theorem wd_533 : (Jvm.Cond.instanceMethod ({ cls := "StreamPair$Pace", name := "begin", desc := "()V" } : Jvm.MethodName)) ∈ lw_tbl := List.mem_of_getElem? (i := 533) (by decide +kernel)
theorem wd_534 : (Jvm.Cond.selects "StreamPair$Pace" ({ cls := "StreamPair$Pace", name := "begin", desc := "()V" } : Jvm.MethodName) ({ cls := "StreamPair$Pace", name := "begin", desc := "()V" } : Jvm.MethodName)) ∈ lw_tbl := List.mem_of_getElem? (i := 534) (by decide +kernel)
theorem wd_535 : (Jvm.Cond.code ({ cls := "StreamPair$Pace", name := "begin", desc := "()V" } : Jvm.MethodName) prog_7_method_2_code (1 : Nat) (Option.none : Option Jvm.ClassFile.FieldType)) ∈ lw_tbl := List.mem_of_getElem? (i := 535) (by decide +kernel)
theorem wd_536 : (Jvm.Cond.methodLink "StreamPair$End" (64 : Nat) ({ cls := "StreamPair$Crowd", name := "begin", desc := "()V" } : Jvm.MethodName)) ∈ lw_tbl := List.mem_of_getElem? (i := 536) (by decide +kernel)
theorem wd_537 : (Jvm.Cond.instanceMethod ({ cls := "StreamPair$Crowd", name := "begin", desc := "()V" } : Jvm.MethodName)) ∈ lw_tbl := List.mem_of_getElem? (i := 537) (by decide +kernel)
theorem wd_538 : (Jvm.Cond.selects "StreamPair$Crowd" ({ cls := "StreamPair$Crowd", name := "begin", desc := "()V" } : Jvm.MethodName) ({ cls := "StreamPair$Crowd", name := "begin", desc := "()V" } : Jvm.MethodName)) ∈ lw_tbl := List.mem_of_getElem? (i := 538) (by decide +kernel)
theorem wd_539 : (Jvm.Cond.code ({ cls := "StreamPair$Crowd", name := "begin", desc := "()V" } : Jvm.MethodName) prog_4_method_2_code (1 : Nat) (Option.none : Option Jvm.ClassFile.FieldType)) ∈ lw_tbl := List.mem_of_getElem? (i := 539) (by decide +kernel)
theorem wd_540 : (Jvm.Cond.methodLink "StreamPair" (80 : Nat) ({ cls := "StreamPair$End", name := "sendFirstSyn", desc := "()V" } : Jvm.MethodName)) ∈ lw_tbl := List.mem_of_getElem? (i := 540) (by decide +kernel)
theorem wd_541 : (Jvm.Cond.instanceMethod ({ cls := "StreamPair$End", name := "sendFirstSyn", desc := "()V" } : Jvm.MethodName)) ∈ lw_tbl := List.mem_of_getElem? (i := 541) (by decide +kernel)
theorem wd_542 : (Jvm.Cond.selects "StreamPair$End" ({ cls := "StreamPair$End", name := "sendFirstSyn", desc := "()V" } : Jvm.MethodName) ({ cls := "StreamPair$End", name := "sendFirstSyn", desc := "()V" } : Jvm.MethodName)) ∈ lw_tbl := List.mem_of_getElem? (i := 542) (by decide +kernel)
theorem wd_543 : (Jvm.Cond.code ({ cls := "StreamPair$End", name := "sendFirstSyn", desc := "()V" } : Jvm.MethodName) prog_5_method_10_code (1 : Nat) (Option.none : Option Jvm.ClassFile.FieldType)) ∈ lw_tbl := List.mem_of_getElem? (i := 543) (by decide +kernel)
theorem wd_544 : (Jvm.Cond.methodLink "StreamPair$End" (117 : Nat) ({ cls := "StreamPair$End", name := "sendNext", desc := "(II)V" } : Jvm.MethodName)) ∈ lw_tbl := List.mem_of_getElem? (i := 544) (by decide +kernel)
theorem wd_546 : (Jvm.Cond.instanceMethod ({ cls := "StreamPair$End", name := "sendNext", desc := "(II)V" } : Jvm.MethodName)) ∈ lw_tbl := List.mem_of_getElem? (i := 546) (by decide +kernel)
theorem wd_547 : (Jvm.Cond.code ({ cls := "StreamPair$End", name := "sendNext", desc := "(II)V" } : Jvm.MethodName) prog_5_method_11_code (5 : Nat) (Option.none : Option Jvm.ClassFile.FieldType)) ∈ lw_tbl := List.mem_of_getElem? (i := 547) (by decide +kernel)
theorem wd_548 : (Jvm.Cond.methodLink "StreamPair$End" (94 : Nat) ({ cls := "StreamPair$End", name := "send", desc := "(III)V" } : Jvm.MethodName)) ∈ lw_tbl := List.mem_of_getElem? (i := 548) (by decide +kernel)
theorem wd_550 : (Jvm.Cond.instanceMethod ({ cls := "StreamPair$End", name := "send", desc := "(III)V" } : Jvm.MethodName)) ∈ lw_tbl := List.mem_of_getElem? (i := 550) (by decide +kernel)
theorem wd_551 : (Jvm.Cond.code ({ cls := "StreamPair$End", name := "send", desc := "(III)V" } : Jvm.MethodName) prog_5_method_12_code (6 : Nat) (Option.none : Option Jvm.ClassFile.FieldType)) ∈ lw_tbl := List.mem_of_getElem? (i := 551) (by decide +kernel)
theorem wd_552 : (Jvm.Cond.methodLink "StreamPair$End" (143 : Nat) ({ cls := "StreamPair$Arrivals", name := "openWindow", desc := "()I" } : Jvm.MethodName)) ∈ lw_tbl := List.mem_of_getElem? (i := 552) (by decide +kernel)
theorem wd_553 : (Jvm.Cond.instanceMethod ({ cls := "StreamPair$Arrivals", name := "openWindow", desc := "()I" } : Jvm.MethodName)) ∈ lw_tbl := List.mem_of_getElem? (i := 553) (by decide +kernel)
theorem wd_554 : (Jvm.Cond.selects "StreamPair$Arrivals" ({ cls := "StreamPair$Arrivals", name := "openWindow", desc := "()I" } : Jvm.MethodName) ({ cls := "StreamPair$Arrivals", name := "openWindow", desc := "()I" } : Jvm.MethodName)) ∈ lw_tbl := List.mem_of_getElem? (i := 554) (by decide +kernel)
theorem wd_555 : (Jvm.Cond.code ({ cls := "StreamPair$Arrivals", name := "openWindow", desc := "()I" } : Jvm.MethodName) prog_2_method_6_code (2 : Nat) (Option.some Jvm.ClassFile.FieldType.int)) ∈ lw_tbl := List.mem_of_getElem? (i := 555) (by decide +kernel)
theorem wd_556 : (Jvm.Cond.methodLink "StreamPair$Arrivals" (51 : Nat) ({ cls := "StreamPair$Arrivals", name := "free", desc := "()I" } : Jvm.MethodName)) ∈ lw_tbl := List.mem_of_getElem? (i := 556) (by decide +kernel)
theorem wd_557 : (Jvm.Cond.instanceMethod ({ cls := "StreamPair$Arrivals", name := "free", desc := "()I" } : Jvm.MethodName)) ∈ lw_tbl := List.mem_of_getElem? (i := 557) (by decide +kernel)
theorem wd_558 : (Jvm.Cond.selects "StreamPair$Arrivals" ({ cls := "StreamPair$Arrivals", name := "free", desc := "()I" } : Jvm.MethodName) ({ cls := "StreamPair$Arrivals", name := "free", desc := "()I" } : Jvm.MethodName)) ∈ lw_tbl := List.mem_of_getElem? (i := 558) (by decide +kernel)
theorem wd_559 : (Jvm.Cond.code ({ cls := "StreamPair$Arrivals", name := "free", desc := "()I" } : Jvm.MethodName) prog_2_method_4_code (1 : Nat) (Option.some Jvm.ClassFile.FieldType.int)) ∈ lw_tbl := List.mem_of_getElem? (i := 559) (by decide +kernel)
theorem wd_560 : (Jvm.Cond.methodLink "StreamPair$Arrivals" (45 : Nat) ({ cls := "java/lang/Math", name := "max", desc := "(II)I" } : Jvm.MethodName)) ∈ lw_tbl := List.mem_of_getElem? (i := 560) (by decide +kernel)
theorem wd_561 : (Jvm.Cond.methodLink "StreamPair$Arrivals" (55 : Nat) ({ cls := "StreamPair$Arrivals", name := "window", desc := "()I" } : Jvm.MethodName)) ∈ lw_tbl := List.mem_of_getElem? (i := 561) (by decide +kernel)
theorem wd_562 : (Jvm.Cond.instanceMethod ({ cls := "StreamPair$Arrivals", name := "window", desc := "()I" } : Jvm.MethodName)) ∈ lw_tbl := List.mem_of_getElem? (i := 562) (by decide +kernel)
theorem wd_563 : (Jvm.Cond.selects "StreamPair$Arrivals" ({ cls := "StreamPair$Arrivals", name := "window", desc := "()I" } : Jvm.MethodName) ({ cls := "StreamPair$Arrivals", name := "window", desc := "()I" } : Jvm.MethodName)) ∈ lw_tbl := List.mem_of_getElem? (i := 563) (by decide +kernel)
theorem wd_564 : (Jvm.Cond.code ({ cls := "StreamPair$Arrivals", name := "window", desc := "()I" } : Jvm.MethodName) prog_2_method_5_code (1 : Nat) (Option.some Jvm.ClassFile.FieldType.int)) ∈ lw_tbl := List.mem_of_getElem? (i := 564) (by decide +kernel)
theorem wd_565 : (Jvm.Cond.methodLink "StreamPair$End" (146 : Nat) ({ cls := "StreamPair$End", name := "emit", desc := "(IIIII)V" } : Jvm.MethodName)) ∈ lw_tbl := List.mem_of_getElem? (i := 565) (by decide +kernel)
theorem wd_567 : (Jvm.Cond.instanceMethod ({ cls := "StreamPair$End", name := "emit", desc := "(IIIII)V" } : Jvm.MethodName)) ∈ lw_tbl := List.mem_of_getElem? (i := 567) (by decide +kernel)
theorem wd_568 : (Jvm.Cond.code ({ cls := "StreamPair$End", name := "emit", desc := "(IIIII)V" } : Jvm.MethodName) prog_5_method_13_code (9 : Nat) (Option.none : Option Jvm.ClassFile.FieldType)) ∈ lw_tbl := List.mem_of_getElem? (i := 568) (by decide +kernel)
theorem wd_569 : (Jvm.Cond.methodLink "StreamPair$End" (158 : Nat) ({ cls := "StreamPair$Network", name := "place", desc := "(II)LStreamPair$Segment;" } : Jvm.MethodName)) ∈ lw_tbl := List.mem_of_getElem? (i := 569) (by decide +kernel)
theorem wd_570 : (Jvm.Cond.instanceMethod ({ cls := "StreamPair$Network", name := "place", desc := "(II)LStreamPair$Segment;" } : Jvm.MethodName)) ∈ lw_tbl := List.mem_of_getElem? (i := 570) (by decide +kernel)
theorem wd_571 : (Jvm.Cond.selects "StreamPair$Network" ({ cls := "StreamPair$Network", name := "place", desc := "(II)LStreamPair$Segment;" } : Jvm.MethodName) ({ cls := "StreamPair$Network", name := "place", desc := "(II)LStreamPair$Segment;" } : Jvm.MethodName)) ∈ lw_tbl := List.mem_of_getElem? (i := 571) (by decide +kernel)
theorem wd_572 : (Jvm.Cond.code ({ cls := "StreamPair$Network", name := "place", desc := "(II)LStreamPair$Segment;" } : Jvm.MethodName) prog_6_method_2_code (4 : Nat) (Option.some (Jvm.ClassFile.FieldType.object "StreamPair$Segment"))) ∈ lw_tbl := List.mem_of_getElem? (i := 572) (by decide +kernel)
theorem wd_573 : (Jvm.Cond.methodLink "StreamPair$Network" (27 : Nat) ({ cls := "java/util/ArrayList", name := "isEmpty", desc := "()Z" } : Jvm.MethodName)) ∈ lw_tbl := List.mem_of_getElem? (i := 573) (by decide +kernel)
theorem wd_574 : (Jvm.Cond.instanceMethod ({ cls := "java/util/ArrayList", name := "isEmpty", desc := "()Z" } : Jvm.MethodName)) ∈ lw_tbl := List.mem_of_getElem? (i := 574) (by decide +kernel)
theorem wd_575 : (Jvm.Cond.selects "java/util/ArrayList" ({ cls := "java/util/ArrayList", name := "isEmpty", desc := "()Z" } : Jvm.MethodName) ({ cls := "java/util/ArrayList", name := "isEmpty", desc := "()Z" } : Jvm.MethodName)) ∈ lw_tbl := List.mem_of_getElem? (i := 575) (by decide +kernel)
theorem wd_576 : (Jvm.Cond.code ({ cls := "java/util/ArrayList", name := "isEmpty", desc := "()Z" } : Jvm.MethodName) prog_28_method_9_code (1 : Nat) (Option.some Jvm.ClassFile.FieldType.boolean)) ∈ lw_tbl := List.mem_of_getElem? (i := 576) (by decide +kernel)
theorem wd_577 : (Jvm.Cond.instantiable "StreamPair$Segment" (3 : Nat)) ∈ lw_tbl := List.mem_of_getElem? (i := 577) (by decide +kernel)
theorem wd_578 : (Jvm.Cond.methodLinkNest "StreamPair$Network" (33 : Nat) ({ cls := "StreamPair$Segment", name := "<init>", desc := "()V" } : Jvm.MethodName) "StreamPair") ∈ lw_tbl := List.mem_of_getElem? (i := 578) (by decide +kernel)
theorem wd_579 : (Jvm.Cond.instanceMethod ({ cls := "StreamPair$Segment", name := "<init>", desc := "()V" } : Jvm.MethodName)) ∈ lw_tbl := List.mem_of_getElem? (i := 579) (by decide +kernel)
theorem wd_580 : (Jvm.Cond.code ({ cls := "StreamPair$Segment", name := "<init>", desc := "()V" } : Jvm.MethodName) prog_8_method_1_code (1 : Nat) (Option.none : Option Jvm.ClassFile.FieldType)) ∈ lw_tbl := List.mem_of_getElem? (i := 580) (by decide +kernel)
theorem wd_581 : (Jvm.Cond.methodLink "StreamPair$Segment" (3 : Nat) ({ cls := "java/lang/Object", name := "<init>", desc := "()V" } : Jvm.MethodName)) ∈ lw_tbl := List.mem_of_getElem? (i := 581) (by decide +kernel)
theorem wd_582 : (Jvm.Cond.fieldLink "StreamPair$Segment" (9 : Nat) "StreamPair$Segment" "bytes" "[B") ∈ lw_tbl := List.mem_of_getElem? (i := 582) (by decide +kernel)
theorem wd_583 : (Jvm.Cond.fieldLink "StreamPair$Network" (50 : Nat) "StreamPair$Segment" "bytes" "[B") ∈ lw_tbl := List.mem_of_getElem? (i := 583) (by decide +kernel)
theorem wd_584 : (Jvm.Cond.fieldLink "StreamPair$Supply" (65 : Nat) "StreamPair$Segment" "bytes" "[B") ∈ lw_tbl := List.mem_of_getElem? (i := 584) (by decide +kernel)
theorem wd_585 : (Jvm.Cond.fieldLink "StreamPair$Arrivals" (74 : Nat) "StreamPair$Segment" "bytes" "[B") ∈ lw_tbl := List.mem_of_getElem? (i := 585) (by decide +kernel)
theorem wd_586 : (Jvm.Cond.fieldLink "StreamPair" (226 : Nat) "StreamPair$Segment" "bytes" "[B") ∈ lw_tbl := List.mem_of_getElem? (i := 586) (by decide +kernel)
theorem wd_587 : (Jvm.Cond.fieldLink "StreamPair$Segment" (19 : Nat) "StreamPair$Segment" "length" "I") ∈ lw_tbl := List.mem_of_getElem? (i := 587) (by decide +kernel)
theorem wd_588 : (Jvm.Cond.fieldLink "StreamPair$Arrivals" (71 : Nat) "StreamPair$Segment" "length" "I") ∈ lw_tbl := List.mem_of_getElem? (i := 588) (by decide +kernel)
theorem wd_589 : (Jvm.Cond.fieldLink "StreamPair" (227 : Nat) "StreamPair$Segment" "length" "I") ∈ lw_tbl := List.mem_of_getElem? (i := 589) (by decide +kernel)
theorem wd_590 : (Jvm.Cond.fieldLink "StreamPair$Segment" (15 : Nat) "StreamPair$Segment" "to" "I") ∈ lw_tbl := List.mem_of_getElem? (i := 590) (by decide +kernel)
theorem wd_591 : (Jvm.Cond.fieldLink "StreamPair" (201 : Nat) "StreamPair$Segment" "to" "I") ∈ lw_tbl := List.mem_of_getElem? (i := 591) (by decide +kernel)
theorem wd_592 : (Jvm.Cond.lays "StreamPair$Segment" "StreamPair$Segment" "bytes" "[B") ∈ lw_tbl := List.mem_of_getElem? (i := 592) (by decide +kernel)
theorem wd_594 : (Jvm.Cond.lays "StreamPair$Segment" "StreamPair$Segment" "length" "I") ∈ lw_tbl := List.mem_of_getElem? (i := 594) (by decide +kernel)
theorem wd_596 : (Jvm.Cond.lays "StreamPair$Segment" "StreamPair$Segment" "to" "I") ∈ lw_tbl := List.mem_of_getElem? (i := 596) (by decide +kernel)
theorem wd_599 : (Jvm.Cond.methodLink "StreamPair$Network" (34 : Nat) ({ cls := "java/util/ArrayList", name := "remove", desc := "(I)Ljava/lang/Object;" } : Jvm.MethodName)) ∈ lw_tbl := List.mem_of_getElem? (i := 599) (by decide +kernel)
theorem wd_600 : (Jvm.Cond.instanceMethod ({ cls := "java/util/ArrayList", name := "remove", desc := "(I)Ljava/lang/Object;" } : Jvm.MethodName)) ∈ lw_tbl := List.mem_of_getElem? (i := 600) (by decide +kernel)
theorem wd_601 : (Jvm.Cond.selects "java/util/ArrayList" ({ cls := "java/util/ArrayList", name := "remove", desc := "(I)Ljava/lang/Object;" } : Jvm.MethodName) ({ cls := "java/util/ArrayList", name := "remove", desc := "(I)Ljava/lang/Object;" } : Jvm.MethodName)) ∈ lw_tbl := List.mem_of_getElem? (i := 601) (by decide +kernel)
theorem wd_602 : (Jvm.Cond.code ({ cls := "java/util/ArrayList", name := "remove", desc := "(I)Ljava/lang/Object;" } : Jvm.MethodName) prog_28_method_29_code (4 : Nat) (Option.some (Jvm.ClassFile.FieldType.object "java/lang/Object"))) ∈ lw_tbl := List.mem_of_getElem? (i := 602) (by decide +kernel)
theorem wd_603 : (Jvm.Cond.methodLink "java/util/ArrayList" (144 : Nat) ({ cls := "java/util/ArrayList", name := "fastRemove", desc := "([Ljava/lang/Object;I)V" } : Jvm.MethodName)) ∈ lw_tbl := List.mem_of_getElem? (i := 603) (by decide +kernel)
theorem wd_605 : (Jvm.Cond.instanceMethod ({ cls := "java/util/ArrayList", name := "fastRemove", desc := "([Ljava/lang/Object;I)V" } : Jvm.MethodName)) ∈ lw_tbl := List.mem_of_getElem? (i := 605) (by decide +kernel)
theorem wd_606 : (Jvm.Cond.code ({ cls := "java/util/ArrayList", name := "fastRemove", desc := "([Ljava/lang/Object;I)V" } : Jvm.MethodName) prog_28_method_39_code (4 : Nat) (Option.none : Option Jvm.ClassFile.FieldType)) ∈ lw_tbl := List.mem_of_getElem? (i := 606) (by decide +kernel)
theorem wd_607 : (Jvm.Cond.methodLink "java/util/ArrayList" (112 : Nat) ({ cls := "java/lang/System", name := "arraycopy", desc := "(Ljava/lang/Object;ILjava/lang/Object;II)V" } : Jvm.MethodName)) ∈ lw_tbl := List.mem_of_getElem? (i := 607) (by decide +kernel)
theorem wd_608 : (Jvm.Cond.methodLink "StreamPair$Network" (38 : Nat) ({ cls := "StreamPair$Segment", name := "begin", desc := "(II)V" } : Jvm.MethodName)) ∈ lw_tbl := List.mem_of_getElem? (i := 608) (by decide +kernel)
theorem wd_609 : (Jvm.Cond.instanceMethod ({ cls := "StreamPair$Segment", name := "begin", desc := "(II)V" } : Jvm.MethodName)) ∈ lw_tbl := List.mem_of_getElem? (i := 609) (by decide +kernel)
theorem wd_610 : (Jvm.Cond.selects "StreamPair$Segment" ({ cls := "StreamPair$Segment", name := "begin", desc := "(II)V" } : Jvm.MethodName) ({ cls := "StreamPair$Segment", name := "begin", desc := "(II)V" } : Jvm.MethodName)) ∈ lw_tbl := List.mem_of_getElem? (i := 610) (by decide +kernel)
theorem wd_611 : (Jvm.Cond.code ({ cls := "StreamPair$Segment", name := "begin", desc := "(II)V" } : Jvm.MethodName) prog_8_method_2_code (3 : Nat) (Option.none : Option Jvm.ClassFile.FieldType)) ∈ lw_tbl := List.mem_of_getElem? (i := 611) (by decide +kernel)
theorem wd_612 : (Jvm.Cond.methodLink "StreamPair$End" (164 : Nat) ({ cls := "StreamPair$Segment", name := "put", desc := "(III)V" } : Jvm.MethodName)) ∈ lw_tbl := List.mem_of_getElem? (i := 612) (by decide +kernel)
theorem wd_613 : (Jvm.Cond.instanceMethod ({ cls := "StreamPair$Segment", name := "put", desc := "(III)V" } : Jvm.MethodName)) ∈ lw_tbl := List.mem_of_getElem? (i := 613) (by decide +kernel)
theorem wd_614 : (Jvm.Cond.selects "StreamPair$Segment" ({ cls := "StreamPair$Segment", name := "put", desc := "(III)V" } : Jvm.MethodName) ({ cls := "StreamPair$Segment", name := "put", desc := "(III)V" } : Jvm.MethodName)) ∈ lw_tbl := List.mem_of_getElem? (i := 614) (by decide +kernel)
theorem wd_615 : (Jvm.Cond.code ({ cls := "StreamPair$Segment", name := "put", desc := "(III)V" } : Jvm.MethodName) prog_8_method_3_code (5 : Nat) (Option.none : Option Jvm.ClassFile.FieldType)) ∈ lw_tbl := List.mem_of_getElem? (i := 615) (by decide +kernel)
theorem wd_616 : (Jvm.Cond.constant "StreamPair$End" (167 : Nat) (33816576 : Int32)) ∈ lw_tbl := List.mem_of_getElem? (i := 616) (by decide +kernel)
theorem wd_617 : (Jvm.Cond.methodLink "StreamPair$End" (168 : Nat) ({ cls := "StreamPair$Supply", name := "copyTo", desc := "(LStreamPair$Segment;II)V" } : Jvm.MethodName)) ∈ lw_tbl := List.mem_of_getElem? (i := 617) (by decide +kernel)
theorem wd_618 : (Jvm.Cond.instanceMethod ({ cls := "StreamPair$Supply", name := "copyTo", desc := "(LStreamPair$Segment;II)V" } : Jvm.MethodName)) ∈ lw_tbl := List.mem_of_getElem? (i := 618) (by decide +kernel)
theorem wd_619 : (Jvm.Cond.selects "StreamPair$Supply" ({ cls := "StreamPair$Supply", name := "copyTo", desc := "(LStreamPair$Segment;II)V" } : Jvm.MethodName) ({ cls := "StreamPair$Supply", name := "copyTo", desc := "(LStreamPair$Segment;II)V" } : Jvm.MethodName)) ∈ lw_tbl := List.mem_of_getElem? (i := 619) (by decide +kernel)
theorem wd_620 : (Jvm.Cond.code ({ cls := "StreamPair$Supply", name := "copyTo", desc := "(LStreamPair$Segment;II)V" } : Jvm.MethodName) prog_9_method_5_code (5 : Nat) (Option.none : Option Jvm.ClassFile.FieldType)) ∈ lw_tbl := List.mem_of_getElem? (i := 620) (by decide +kernel)
theorem wd_621 : (Jvm.Cond.methodLink "StreamPair$Supply" (54 : Nat) ({ cls := "java/lang/System", name := "arraycopy", desc := "(Ljava/lang/Object;ILjava/lang/Object;II)V" } : Jvm.MethodName)) ∈ lw_tbl := List.mem_of_getElem? (i := 621) (by decide +kernel)
theorem wd_622 : (Jvm.Cond.methodLink "StreamPair$End" (172 : Nat) ({ cls := "StreamPair$Segment", name := "mendChecksum", desc := "()V" } : Jvm.MethodName)) ∈ lw_tbl := List.mem_of_getElem? (i := 622) (by decide +kernel)
theorem wd_623 : (Jvm.Cond.instanceMethod ({ cls := "StreamPair$Segment", name := "mendChecksum", desc := "()V" } : Jvm.MethodName)) ∈ lw_tbl := List.mem_of_getElem? (i := 623) (by decide +kernel)
theorem wd_624 : (Jvm.Cond.selects "StreamPair$Segment" ({ cls := "StreamPair$Segment", name := "mendChecksum", desc := "()V" } : Jvm.MethodName) ({ cls := "StreamPair$Segment", name := "mendChecksum", desc := "()V" } : Jvm.MethodName)) ∈ lw_tbl := List.mem_of_getElem? (i := 624) (by decide +kernel)
theorem wd_625 : (Jvm.Cond.code ({ cls := "StreamPair$Segment", name := "mendChecksum", desc := "()V" } : Jvm.MethodName) prog_8_method_14_code (1 : Nat) (Option.none : Option Jvm.ClassFile.FieldType)) ∈ lw_tbl := List.mem_of_getElem? (i := 625) (by decide +kernel)
theorem wd_626 : (Jvm.Cond.methodLink "StreamPair$Segment" (41 : Nat) ({ cls := "StreamPair$Segment", name := "put", desc := "(III)V" } : Jvm.MethodName)) ∈ lw_tbl := List.mem_of_getElem? (i := 626) (by decide +kernel)
theorem wd_627 : (Jvm.Cond.methodLink "StreamPair$Segment" (37 : Nat) ({ cls := "StreamPair$Segment", name := "wordSum", desc := "()I" } : Jvm.MethodName)) ∈ lw_tbl := List.mem_of_getElem? (i := 627) (by decide +kernel)
theorem wd_628 : (Jvm.Cond.instanceMethod ({ cls := "StreamPair$Segment", name := "wordSum", desc := "()I" } : Jvm.MethodName)) ∈ lw_tbl := List.mem_of_getElem? (i := 628) (by decide +kernel)
theorem wd_629 : (Jvm.Cond.selects "StreamPair$Segment" ({ cls := "StreamPair$Segment", name := "wordSum", desc := "()I" } : Jvm.MethodName) ({ cls := "StreamPair$Segment", name := "wordSum", desc := "()I" } : Jvm.MethodName)) ∈ lw_tbl := List.mem_of_getElem? (i := 629) (by decide +kernel)
theorem wd_630 : (Jvm.Cond.code ({ cls := "StreamPair$Segment", name := "wordSum", desc := "()I" } : Jvm.MethodName) prog_8_method_13_code (4 : Nat) (Option.some Jvm.ClassFile.FieldType.int)) ∈ lw_tbl := List.mem_of_getElem? (i := 630) (by decide +kernel)
theorem wd_631 : (Jvm.Cond.constant "StreamPair$Segment" (40 : Nat) (65535 : Int32)) ∈ lw_tbl := List.mem_of_getElem? (i := 631) (by decide +kernel)
theorem wd_632 : (Jvm.Cond.methodLink "StreamPair$End" (137 : Nat) ({ cls := "StreamPair$Pace", name := "time", desc := "(IJ)V" } : Jvm.MethodName)) ∈ lw_tbl := List.mem_of_getElem? (i := 632) (by decide +kernel)
theorem wd_633 : (Jvm.Cond.instanceMethod ({ cls := "StreamPair$Pace", name := "time", desc := "(IJ)V" } : Jvm.MethodName)) ∈ lw_tbl := List.mem_of_getElem? (i := 633) (by decide +kernel)
theorem wd_634 : (Jvm.Cond.selects "StreamPair$Pace" ({ cls := "StreamPair$Pace", name := "time", desc := "(IJ)V" } : Jvm.MethodName) ({ cls := "StreamPair$Pace", name := "time", desc := "(IJ)V" } : Jvm.MethodName)) ∈ lw_tbl := List.mem_of_getElem? (i := 634) (by decide +kernel)
theorem wd_635 : (Jvm.Cond.code ({ cls := "StreamPair$Pace", name := "time", desc := "(IJ)V" } : Jvm.MethodName) prog_7_method_4_code (4 : Nat) (Option.none : Option Jvm.ClassFile.FieldType)) ∈ lw_tbl := List.mem_of_getElem? (i := 635) (by decide +kernel)
theorem wd_636 : (Jvm.Cond.methodLink "StreamPair$End" (140 : Nat) ({ cls := "StreamPair$Supply", name := "follow", desc := "(I)V" } : Jvm.MethodName)) ∈ lw_tbl := List.mem_of_getElem? (i := 636) (by decide +kernel)
theorem wd_637 : (Jvm.Cond.instanceMethod ({ cls := "StreamPair$Supply", name := "follow", desc := "(I)V" } : Jvm.MethodName)) ∈ lw_tbl := List.mem_of_getElem? (i := 637) (by decide +kernel)
theorem wd_638 : (Jvm.Cond.selects "StreamPair$Supply" ({ cls := "StreamPair$Supply", name := "follow", desc := "(I)V" } : Jvm.MethodName) ({ cls := "StreamPair$Supply", name := "follow", desc := "(I)V" } : Jvm.MethodName)) ∈ lw_tbl := List.mem_of_getElem? (i := 638) (by decide +kernel)
theorem wd_639 : (Jvm.Cond.code ({ cls := "StreamPair$Supply", name := "follow", desc := "(I)V" } : Jvm.MethodName) prog_9_method_7_code (2 : Nat) (Option.none : Option Jvm.ClassFile.FieldType)) ∈ lw_tbl := List.mem_of_getElem? (i := 639) (by decide +kernel)
theorem wd_640 : (Jvm.Cond.methodLink "StreamPair$End" (130 : Nat) ({ cls := "StreamPair$Pace", name := "startTimer", desc := "(JI)V" } : Jvm.MethodName)) ∈ lw_tbl := List.mem_of_getElem? (i := 640) (by decide +kernel)
theorem wd_641 : (Jvm.Cond.instanceMethod ({ cls := "StreamPair$Pace", name := "startTimer", desc := "(JI)V" } : Jvm.MethodName)) ∈ lw_tbl := List.mem_of_getElem? (i := 641) (by decide +kernel)
theorem wd_642 : (Jvm.Cond.selects "StreamPair$Pace" ({ cls := "StreamPair$Pace", name := "startTimer", desc := "(JI)V" } : Jvm.MethodName) ({ cls := "StreamPair$Pace", name := "startTimer", desc := "(JI)V" } : Jvm.MethodName)) ∈ lw_tbl := List.mem_of_getElem? (i := 642) (by decide +kernel)
theorem wd_643 : (Jvm.Cond.code ({ cls := "StreamPair$Pace", name := "startTimer", desc := "(JI)V" } : Jvm.MethodName) prog_7_method_3_code (4 : Nat) (Option.none : Option Jvm.ClassFile.FieldType)) ∈ lw_tbl := List.mem_of_getElem? (i := 643) (by decide +kernel)
theorem wd_644 : (Jvm.Cond.methodLink "StreamPairLaw" (135 : Nat) ({ cls := "StreamPair", name := "count", desc := "(I)I" } : Jvm.MethodName)) ∈ lw_tbl := List.mem_of_getElem? (i := 644) (by decide +kernel)
theorem wd_645 : (Jvm.Cond.instanceMethod ({ cls := "StreamPair", name := "count", desc := "(I)I" } : Jvm.MethodName)) ∈ lw_tbl := List.mem_of_getElem? (i := 645) (by decide +kernel)
theorem wd_646 : (Jvm.Cond.selects "StreamPair" ({ cls := "StreamPair", name := "count", desc := "(I)I" } : Jvm.MethodName) ({ cls := "StreamPair", name := "count", desc := "(I)I" } : Jvm.MethodName)) ∈ lw_tbl := List.mem_of_getElem? (i := 646) (by decide +kernel)
theorem wd_647 : (Jvm.Cond.code ({ cls := "StreamPair", name := "count", desc := "(I)I" } : Jvm.MethodName) prog_1_method_18_code (2 : Nat) (Option.some Jvm.ClassFile.FieldType.int)) ∈ lw_tbl := List.mem_of_getElem? (i := 647) (by decide +kernel)
theorem wd_648 : (Jvm.Cond.constantLong "StreamPair" (254 : Nat) (2147483647 : Int64)) ∈ lw_tbl := List.mem_of_getElem? (i := 648) (by decide +kernel)
theorem wd_649 : (Jvm.Cond.methodLink "StreamPair" (222 : Nat) ({ cls := "java/util/ArrayList", name := "size", desc := "()I" } : Jvm.MethodName)) ∈ lw_tbl := List.mem_of_getElem? (i := 649) (by decide +kernel)
theorem wd_650 : (Jvm.Cond.methodLink "StreamPairLaw" (75 : Nat) ({ cls := "StreamPairLaw", name := "feed", desc := "(LStreamPair;IIIII[J)I" } : Jvm.MethodName)) ∈ lw_tbl := List.mem_of_getElem? (i := 650) (by decide +kernel)
theorem wd_651 : (Jvm.Cond.static ({ cls := "StreamPairLaw", name := "feed", desc := "(LStreamPair;IIIII[J)I" } : Jvm.MethodName)) ∈ lw_tbl := List.mem_of_getElem? (i := 651) (by decide +kernel)
theorem wd_652 : (Jvm.Cond.codeWith ({ cls := "StreamPairLaw", name := "feed", desc := "(LStreamPair;IIIII[J)I" } : Jvm.MethodName) method_3_code (8 : Nat) (Option.some Jvm.ClassFile.FieldType.int) [((0 : Nat), (16 : Nat), (19 : Nat), (13 : Nat))]) ∈ lw_tbl := List.mem_of_getElem? (i := 652) (by decide +kernel)
theorem wd_653 : (Jvm.Cond.classLink "StreamPairLaw" (13 : Nat) "java/lang/IllegalStateException") ∈ lw_tbl := List.mem_of_getElem? (i := 653) (by decide +kernel)
theorem wd_654 : (Jvm.Cond.methodLink "StreamPairLaw" (7 : Nat) ({ cls := "StreamPair", name := "feed", desc := "(IIIII)I" } : Jvm.MethodName)) ∈ lw_tbl := List.mem_of_getElem? (i := 654) (by decide +kernel)
theorem wd_655 : (Jvm.Cond.instanceMethod ({ cls := "StreamPair", name := "feed", desc := "(IIIII)I" } : Jvm.MethodName)) ∈ lw_tbl := List.mem_of_getElem? (i := 655) (by decide +kernel)
theorem wd_656 : (Jvm.Cond.selects "StreamPair" ({ cls := "StreamPair", name := "feed", desc := "(IIIII)I" } : Jvm.MethodName) ({ cls := "StreamPair", name := "feed", desc := "(IIIII)I" } : Jvm.MethodName)) ∈ lw_tbl := List.mem_of_getElem? (i := 656) (by decide +kernel)
theorem wd_657 : (Jvm.Cond.code ({ cls := "StreamPair", name := "feed", desc := "(IIIII)I" } : Jvm.MethodName) prog_1_method_2_code (6 : Nat) (Option.some Jvm.ClassFile.FieldType.int)) ∈ lw_tbl := List.mem_of_getElem? (i := 657) (by decide +kernel)
theorem wd_658 : (Jvm.Cond.constant "StreamPair" (46 : Nat) (65536 : Int32)) ∈ lw_tbl := List.mem_of_getElem? (i := 658) (by decide +kernel)
theorem wd_659 : (Jvm.Cond.classLink "StreamPair" (47 : Nat) "java/lang/IllegalStateException") ∈ lw_tbl := List.mem_of_getElem? (i := 659) (by decide +kernel)
theorem wd_660 : (Jvm.Cond.instantiable "java/lang/IllegalStateException" (6 : Nat)) ∈ lw_tbl := List.mem_of_getElem? (i := 660) (by decide +kernel)
theorem wd_661 : (Jvm.Cond.castable "java/lang/IllegalStateException" "java/lang/IllegalStateException") ∈ lw_tbl := List.mem_of_getElem? (i := 661) (by decide +kernel)
theorem wd_662 : (Jvm.Cond.declares ({ cls := "java/lang/RuntimeException", name := "<init>", desc := "()V" } : Jvm.MethodName)) ∈ lw_tbl := List.mem_of_getElem? (i := 662) (by decide +kernel)
theorem wd_663 : (Jvm.Cond.declares ({ cls := "java/lang/RuntimeException", name := "<init>", desc := "(Ljava/lang/String;)V" } : Jvm.MethodName)) ∈ lw_tbl := List.mem_of_getElem? (i := 663) (by decide +kernel)
theorem wd_664 : (Jvm.Cond.declares ({ cls := "java/lang/Exception", name := "<init>", desc := "()V" } : Jvm.MethodName)) ∈ lw_tbl := List.mem_of_getElem? (i := 664) (by decide +kernel)
theorem wd_665 : (Jvm.Cond.declares ({ cls := "java/lang/Exception", name := "<init>", desc := "(Ljava/lang/String;)V" } : Jvm.MethodName)) ∈ lw_tbl := List.mem_of_getElem? (i := 665) (by decide +kernel)
theorem wd_666 : (Jvm.Cond.declares ({ cls := "java/lang/Throwable", name := "<init>", desc := "()V" } : Jvm.MethodName)) ∈ lw_tbl := List.mem_of_getElem? (i := 666) (by decide +kernel)
theorem wd_667 : (Jvm.Cond.declares ({ cls := "java/lang/Throwable", name := "<init>", desc := "(Ljava/lang/String;)V" } : Jvm.MethodName)) ∈ lw_tbl := List.mem_of_getElem? (i := 667) (by decide +kernel)
theorem wd_668 : (Jvm.Cond.selects "java/lang/IllegalStateException" ({ cls := "java/lang/Throwable", name := "fillInStackTrace", desc := "(I)Ljava/lang/Throwable;" } : Jvm.MethodName) ({ cls := "java/lang/Throwable", name := "fillInStackTrace", desc := "(I)Ljava/lang/Throwable;" } : Jvm.MethodName)) ∈ lw_tbl := List.mem_of_getElem? (i := 668) (by decide +kernel)
theorem wd_669 : (Jvm.Cond.selects "java/lang/IllegalStateException" ({ cls := "java/lang/Throwable", name := "fillInStackTrace", desc := "()Ljava/lang/Throwable;" } : Jvm.MethodName) ({ cls := "java/lang/Throwable", name := "fillInStackTrace", desc := "()Ljava/lang/Throwable;" } : Jvm.MethodName)) ∈ lw_tbl := List.mem_of_getElem? (i := 669) (by decide +kernel)
theorem wd_670 : (Jvm.Cond.lays "java/lang/IllegalStateException" "java/lang/Throwable" "cause" "Ljava/lang/Throwable;") ∈ lw_tbl := List.mem_of_getElem? (i := 670) (by decide +kernel)
theorem wd_671 : (Jvm.Cond.lays "java/lang/Throwable" "java/lang/Throwable" "cause" "Ljava/lang/Throwable;") ∈ lw_tbl := List.mem_of_getElem? (i := 671) (by decide +kernel)
theorem wd_672 : (Jvm.Cond.lays "java/lang/IllegalStateException" "java/lang/Throwable" "stackTrace" "[Ljava/lang/StackTraceElement;") ∈ lw_tbl := List.mem_of_getElem? (i := 672) (by decide +kernel)
theorem wd_673 : (Jvm.Cond.lays "java/lang/Throwable" "java/lang/Throwable" "stackTrace" "[Ljava/lang/StackTraceElement;") ∈ lw_tbl := List.mem_of_getElem? (i := 673) (by decide +kernel)
theorem wd_674 : (Jvm.Cond.lays "java/lang/IllegalStateException" "java/lang/Throwable" "suppressedExceptions" "Ljava/util/List;") ∈ lw_tbl := List.mem_of_getElem? (i := 674) (by decide +kernel)
theorem wd_675 : (Jvm.Cond.lays "java/lang/Throwable" "java/lang/Throwable" "suppressedExceptions" "Ljava/util/List;") ∈ lw_tbl := List.mem_of_getElem? (i := 675) (by decide +kernel)
theorem wd_676 : (Jvm.Cond.lays "java/lang/IllegalStateException" "java/lang/Throwable" "detailMessage" "Ljava/lang/String;") ∈ lw_tbl := List.mem_of_getElem? (i := 676) (by decide +kernel)
theorem wd_677 : (Jvm.Cond.lays "java/lang/Throwable" "java/lang/Throwable" "detailMessage" "Ljava/lang/String;") ∈ lw_tbl := List.mem_of_getElem? (i := 677) (by decide +kernel)
theorem wd_678 : (Jvm.Cond.lays "java/lang/IllegalStateException" "java/lang/Throwable" "backtrace" "Ljava/lang/Object;") ∈ lw_tbl := List.mem_of_getElem? (i := 678) (by decide +kernel)
theorem wd_679 : (Jvm.Cond.lays "java/lang/Throwable" "java/lang/Throwable" "backtrace" "Ljava/lang/Object;") ∈ lw_tbl := List.mem_of_getElem? (i := 679) (by decide +kernel)
theorem wd_680 : (Jvm.Cond.fieldLink "java/lang/Throwable" (198 : Nat) "java/lang/Throwable" "backtrace" "Ljava/lang/Object;") ∈ lw_tbl := List.mem_of_getElem? (i := 680) (by decide +kernel)
theorem wd_682 : (Jvm.Cond.instanceMethod ({ cls := "java/lang/Throwable", name := "<init>", desc := "()V" } : Jvm.MethodName)) ∈ lw_tbl := List.mem_of_getElem? (i := 682) (by decide +kernel)
theorem wd_683 : (Jvm.Cond.code ({ cls := "java/lang/Throwable", name := "<init>", desc := "()V" } : Jvm.MethodName) prog_24_method_1_code (1 : Nat) (Option.none : Option Jvm.ClassFile.FieldType)) ∈ lw_tbl := List.mem_of_getElem? (i := 683) (by decide +kernel)
theorem wd_684 : (Jvm.Cond.methodLink "java/lang/Throwable" (1 : Nat) ({ cls := "java/lang/Object", name := "<init>", desc := "()V" } : Jvm.MethodName)) ∈ lw_tbl := List.mem_of_getElem? (i := 684) (by decide +kernel)
theorem wd_685 : (Jvm.Cond.fieldLink "java/lang/Throwable" (13 : Nat) "java/lang/Throwable" "UNASSIGNED_STACK" "[Ljava/lang/StackTraceElement;") ∈ lw_tbl := List.mem_of_getElem? (i := 685) (by decide +kernel)
theorem wd_686 : (Jvm.Cond.laysStatic "java/lang/Throwable" "UNASSIGNED_STACK" "[Ljava/lang/StackTraceElement;") ∈ lw_tbl := List.mem_of_getElem? (i := 686) (by decide +kernel)
theorem wd_687 : (Jvm.Cond.fieldLink "java/lang/Throwable" (20 : Nat) "java/lang/Throwable" "SUPPRESSED_SENTINEL" "Ljava/util/List;") ∈ lw_tbl := List.mem_of_getElem? (i := 687) (by decide +kernel)
theorem wd_688 : (Jvm.Cond.laysStatic "java/lang/Throwable" "SUPPRESSED_SENTINEL" "Ljava/util/List;") ∈ lw_tbl := List.mem_of_getElem? (i := 688) (by decide +kernel)
theorem wd_689 : (Jvm.Cond.methodLink "java/lang/Throwable" (27 : Nat) ({ cls := "java/lang/Throwable", name := "fillInStackTrace", desc := "()Ljava/lang/Throwable;" } : Jvm.MethodName)) ∈ lw_tbl := List.mem_of_getElem? (i := 689) (by decide +kernel)
theorem wd_690 : (Jvm.Cond.instanceMethod ({ cls := "java/lang/Throwable", name := "fillInStackTrace", desc := "()Ljava/lang/Throwable;" } : Jvm.MethodName)) ∈ lw_tbl := List.mem_of_getElem? (i := 690) (by decide +kernel)
theorem wd_691 : (Jvm.Cond.sameMethod "java/lang/Throwable" "java/lang/Throwable" "fillInStackTrace" "()Ljava/lang/Throwable;") ∈ lw_tbl := List.mem_of_getElem? (i := 691) (by decide +kernel)
theorem wd_692 : (Jvm.Cond.selects "java/lang/IllegalArgumentException" ({ cls := "java/lang/Throwable", name := "fillInStackTrace", desc := "()Ljava/lang/Throwable;" } : Jvm.MethodName) ({ cls := "java/lang/Throwable", name := "fillInStackTrace", desc := "()Ljava/lang/Throwable;" } : Jvm.MethodName)) ∈ lw_tbl := List.mem_of_getElem? (i := 692) (by decide +kernel)
theorem wd_693 : (Jvm.Cond.selects "java/lang/IndexOutOfBoundsException" ({ cls := "java/lang/Throwable", name := "fillInStackTrace", desc := "()Ljava/lang/Throwable;" } : Jvm.MethodName) ({ cls := "java/lang/Throwable", name := "fillInStackTrace", desc := "()Ljava/lang/Throwable;" } : Jvm.MethodName)) ∈ lw_tbl := List.mem_of_getElem? (i := 693) (by decide +kernel)
theorem wd_694 : (Jvm.Cond.selects "java/lang/UnsupportedOperationException" ({ cls := "java/lang/Throwable", name := "fillInStackTrace", desc := "()Ljava/lang/Throwable;" } : Jvm.MethodName) ({ cls := "java/lang/Throwable", name := "fillInStackTrace", desc := "()Ljava/lang/Throwable;" } : Jvm.MethodName)) ∈ lw_tbl := List.mem_of_getElem? (i := 694) (by decide +kernel)
theorem wd_695 : (Jvm.Cond.selects "java/util/NoSuchElementException" ({ cls := "java/lang/Throwable", name := "fillInStackTrace", desc := "()Ljava/lang/Throwable;" } : Jvm.MethodName) ({ cls := "java/lang/Throwable", name := "fillInStackTrace", desc := "()Ljava/lang/Throwable;" } : Jvm.MethodName)) ∈ lw_tbl := List.mem_of_getElem? (i := 695) (by decide +kernel)
theorem wd_696 : (Jvm.Cond.codeSync ({ cls := "java/lang/Throwable", name := "fillInStackTrace", desc := "()Ljava/lang/Throwable;" } : Jvm.MethodName) prog_24_method_18_code (1 : Nat) (Option.some (Jvm.ClassFile.FieldType.object "java/lang/Throwable"))) ∈ lw_tbl := List.mem_of_getElem? (i := 696) (by decide +kernel)
theorem wd_697 : (Jvm.Cond.methodLink "java/lang/Throwable" (202 : Nat) ({ cls := "java/lang/Throwable", name := "fillInStackTrace", desc := "(I)Ljava/lang/Throwable;" } : Jvm.MethodName)) ∈ lw_tbl := List.mem_of_getElem? (i := 697) (by decide +kernel)
theorem wd_699 : (Jvm.Cond.instanceMethod ({ cls := "java/lang/Throwable", name := "fillInStackTrace", desc := "(I)Ljava/lang/Throwable;" } : Jvm.MethodName)) ∈ lw_tbl := List.mem_of_getElem? (i := 699) (by decide +kernel)
theorem wd_700 : (Jvm.Cond.instantiable "java/lang/Throwable" (6 : Nat)) ∈ lw_tbl := List.mem_of_getElem? (i := 700) (by decide +kernel)
theorem wd_701 : (Jvm.Cond.native ({ cls := "java/lang/Throwable", name := "fillInStackTrace", desc := "(I)Ljava/lang/Throwable;" } : Jvm.MethodName)) ∈ lw_tbl := List.mem_of_getElem? (i := 701) (by decide +kernel)
theorem wd_702 : (Jvm.Cond.stringRef "StreamPair" (49 : Nat) "no room on the tape") ∈ lw_tbl := List.mem_of_getElem? (i := 702) (by decide +kernel)
theorem wd_703 : (Jvm.Cond.methodLink "StreamPair" (51 : Nat) ({ cls := "java/lang/IllegalStateException", name := "<init>", desc := "(Ljava/lang/String;)V" } : Jvm.MethodName)) ∈ lw_tbl := List.mem_of_getElem? (i := 703) (by decide +kernel)
theorem wd_704 : (Jvm.Cond.instanceMethod ({ cls := "java/lang/IllegalStateException", name := "<init>", desc := "(Ljava/lang/String;)V" } : Jvm.MethodName)) ∈ lw_tbl := List.mem_of_getElem? (i := 704) (by decide +kernel)
theorem wd_705 : (Jvm.Cond.code ({ cls := "java/lang/IllegalStateException", name := "<init>", desc := "(Ljava/lang/String;)V" } : Jvm.MethodName) prog_17_method_2_code (2 : Nat) (Option.none : Option Jvm.ClassFile.FieldType)) ∈ lw_tbl := List.mem_of_getElem? (i := 705) (by decide +kernel)
theorem wd_706 : (Jvm.Cond.methodLink "java/lang/IllegalStateException" (7 : Nat) ({ cls := "java/lang/RuntimeException", name := "<init>", desc := "(Ljava/lang/String;)V" } : Jvm.MethodName)) ∈ lw_tbl := List.mem_of_getElem? (i := 706) (by decide +kernel)
theorem wd_707 : (Jvm.Cond.instanceMethod ({ cls := "java/lang/RuntimeException", name := "<init>", desc := "(Ljava/lang/String;)V" } : Jvm.MethodName)) ∈ lw_tbl := List.mem_of_getElem? (i := 707) (by decide +kernel)
theorem wd_708 : (Jvm.Cond.code ({ cls := "java/lang/RuntimeException", name := "<init>", desc := "(Ljava/lang/String;)V" } : Jvm.MethodName) prog_21_method_2_code (2 : Nat) (Option.none : Option Jvm.ClassFile.FieldType)) ∈ lw_tbl := List.mem_of_getElem? (i := 708) (by decide +kernel)
theorem wd_709 : (Jvm.Cond.methodLink "java/lang/RuntimeException" (7 : Nat) ({ cls := "java/lang/Exception", name := "<init>", desc := "(Ljava/lang/String;)V" } : Jvm.MethodName)) ∈ lw_tbl := List.mem_of_getElem? (i := 709) (by decide +kernel)
theorem wd_710 : (Jvm.Cond.instanceMethod ({ cls := "java/lang/Exception", name := "<init>", desc := "(Ljava/lang/String;)V" } : Jvm.MethodName)) ∈ lw_tbl := List.mem_of_getElem? (i := 710) (by decide +kernel)
theorem wd_711 : (Jvm.Cond.code ({ cls := "java/lang/Exception", name := "<init>", desc := "(Ljava/lang/String;)V" } : Jvm.MethodName) prog_15_method_2_code (2 : Nat) (Option.none : Option Jvm.ClassFile.FieldType)) ∈ lw_tbl := List.mem_of_getElem? (i := 711) (by decide +kernel)
theorem wd_712 : (Jvm.Cond.methodLink "java/lang/Exception" (7 : Nat) ({ cls := "java/lang/Throwable", name := "<init>", desc := "(Ljava/lang/String;)V" } : Jvm.MethodName)) ∈ lw_tbl := List.mem_of_getElem? (i := 712) (by decide +kernel)
theorem wd_713 : (Jvm.Cond.instanceMethod ({ cls := "java/lang/Throwable", name := "<init>", desc := "(Ljava/lang/String;)V" } : Jvm.MethodName)) ∈ lw_tbl := List.mem_of_getElem? (i := 713) (by decide +kernel)
theorem wd_714 : (Jvm.Cond.code ({ cls := "java/lang/Throwable", name := "<init>", desc := "(Ljava/lang/String;)V" } : Jvm.MethodName) prog_24_method_2_code (2 : Nat) (Option.none : Option Jvm.ClassFile.FieldType)) ∈ lw_tbl := List.mem_of_getElem? (i := 714) (by decide +kernel)
theorem wd_715 : (Jvm.Cond.fieldLink "java/lang/Throwable" (198 : Nat) "java/lang/Throwable" "backtrace" "Ljava/lang/Object;") ∈ lw_tbl := List.mem_of_getElem? (i := 715) (by decide +kernel)
theorem wd_716 : (Jvm.Cond.fieldLink "java/lang/Throwable" (31 : Nat) "java/lang/Throwable" "detailMessage" "Ljava/lang/String;") ∈ lw_tbl := List.mem_of_getElem? (i := 716) (by decide +kernel)
theorem wd_717 : (Jvm.Cond.fieldLink "java/lang/Throwable" (7 : Nat) "java/lang/Throwable" "cause" "Ljava/lang/Throwable;") ∈ lw_tbl := List.mem_of_getElem? (i := 717) (by decide +kernel)
theorem wd_718 : (Jvm.Cond.fieldLink "java/lang/Throwable" (17 : Nat) "java/lang/Throwable" "stackTrace" "[Ljava/lang/StackTraceElement;") ∈ lw_tbl := List.mem_of_getElem? (i := 718) (by decide +kernel)
theorem wd_719 : (Jvm.Cond.fieldLink "java/lang/Throwable" (24 : Nat) "java/lang/Throwable" "suppressedExceptions" "Ljava/util/List;") ∈ lw_tbl := List.mem_of_getElem? (i := 719) (by decide +kernel)
theorem wd_724 : (Jvm.Cond.lays "java/lang/IllegalStateException" "java/lang/Throwable" "depth" "I") ∈ lw_tbl := List.mem_of_getElem? (i := 724) (by decide +kernel)
theorem wd_728 : (Jvm.Cond.methodLink "StreamPair" (54 : Nat) ({ cls := "StreamPair$Tape", name := "addNumber", desc := "(I)V" } : Jvm.MethodName)) ∈ lw_tbl := List.mem_of_getElem? (i := 728) (by decide +kernel)
theorem wd_729 : (Jvm.Cond.instanceMethod ({ cls := "StreamPair$Tape", name := "addNumber", desc := "(I)V" } : Jvm.MethodName)) ∈ lw_tbl := List.mem_of_getElem? (i := 729) (by decide +kernel)
theorem wd_730 : (Jvm.Cond.selects "StreamPair$Tape" ({ cls := "StreamPair$Tape", name := "addNumber", desc := "(I)V" } : Jvm.MethodName) ({ cls := "StreamPair$Tape", name := "addNumber", desc := "(I)V" } : Jvm.MethodName)) ∈ lw_tbl := List.mem_of_getElem? (i := 730) (by decide +kernel)
theorem wd_731 : (Jvm.Cond.code ({ cls := "StreamPair$Tape", name := "addNumber", desc := "(I)V" } : Jvm.MethodName) prog_10_method_2_code (2 : Nat) (Option.none : Option Jvm.ClassFile.FieldType)) ∈ lw_tbl := List.mem_of_getElem? (i := 731) (by decide +kernel)
theorem wd_732 : (Jvm.Cond.methodLink "StreamPair$Tape" (19 : Nat) ({ cls := "java/util/Arrays", name := "copyOf", desc := "([BI)[B" } : Jvm.MethodName)) ∈ lw_tbl := List.mem_of_getElem? (i := 732) (by decide +kernel)
theorem wd_733 : (Jvm.Cond.static ({ cls := "java/util/Arrays", name := "copyOf", desc := "([BI)[B" } : Jvm.MethodName)) ∈ lw_tbl := List.mem_of_getElem? (i := 733) (by decide +kernel)
theorem wd_734 : (Jvm.Cond.code ({ cls := "java/util/Arrays", name := "copyOf", desc := "([BI)[B" } : Jvm.MethodName) prog_29_method_121_code (3 : Nat) (Option.some (Jvm.ClassFile.FieldType.array Jvm.ClassFile.FieldType.byte))) ∈ lw_tbl := List.mem_of_getElem? (i := 734) (by decide +kernel)
theorem wd_735 : (Jvm.Cond.methodLink "java/util/Arrays" (310 : Nat) ({ cls := "[B", name := "clone", desc := "()Ljava/lang/Object;" } : Jvm.MethodName)) ∈ lw_tbl := List.mem_of_getElem? (i := 735) (by decide +kernel)
theorem wd_736 : (Jvm.Cond.sameMethod "[B" "java/lang/Object" "clone" "()Ljava/lang/Object;") ∈ lw_tbl := List.mem_of_getElem? (i := 736) (by decide +kernel)
theorem wd_737 : (Jvm.Cond.native ({ cls := "java/lang/Object", name := "clone", desc := "()Ljava/lang/Object;" } : Jvm.MethodName)) ∈ lw_tbl := List.mem_of_getElem? (i := 737) (by decide +kernel)
theorem wd_738 : (Jvm.Cond.instanceMethod ({ cls := "java/lang/Object", name := "clone", desc := "()Ljava/lang/Object;" } : Jvm.MethodName)) ∈ lw_tbl := List.mem_of_getElem? (i := 738) (by decide +kernel)
theorem wd_739 : (Jvm.Cond.selects "[B" ({ cls := "[B", name := "clone", desc := "()Ljava/lang/Object;" } : Jvm.MethodName) ({ cls := "java/lang/Object", name := "clone", desc := "()Ljava/lang/Object;" } : Jvm.MethodName)) ∈ lw_tbl := List.mem_of_getElem? (i := 739) (by decide +kernel)
theorem wd_740 : (Jvm.Cond.castable "[B" "java/lang/Cloneable") ∈ lw_tbl := List.mem_of_getElem? (i := 740) (by decide +kernel)
theorem wd_741 : (Jvm.Cond.classLink "java/util/Arrays" (311 : Nat) "[B") ∈ lw_tbl := List.mem_of_getElem? (i := 741) (by decide +kernel)
theorem wd_742 : (Jvm.Cond.methodLink "StreamPairLaw" (85 : Nat) ({ cls := "StreamPairLaw", name := "end", desc := "(LStreamPair;I[J)I" } : Jvm.MethodName)) ∈ lw_tbl := List.mem_of_getElem? (i := 742) (by decide +kernel)
theorem wd_743 : (Jvm.Cond.static ({ cls := "StreamPairLaw", name := "end", desc := "(LStreamPair;I[J)I" } : Jvm.MethodName)) ∈ lw_tbl := List.mem_of_getElem? (i := 743) (by decide +kernel)
theorem wd_744 : (Jvm.Cond.codeWith ({ cls := "StreamPairLaw", name := "end", desc := "(LStreamPair;I[J)I" } : Jvm.MethodName) method_4_code (4 : Nat) (Option.some Jvm.ClassFile.FieldType.int) [((0 : Nat), (9 : Nat), (12 : Nat), (19 : Nat))]) ∈ lw_tbl := List.mem_of_getElem? (i := 744) (by decide +kernel)
theorem wd_745 : (Jvm.Cond.classLink "StreamPairLaw" (19 : Nat) "java/lang/IllegalArgumentException") ∈ lw_tbl := List.mem_of_getElem? (i := 745) (by decide +kernel)
theorem wd_746 : (Jvm.Cond.methodLink "StreamPairLaw" (15 : Nat) ({ cls := "StreamPair", name := "end", desc := "(I)I" } : Jvm.MethodName)) ∈ lw_tbl := List.mem_of_getElem? (i := 746) (by decide +kernel)
theorem wd_747 : (Jvm.Cond.instanceMethod ({ cls := "StreamPair", name := "end", desc := "(I)I" } : Jvm.MethodName)) ∈ lw_tbl := List.mem_of_getElem? (i := 747) (by decide +kernel)
theorem wd_748 : (Jvm.Cond.selects "StreamPair" ({ cls := "StreamPair", name := "end", desc := "(I)I" } : Jvm.MethodName) ({ cls := "StreamPair", name := "end", desc := "(I)I" } : Jvm.MethodName)) ∈ lw_tbl := List.mem_of_getElem? (i := 748) (by decide +kernel)
theorem wd_749 : (Jvm.Cond.code ({ cls := "StreamPair", name := "end", desc := "(I)I" } : Jvm.MethodName) prog_1_method_3_code (2 : Nat) (Option.some Jvm.ClassFile.FieldType.int)) ∈ lw_tbl := List.mem_of_getElem? (i := 749) (by decide +kernel)
theorem wd_750 : (Jvm.Cond.classLink "StreamPair" (58 : Nat) "java/lang/IllegalArgumentException") ∈ lw_tbl := List.mem_of_getElem? (i := 750) (by decide +kernel)
theorem wd_751 : (Jvm.Cond.instantiable "java/lang/IllegalArgumentException" (6 : Nat)) ∈ lw_tbl := List.mem_of_getElem? (i := 751) (by decide +kernel)
theorem wd_752 : (Jvm.Cond.castable "java/lang/IllegalArgumentException" "java/lang/IllegalArgumentException") ∈ lw_tbl := List.mem_of_getElem? (i := 752) (by decide +kernel)
theorem wd_753 : (Jvm.Cond.selects "java/lang/IllegalArgumentException" ({ cls := "java/lang/Throwable", name := "fillInStackTrace", desc := "(I)Ljava/lang/Throwable;" } : Jvm.MethodName) ({ cls := "java/lang/Throwable", name := "fillInStackTrace", desc := "(I)Ljava/lang/Throwable;" } : Jvm.MethodName)) ∈ lw_tbl := List.mem_of_getElem? (i := 753) (by decide +kernel)
theorem wd_754 : (Jvm.Cond.lays "java/lang/IllegalArgumentException" "java/lang/Throwable" "cause" "Ljava/lang/Throwable;") ∈ lw_tbl := List.mem_of_getElem? (i := 754) (by decide +kernel)
theorem wd_755 : (Jvm.Cond.lays "java/lang/IllegalArgumentException" "java/lang/Throwable" "stackTrace" "[Ljava/lang/StackTraceElement;") ∈ lw_tbl := List.mem_of_getElem? (i := 755) (by decide +kernel)
theorem wd_756 : (Jvm.Cond.lays "java/lang/IllegalArgumentException" "java/lang/Throwable" "suppressedExceptions" "Ljava/util/List;") ∈ lw_tbl := List.mem_of_getElem? (i := 756) (by decide +kernel)
theorem wd_757 : (Jvm.Cond.lays "java/lang/IllegalArgumentException" "java/lang/Throwable" "detailMessage" "Ljava/lang/String;") ∈ lw_tbl := List.mem_of_getElem? (i := 757) (by decide +kernel)
theorem wd_758 : (Jvm.Cond.lays "java/lang/IllegalArgumentException" "java/lang/Throwable" "backtrace" "Ljava/lang/Object;") ∈ lw_tbl := List.mem_of_getElem? (i := 758) (by decide +kernel)
theorem wd_759 : (Jvm.Cond.stringRef "StreamPair" (60 : Nat) "not a length within the tape") ∈ lw_tbl := List.mem_of_getElem? (i := 759) (by decide +kernel)
theorem wd_760 : (Jvm.Cond.methodLink "StreamPair" (62 : Nat) ({ cls := "java/lang/IllegalArgumentException", name := "<init>", desc := "(Ljava/lang/String;)V" } : Jvm.MethodName)) ∈ lw_tbl := List.mem_of_getElem? (i := 760) (by decide +kernel)
theorem wd_761 : (Jvm.Cond.instanceMethod ({ cls := "java/lang/IllegalArgumentException", name := "<init>", desc := "(Ljava/lang/String;)V" } : Jvm.MethodName)) ∈ lw_tbl := List.mem_of_getElem? (i := 761) (by decide +kernel)
theorem wd_762 : (Jvm.Cond.code ({ cls := "java/lang/IllegalArgumentException", name := "<init>", desc := "(Ljava/lang/String;)V" } : Jvm.MethodName) prog_16_method_2_code (2 : Nat) (Option.none : Option Jvm.ClassFile.FieldType)) ∈ lw_tbl := List.mem_of_getElem? (i := 762) (by decide +kernel)
theorem wd_763 : (Jvm.Cond.methodLink "java/lang/IllegalArgumentException" (7 : Nat) ({ cls := "java/lang/RuntimeException", name := "<init>", desc := "(Ljava/lang/String;)V" } : Jvm.MethodName)) ∈ lw_tbl := List.mem_of_getElem? (i := 763) (by decide +kernel)
theorem wd_764 : (Jvm.Cond.lays "java/lang/IllegalArgumentException" "java/lang/Throwable" "depth" "I") ∈ lw_tbl := List.mem_of_getElem? (i := 764) (by decide +kernel)
theorem wd_766 : (Jvm.Cond.methodLink "StreamPairLaw" (93 : Nat) ({ cls := "StreamPairLaw", name := "set", desc := "(LStreamPair;III[J)I" } : Jvm.MethodName)) ∈ lw_tbl := List.mem_of_getElem? (i := 766) (by decide +kernel)
theorem wd_767 : (Jvm.Cond.static ({ cls := "StreamPairLaw", name := "set", desc := "(LStreamPair;III[J)I" } : Jvm.MethodName)) ∈ lw_tbl := List.mem_of_getElem? (i := 767) (by decide +kernel)
theorem wd_768 : (Jvm.Cond.codeWith ({ cls := "StreamPairLaw", name := "set", desc := "(LStreamPair;III[J)I" } : Jvm.MethodName) method_5_code (6 : Nat) (Option.some Jvm.ClassFile.FieldType.int) [((0 : Nat), (12 : Nat), (15 : Nat), (25 : Nat)), ((0 : Nat), (12 : Nat), (19 : Nat), (19 : Nat))]) ∈ lw_tbl := List.mem_of_getElem? (i := 768) (by decide +kernel)
theorem wd_769 : (Jvm.Cond.classLink "StreamPairLaw" (25 : Nat) "java/util/NoSuchElementException") ∈ lw_tbl := List.mem_of_getElem? (i := 769) (by decide +kernel)
theorem wd_770 : (Jvm.Cond.methodLink "StreamPairLaw" (21 : Nat) ({ cls := "StreamPair", name := "set", desc := "(III)I" } : Jvm.MethodName)) ∈ lw_tbl := List.mem_of_getElem? (i := 770) (by decide +kernel)
theorem wd_771 : (Jvm.Cond.instanceMethod ({ cls := "StreamPair", name := "set", desc := "(III)I" } : Jvm.MethodName)) ∈ lw_tbl := List.mem_of_getElem? (i := 771) (by decide +kernel)
theorem wd_772 : (Jvm.Cond.selects "StreamPair" ({ cls := "StreamPair", name := "set", desc := "(III)I" } : Jvm.MethodName) ({ cls := "StreamPair", name := "set", desc := "(III)I" } : Jvm.MethodName)) ∈ lw_tbl := List.mem_of_getElem? (i := 772) (by decide +kernel)
theorem wd_773 : (Jvm.Cond.code ({ cls := "StreamPair", name := "set", desc := "(III)I" } : Jvm.MethodName) prog_1_method_5_code (6 : Nat) (Option.some Jvm.ClassFile.FieldType.int)) ∈ lw_tbl := List.mem_of_getElem? (i := 773) (by decide +kernel)
theorem wd_774 : (Jvm.Cond.methodLink "StreamPair" (83 : Nat) ({ cls := "StreamPair", name := "sideOf", desc := "(I)LStreamPair$End;" } : Jvm.MethodName)) ∈ lw_tbl := List.mem_of_getElem? (i := 774) (by decide +kernel)
theorem wd_776 : (Jvm.Cond.instanceMethod ({ cls := "StreamPair", name := "sideOf", desc := "(I)LStreamPair$End;" } : Jvm.MethodName)) ∈ lw_tbl := List.mem_of_getElem? (i := 776) (by decide +kernel)
theorem wd_777 : (Jvm.Cond.code ({ cls := "StreamPair", name := "sideOf", desc := "(I)LStreamPair$End;" } : Jvm.MethodName) prog_1_method_19_code (2 : Nat) (Option.some (Jvm.ClassFile.FieldType.object "StreamPair$End"))) ∈ lw_tbl := List.mem_of_getElem? (i := 777) (by decide +kernel)
theorem wd_778 : (Jvm.Cond.classLink "StreamPair" (259 : Nat) "java/util/NoSuchElementException") ∈ lw_tbl := List.mem_of_getElem? (i := 778) (by decide +kernel)
theorem wd_779 : (Jvm.Cond.instantiable "java/util/NoSuchElementException" (6 : Nat)) ∈ lw_tbl := List.mem_of_getElem? (i := 779) (by decide +kernel)
theorem wd_780 : (Jvm.Cond.castable "java/util/NoSuchElementException" "java/util/NoSuchElementException") ∈ lw_tbl := List.mem_of_getElem? (i := 780) (by decide +kernel)
theorem wd_781 : (Jvm.Cond.selects "java/util/NoSuchElementException" ({ cls := "java/lang/Throwable", name := "fillInStackTrace", desc := "(I)Ljava/lang/Throwable;" } : Jvm.MethodName) ({ cls := "java/lang/Throwable", name := "fillInStackTrace", desc := "(I)Ljava/lang/Throwable;" } : Jvm.MethodName)) ∈ lw_tbl := List.mem_of_getElem? (i := 781) (by decide +kernel)
theorem wd_782 : (Jvm.Cond.lays "java/util/NoSuchElementException" "java/lang/Throwable" "cause" "Ljava/lang/Throwable;") ∈ lw_tbl := List.mem_of_getElem? (i := 782) (by decide +kernel)
theorem wd_783 : (Jvm.Cond.lays "java/util/NoSuchElementException" "java/lang/Throwable" "stackTrace" "[Ljava/lang/StackTraceElement;") ∈ lw_tbl := List.mem_of_getElem? (i := 783) (by decide +kernel)
theorem wd_784 : (Jvm.Cond.lays "java/util/NoSuchElementException" "java/lang/Throwable" "suppressedExceptions" "Ljava/util/List;") ∈ lw_tbl := List.mem_of_getElem? (i := 784) (by decide +kernel)
theorem wd_785 : (Jvm.Cond.lays "java/util/NoSuchElementException" "java/lang/Throwable" "detailMessage" "Ljava/lang/String;") ∈ lw_tbl := List.mem_of_getElem? (i := 785) (by decide +kernel)
theorem wd_786 : (Jvm.Cond.lays "java/util/NoSuchElementException" "java/lang/Throwable" "backtrace" "Ljava/lang/Object;") ∈ lw_tbl := List.mem_of_getElem? (i := 786) (by decide +kernel)
theorem wd_787 : (Jvm.Cond.stringRef "StreamPair" (261 : Nat) "no such end") ∈ lw_tbl := List.mem_of_getElem? (i := 787) (by decide +kernel)
theorem wd_788 : (Jvm.Cond.methodLink "StreamPair" (263 : Nat) ({ cls := "java/util/NoSuchElementException", name := "<init>", desc := "(Ljava/lang/String;)V" } : Jvm.MethodName)) ∈ lw_tbl := List.mem_of_getElem? (i := 788) (by decide +kernel)
theorem wd_789 : (Jvm.Cond.instanceMethod ({ cls := "java/util/NoSuchElementException", name := "<init>", desc := "(Ljava/lang/String;)V" } : Jvm.MethodName)) ∈ lw_tbl := List.mem_of_getElem? (i := 789) (by decide +kernel)
theorem wd_790 : (Jvm.Cond.code ({ cls := "java/util/NoSuchElementException", name := "<init>", desc := "(Ljava/lang/String;)V" } : Jvm.MethodName) prog_32_method_4_code (2 : Nat) (Option.none : Option Jvm.ClassFile.FieldType)) ∈ lw_tbl := List.mem_of_getElem? (i := 790) (by decide +kernel)
theorem wd_791 : (Jvm.Cond.methodLink "java/util/NoSuchElementException" (13 : Nat) ({ cls := "java/lang/RuntimeException", name := "<init>", desc := "(Ljava/lang/String;)V" } : Jvm.MethodName)) ∈ lw_tbl := List.mem_of_getElem? (i := 791) (by decide +kernel)
theorem wd_792 : (Jvm.Cond.lays "java/util/NoSuchElementException" "java/lang/Throwable" "depth" "I") ∈ lw_tbl := List.mem_of_getElem? (i := 792) (by decide +kernel)
theorem wd_794 : (Jvm.Cond.constant "StreamPair" (87 : Nat) (65535 : Int32)) ∈ lw_tbl := List.mem_of_getElem? (i := 794) (by decide +kernel)
theorem wd_795 : (Jvm.Cond.stringRef "StreamPair" (100 : Nat) "no such setting or value") ∈ lw_tbl := List.mem_of_getElem? (i := 795) (by decide +kernel)
theorem wd_796 : (Jvm.Cond.methodLink "StreamPairLaw" (97 : Nat) ({ cls := "StreamPairLaw", name := "write", desc := "(LStreamPair;I[J)I" } : Jvm.MethodName)) ∈ lw_tbl := List.mem_of_getElem? (i := 796) (by decide +kernel)
theorem wd_797 : (Jvm.Cond.static ({ cls := "StreamPairLaw", name := "write", desc := "(LStreamPair;I[J)I" } : Jvm.MethodName)) ∈ lw_tbl := List.mem_of_getElem? (i := 797) (by decide +kernel)
theorem wd_798 : (Jvm.Cond.codeWith ({ cls := "StreamPairLaw", name := "write", desc := "(LStreamPair;I[J)I" } : Jvm.MethodName) method_6_code (4 : Nat) (Option.some Jvm.ClassFile.FieldType.int) [((0 : Nat), (9 : Nat), (12 : Nat), (25 : Nat)), ((0 : Nat), (9 : Nat), (15 : Nat), (13 : Nat)), ((0 : Nat), (9 : Nat), (18 : Nat), (30 : Nat))]) ∈ lw_tbl := List.mem_of_getElem? (i := 798) (by decide +kernel)
theorem wd_799 : (Jvm.Cond.classLink "StreamPairLaw" (30 : Nat) "java/lang/UnsupportedOperationException") ∈ lw_tbl := List.mem_of_getElem? (i := 799) (by decide +kernel)
theorem wd_800 : (Jvm.Cond.methodLink "StreamPairLaw" (27 : Nat) ({ cls := "StreamPair", name := "write", desc := "(I)I" } : Jvm.MethodName)) ∈ lw_tbl := List.mem_of_getElem? (i := 800) (by decide +kernel)
theorem wd_801 : (Jvm.Cond.instanceMethod ({ cls := "StreamPair", name := "write", desc := "(I)I" } : Jvm.MethodName)) ∈ lw_tbl := List.mem_of_getElem? (i := 801) (by decide +kernel)
theorem wd_802 : (Jvm.Cond.selects "StreamPair" ({ cls := "StreamPair", name := "write", desc := "(I)I" } : Jvm.MethodName) ({ cls := "StreamPair", name := "write", desc := "(I)I" } : Jvm.MethodName)) ∈ lw_tbl := List.mem_of_getElem? (i := 802) (by decide +kernel)
theorem wd_803 : (Jvm.Cond.code ({ cls := "StreamPair", name := "write", desc := "(I)I" } : Jvm.MethodName) prog_1_method_6_code (4 : Nat) (Option.some Jvm.ClassFile.FieldType.int)) ∈ lw_tbl := List.mem_of_getElem? (i := 803) (by decide +kernel)
theorem wd_804 : (Jvm.Cond.stringRef "StreamPair" (105 : Nat) "not a state to write in") ∈ lw_tbl := List.mem_of_getElem? (i := 804) (by decide +kernel)
theorem wd_805 : (Jvm.Cond.constant "StreamPair" (116 : Nat) (131072 : Int32)) ∈ lw_tbl := List.mem_of_getElem? (i := 805) (by decide +kernel)
theorem wd_806 : (Jvm.Cond.classLink "StreamPair" (117 : Nat) "java/lang/UnsupportedOperationException") ∈ lw_tbl := List.mem_of_getElem? (i := 806) (by decide +kernel)
theorem wd_807 : (Jvm.Cond.instantiable "java/lang/UnsupportedOperationException" (6 : Nat)) ∈ lw_tbl := List.mem_of_getElem? (i := 807) (by decide +kernel)
theorem wd_808 : (Jvm.Cond.castable "java/lang/UnsupportedOperationException" "java/lang/UnsupportedOperationException") ∈ lw_tbl := List.mem_of_getElem? (i := 808) (by decide +kernel)
theorem wd_809 : (Jvm.Cond.selects "java/lang/UnsupportedOperationException" ({ cls := "java/lang/Throwable", name := "fillInStackTrace", desc := "(I)Ljava/lang/Throwable;" } : Jvm.MethodName) ({ cls := "java/lang/Throwable", name := "fillInStackTrace", desc := "(I)Ljava/lang/Throwable;" } : Jvm.MethodName)) ∈ lw_tbl := List.mem_of_getElem? (i := 809) (by decide +kernel)
theorem wd_810 : (Jvm.Cond.lays "java/lang/UnsupportedOperationException" "java/lang/Throwable" "cause" "Ljava/lang/Throwable;") ∈ lw_tbl := List.mem_of_getElem? (i := 810) (by decide +kernel)
theorem wd_811 : (Jvm.Cond.lays "java/lang/UnsupportedOperationException" "java/lang/Throwable" "stackTrace" "[Ljava/lang/StackTraceElement;") ∈ lw_tbl := List.mem_of_getElem? (i := 811) (by decide +kernel)
theorem wd_812 : (Jvm.Cond.lays "java/lang/UnsupportedOperationException" "java/lang/Throwable" "suppressedExceptions" "Ljava/util/List;") ∈ lw_tbl := List.mem_of_getElem? (i := 812) (by decide +kernel)
theorem wd_813 : (Jvm.Cond.lays "java/lang/UnsupportedOperationException" "java/lang/Throwable" "detailMessage" "Ljava/lang/String;") ∈ lw_tbl := List.mem_of_getElem? (i := 813) (by decide +kernel)
theorem wd_814 : (Jvm.Cond.lays "java/lang/UnsupportedOperationException" "java/lang/Throwable" "backtrace" "Ljava/lang/Object;") ∈ lw_tbl := List.mem_of_getElem? (i := 814) (by decide +kernel)
theorem wd_815 : (Jvm.Cond.stringRef "StreamPair" (119 : Nat) "too many bytes wait") ∈ lw_tbl := List.mem_of_getElem? (i := 815) (by decide +kernel)
theorem wd_816 : (Jvm.Cond.methodLink "StreamPair" (121 : Nat) ({ cls := "java/lang/UnsupportedOperationException", name := "<init>", desc := "(Ljava/lang/String;)V" } : Jvm.MethodName)) ∈ lw_tbl := List.mem_of_getElem? (i := 816) (by decide +kernel)
theorem wd_817 : (Jvm.Cond.instanceMethod ({ cls := "java/lang/UnsupportedOperationException", name := "<init>", desc := "(Ljava/lang/String;)V" } : Jvm.MethodName)) ∈ lw_tbl := List.mem_of_getElem? (i := 817) (by decide +kernel)
theorem wd_818 : (Jvm.Cond.code ({ cls := "java/lang/UnsupportedOperationException", name := "<init>", desc := "(Ljava/lang/String;)V" } : Jvm.MethodName) prog_25_method_2_code (2 : Nat) (Option.none : Option Jvm.ClassFile.FieldType)) ∈ lw_tbl := List.mem_of_getElem? (i := 818) (by decide +kernel)
theorem wd_819 : (Jvm.Cond.methodLink "java/lang/UnsupportedOperationException" (7 : Nat) ({ cls := "java/lang/RuntimeException", name := "<init>", desc := "(Ljava/lang/String;)V" } : Jvm.MethodName)) ∈ lw_tbl := List.mem_of_getElem? (i := 819) (by decide +kernel)
theorem wd_820 : (Jvm.Cond.lays "java/lang/UnsupportedOperationException" "java/lang/Throwable" "depth" "I") ∈ lw_tbl := List.mem_of_getElem? (i := 820) (by decide +kernel)
theorem wd_822 : (Jvm.Cond.methodLink "StreamPair" (126 : Nat) ({ cls := "StreamPair$Supply", name := "add", desc := "([BI)V" } : Jvm.MethodName)) ∈ lw_tbl := List.mem_of_getElem? (i := 822) (by decide +kernel)
theorem wd_823 : (Jvm.Cond.instanceMethod ({ cls := "StreamPair$Supply", name := "add", desc := "([BI)V" } : Jvm.MethodName)) ∈ lw_tbl := List.mem_of_getElem? (i := 823) (by decide +kernel)
theorem wd_824 : (Jvm.Cond.selects "StreamPair$Supply" ({ cls := "StreamPair$Supply", name := "add", desc := "([BI)V" } : Jvm.MethodName) ({ cls := "StreamPair$Supply", name := "add", desc := "([BI)V" } : Jvm.MethodName)) ∈ lw_tbl := List.mem_of_getElem? (i := 824) (by decide +kernel)
theorem wd_825 : (Jvm.Cond.code ({ cls := "StreamPair$Supply", name := "add", desc := "([BI)V" } : Jvm.MethodName) prog_9_method_3_code (3 : Nat) (Option.none : Option Jvm.ClassFile.FieldType)) ∈ lw_tbl := List.mem_of_getElem? (i := 825) (by decide +kernel)
theorem wd_826 : (Jvm.Cond.methodLink "StreamPair$Supply" (50 : Nat) ({ cls := "StreamPair$Supply", name := "makeRoom", desc := "(I)V" } : Jvm.MethodName)) ∈ lw_tbl := List.mem_of_getElem? (i := 826) (by decide +kernel)
theorem wd_828 : (Jvm.Cond.instanceMethod ({ cls := "StreamPair$Supply", name := "makeRoom", desc := "(I)V" } : Jvm.MethodName)) ∈ lw_tbl := List.mem_of_getElem? (i := 828) (by decide +kernel)
theorem wd_829 : (Jvm.Cond.code ({ cls := "StreamPair$Supply", name := "makeRoom", desc := "(I)V" } : Jvm.MethodName) prog_9_method_4_code (3 : Nat) (Option.none : Option Jvm.ClassFile.FieldType)) ∈ lw_tbl := List.mem_of_getElem? (i := 829) (by decide +kernel)
theorem wd_830 : (Jvm.Cond.methodLink "StreamPair$Supply" (60 : Nat) ({ cls := "java/lang/Math", name := "max", desc := "(II)I" } : Jvm.MethodName)) ∈ lw_tbl := List.mem_of_getElem? (i := 830) (by decide +kernel)
theorem wd_831 : (Jvm.Cond.methodLink "StreamPair" (130 : Nat) ({ cls := "StreamPair$End", name := "output", desc := "()Z" } : Jvm.MethodName)) ∈ lw_tbl := List.mem_of_getElem? (i := 831) (by decide +kernel)
theorem wd_832 : (Jvm.Cond.instanceMethod ({ cls := "StreamPair$End", name := "output", desc := "()Z" } : Jvm.MethodName)) ∈ lw_tbl := List.mem_of_getElem? (i := 832) (by decide +kernel)
theorem wd_833 : (Jvm.Cond.selects "StreamPair$End" ({ cls := "StreamPair$End", name := "output", desc := "()Z" } : Jvm.MethodName) ({ cls := "StreamPair$End", name := "output", desc := "()Z" } : Jvm.MethodName)) ∈ lw_tbl := List.mem_of_getElem? (i := 833) (by decide +kernel)
theorem wd_834 : (Jvm.Cond.code ({ cls := "StreamPair$End", name := "output", desc := "()Z" } : Jvm.MethodName) prog_5_method_14_code (4 : Nat) (Option.some Jvm.ClassFile.FieldType.boolean)) ∈ lw_tbl := List.mem_of_getElem? (i := 834) (by decide +kernel)
theorem wd_835 : (Jvm.Cond.methodLink "StreamPair$End" (175 : Nat) ({ cls := "StreamPair$End", name := "maySend", desc := "()Z" } : Jvm.MethodName)) ∈ lw_tbl := List.mem_of_getElem? (i := 835) (by decide +kernel)
theorem wd_837 : (Jvm.Cond.instanceMethod ({ cls := "StreamPair$End", name := "maySend", desc := "()Z" } : Jvm.MethodName)) ∈ lw_tbl := List.mem_of_getElem? (i := 837) (by decide +kernel)
theorem wd_838 : (Jvm.Cond.code ({ cls := "StreamPair$End", name := "maySend", desc := "()Z" } : Jvm.MethodName) prog_5_method_15_code (1 : Nat) (Option.some Jvm.ClassFile.FieldType.boolean)) ∈ lw_tbl := List.mem_of_getElem? (i := 838) (by decide +kernel)
theorem wd_839 : (Jvm.Cond.methodLink "StreamPair$End" (178 : Nat) ({ cls := "StreamPair$End", name := "bytesToSend", desc := "()I" } : Jvm.MethodName)) ∈ lw_tbl := List.mem_of_getElem? (i := 839) (by decide +kernel)
theorem wd_841 : (Jvm.Cond.instanceMethod ({ cls := "StreamPair$End", name := "bytesToSend", desc := "()I" } : Jvm.MethodName)) ∈ lw_tbl := List.mem_of_getElem? (i := 841) (by decide +kernel)
theorem wd_842 : (Jvm.Cond.code ({ cls := "StreamPair$End", name := "bytesToSend", desc := "()I" } : Jvm.MethodName) prog_5_method_16_code (5 : Nat) (Option.some Jvm.ClassFile.FieldType.int)) ∈ lw_tbl := List.mem_of_getElem? (i := 842) (by decide +kernel)
theorem wd_843 : (Jvm.Cond.methodLink "StreamPair$End" (187 : Nat) ({ cls := "StreamPair$Supply", name := "unsent", desc := "()I" } : Jvm.MethodName)) ∈ lw_tbl := List.mem_of_getElem? (i := 843) (by decide +kernel)
theorem wd_844 : (Jvm.Cond.instanceMethod ({ cls := "StreamPair$Supply", name := "unsent", desc := "()I" } : Jvm.MethodName)) ∈ lw_tbl := List.mem_of_getElem? (i := 844) (by decide +kernel)
theorem wd_845 : (Jvm.Cond.selects "StreamPair$Supply" ({ cls := "StreamPair$Supply", name := "unsent", desc := "()I" } : Jvm.MethodName) ({ cls := "StreamPair$Supply", name := "unsent", desc := "()I" } : Jvm.MethodName)) ∈ lw_tbl := List.mem_of_getElem? (i := 845) (by decide +kernel)
theorem wd_846 : (Jvm.Cond.code ({ cls := "StreamPair$Supply", name := "unsent", desc := "()I" } : Jvm.MethodName) prog_9_method_9_code (1 : Nat) (Option.some Jvm.ClassFile.FieldType.int)) ∈ lw_tbl := List.mem_of_getElem? (i := 846) (by decide +kernel)
theorem wd_847 : (Jvm.Cond.methodLink "StreamPair$End" (196 : Nat) ({ cls := "java/lang/Math", name := "min", desc := "(II)I" } : Jvm.MethodName)) ∈ lw_tbl := List.mem_of_getElem? (i := 847) (by decide +kernel)
theorem wd_848 : (Jvm.Cond.methodLink "StreamPair$End" (184 : Nat) ({ cls := "StreamPair$Supply", name := "flight", desc := "()I" } : Jvm.MethodName)) ∈ lw_tbl := List.mem_of_getElem? (i := 848) (by decide +kernel)
theorem wd_849 : (Jvm.Cond.instanceMethod ({ cls := "StreamPair$Supply", name := "flight", desc := "()I" } : Jvm.MethodName)) ∈ lw_tbl := List.mem_of_getElem? (i := 849) (by decide +kernel)
theorem wd_850 : (Jvm.Cond.selects "StreamPair$Supply" ({ cls := "StreamPair$Supply", name := "flight", desc := "()I" } : Jvm.MethodName) ({ cls := "StreamPair$Supply", name := "flight", desc := "()I" } : Jvm.MethodName)) ∈ lw_tbl := List.mem_of_getElem? (i := 850) (by decide +kernel)
theorem wd_851 : (Jvm.Cond.code ({ cls := "StreamPair$Supply", name := "flight", desc := "()I" } : Jvm.MethodName) prog_9_method_8_code (1 : Nat) (Option.some Jvm.ClassFile.FieldType.int)) ∈ lw_tbl := List.mem_of_getElem? (i := 851) (by decide +kernel)
theorem wd_852 : (Jvm.Cond.methodLink "StreamPair$End" (181 : Nat) ({ cls := "StreamPair$Supply", name := "finIsDue", desc := "()Z" } : Jvm.MethodName)) ∈ lw_tbl := List.mem_of_getElem? (i := 852) (by decide +kernel)
theorem wd_853 : (Jvm.Cond.instanceMethod ({ cls := "StreamPair$Supply", name := "finIsDue", desc := "()Z" } : Jvm.MethodName)) ∈ lw_tbl := List.mem_of_getElem? (i := 853) (by decide +kernel)
theorem wd_854 : (Jvm.Cond.selects "StreamPair$Supply" ({ cls := "StreamPair$Supply", name := "finIsDue", desc := "()Z" } : Jvm.MethodName) ({ cls := "StreamPair$Supply", name := "finIsDue", desc := "()Z" } : Jvm.MethodName)) ∈ lw_tbl := List.mem_of_getElem? (i := 854) (by decide +kernel)
theorem wd_855 : (Jvm.Cond.code ({ cls := "StreamPair$Supply", name := "finIsDue", desc := "()Z" } : Jvm.MethodName) prog_9_method_11_code (1 : Nat) (Option.some Jvm.ClassFile.FieldType.boolean)) ∈ lw_tbl := List.mem_of_getElem? (i := 855) (by decide +kernel)
theorem wd_856 : (Jvm.Cond.methodLink "StreamPair$Supply" (71 : Nat) ({ cls := "StreamPair$Supply", name := "unsent", desc := "()I" } : Jvm.MethodName)) ∈ lw_tbl := List.mem_of_getElem? (i := 856) (by decide +kernel)
theorem wd_857 : (Jvm.Cond.methodLink "StreamPairLaw" (100 : Nat) ({ cls := "StreamPairLaw", name := "read", desc := "(LStreamPair;II[J)I" } : Jvm.MethodName)) ∈ lw_tbl := List.mem_of_getElem? (i := 857) (by decide +kernel)
theorem wd_858 : (Jvm.Cond.static ({ cls := "StreamPairLaw", name := "read", desc := "(LStreamPair;II[J)I" } : Jvm.MethodName)) ∈ lw_tbl := List.mem_of_getElem? (i := 858) (by decide +kernel)
theorem wd_859 : (Jvm.Cond.codeWith ({ cls := "StreamPairLaw", name := "read", desc := "(LStreamPair;II[J)I" } : Jvm.MethodName) method_7_code (5 : Nat) (Option.some Jvm.ClassFile.FieldType.int) [((0 : Nat), (9 : Nat), (12 : Nat), (25 : Nat)), ((0 : Nat), (9 : Nat), (16 : Nat), (19 : Nat)), ((0 : Nat), (9 : Nat), (20 : Nat), (13 : Nat)), ((0 : Nat), (9 : Nat), (24 : Nat), (30 : Nat))]) ∈ lw_tbl := List.mem_of_getElem? (i := 859) (by decide +kernel)
theorem wd_860 : (Jvm.Cond.methodLink "StreamPairLaw" (32 : Nat) ({ cls := "StreamPair", name := "read", desc := "(II)J" } : Jvm.MethodName)) ∈ lw_tbl := List.mem_of_getElem? (i := 860) (by decide +kernel)
theorem wd_861 : (Jvm.Cond.instanceMethod ({ cls := "StreamPair", name := "read", desc := "(II)J" } : Jvm.MethodName)) ∈ lw_tbl := List.mem_of_getElem? (i := 861) (by decide +kernel)
theorem wd_862 : (Jvm.Cond.selects "StreamPair" ({ cls := "StreamPair", name := "read", desc := "(II)J" } : Jvm.MethodName) ({ cls := "StreamPair", name := "read", desc := "(II)J" } : Jvm.MethodName)) ∈ lw_tbl := List.mem_of_getElem? (i := 862) (by decide +kernel)
theorem wd_863 : (Jvm.Cond.code ({ cls := "StreamPair", name := "read", desc := "(II)J" } : Jvm.MethodName) prog_1_method_7_code (6 : Nat) (Option.some Jvm.ClassFile.FieldType.long)) ∈ lw_tbl := List.mem_of_getElem? (i := 863) (by decide +kernel)
theorem wd_864 : (Jvm.Cond.stringRef "StreamPair" (134 : Nat) "not 1 to 7 bytes") ∈ lw_tbl := List.mem_of_getElem? (i := 864) (by decide +kernel)
theorem wd_865 : (Jvm.Cond.stringRef "StreamPair" (143 : Nat) "the stream has ended") ∈ lw_tbl := List.mem_of_getElem? (i := 865) (by decide +kernel)
theorem wd_866 : (Jvm.Cond.stringRef "StreamPair" (148 : Nat) "the stream was broken off") ∈ lw_tbl := List.mem_of_getElem? (i := 866) (by decide +kernel)
theorem wd_867 : (Jvm.Cond.methodLink "StreamPair" (150 : Nat) ({ cls := "StreamPair$Arrivals", name := "takeUnread", desc := "(I)J" } : Jvm.MethodName)) ∈ lw_tbl := List.mem_of_getElem? (i := 867) (by decide +kernel)
theorem wd_868 : (Jvm.Cond.instanceMethod ({ cls := "StreamPair$Arrivals", name := "takeUnread", desc := "(I)J" } : Jvm.MethodName)) ∈ lw_tbl := List.mem_of_getElem? (i := 868) (by decide +kernel)
theorem wd_869 : (Jvm.Cond.selects "StreamPair$Arrivals" ({ cls := "StreamPair$Arrivals", name := "takeUnread", desc := "(I)J" } : Jvm.MethodName) ({ cls := "StreamPair$Arrivals", name := "takeUnread", desc := "(I)J" } : Jvm.MethodName)) ∈ lw_tbl := List.mem_of_getElem? (i := 869) (by decide +kernel)
theorem wd_870 : (Jvm.Cond.code ({ cls := "StreamPair$Arrivals", name := "takeUnread", desc := "(I)J" } : Jvm.MethodName) prog_2_method_12_code (7 : Nat) (Option.some Jvm.ClassFile.FieldType.long)) ∈ lw_tbl := List.mem_of_getElem? (i := 870) (by decide +kernel)
theorem wd_871 : (Jvm.Cond.methodLink "StreamPair$Arrivals" (81 : Nat) ({ cls := "java/lang/Math", name := "min", desc := "(II)I" } : Jvm.MethodName)) ∈ lw_tbl := List.mem_of_getElem? (i := 871) (by decide +kernel)
theorem wd_872 : (Jvm.Cond.methodLink "StreamPair" (154 : Nat) ({ cls := "StreamPair$End", name := "tellOpenedWindow", desc := "()V" } : Jvm.MethodName)) ∈ lw_tbl := List.mem_of_getElem? (i := 872) (by decide +kernel)
theorem wd_873 : (Jvm.Cond.instanceMethod ({ cls := "StreamPair$End", name := "tellOpenedWindow", desc := "()V" } : Jvm.MethodName)) ∈ lw_tbl := List.mem_of_getElem? (i := 873) (by decide +kernel)
theorem wd_874 : (Jvm.Cond.selects "StreamPair$End" ({ cls := "StreamPair$End", name := "tellOpenedWindow", desc := "()V" } : Jvm.MethodName) ({ cls := "StreamPair$End", name := "tellOpenedWindow", desc := "()V" } : Jvm.MethodName)) ∈ lw_tbl := List.mem_of_getElem? (i := 874) (by decide +kernel)
theorem wd_875 : (Jvm.Cond.code ({ cls := "StreamPair$End", name := "tellOpenedWindow", desc := "()V" } : Jvm.MethodName) prog_5_method_7_code (2 : Nat) (Option.none : Option Jvm.ClassFile.FieldType)) ∈ lw_tbl := List.mem_of_getElem? (i := 875) (by decide +kernel)
theorem wd_876 : (Jvm.Cond.methodLink "StreamPair$End" (101 : Nat) ({ cls := "StreamPair$Arrivals", name := "window", desc := "()I" } : Jvm.MethodName)) ∈ lw_tbl := List.mem_of_getElem? (i := 876) (by decide +kernel)
theorem wd_877 : (Jvm.Cond.methodLink "StreamPair$End" (105 : Nat) ({ cls := "StreamPair$End", name := "takesData", desc := "()Z" } : Jvm.MethodName)) ∈ lw_tbl := List.mem_of_getElem? (i := 877) (by decide +kernel)
theorem wd_879 : (Jvm.Cond.instanceMethod ({ cls := "StreamPair$End", name := "takesData", desc := "()Z" } : Jvm.MethodName)) ∈ lw_tbl := List.mem_of_getElem? (i := 879) (by decide +kernel)
theorem wd_880 : (Jvm.Cond.code ({ cls := "StreamPair$End", name := "takesData", desc := "()Z" } : Jvm.MethodName) prog_5_method_8_code (1 : Nat) (Option.some Jvm.ClassFile.FieldType.boolean)) ∈ lw_tbl := List.mem_of_getElem? (i := 880) (by decide +kernel)
theorem wd_881 : (Jvm.Cond.methodLink "StreamPair$End" (111 : Nat) ({ cls := "StreamPair$Arrivals", name := "free", desc := "()I" } : Jvm.MethodName)) ∈ lw_tbl := List.mem_of_getElem? (i := 881) (by decide +kernel)
theorem wd_882 : (Jvm.Cond.methodLink "StreamPair$End" (114 : Nat) ({ cls := "StreamPair$End", name := "sendAck", desc := "()V" } : Jvm.MethodName)) ∈ lw_tbl := List.mem_of_getElem? (i := 882) (by decide +kernel)
theorem wd_884 : (Jvm.Cond.instanceMethod ({ cls := "StreamPair$End", name := "sendAck", desc := "()V" } : Jvm.MethodName)) ∈ lw_tbl := List.mem_of_getElem? (i := 884) (by decide +kernel)
theorem wd_885 : (Jvm.Cond.code ({ cls := "StreamPair$End", name := "sendAck", desc := "()V" } : Jvm.MethodName) prog_5_method_9_code (1 : Nat) (Option.none : Option Jvm.ClassFile.FieldType)) ∈ lw_tbl := List.mem_of_getElem? (i := 885) (by decide +kernel)
theorem wd_886 : (Jvm.Cond.methodLink "StreamPairLaw" (104 : Nat) ({ cls := "StreamPairLaw", name := "close", desc := "(LStreamPair;I[J)I" } : Jvm.MethodName)) ∈ lw_tbl := List.mem_of_getElem? (i := 886) (by decide +kernel)
theorem wd_887 : (Jvm.Cond.static ({ cls := "StreamPairLaw", name := "close", desc := "(LStreamPair;I[J)I" } : Jvm.MethodName)) ∈ lw_tbl := List.mem_of_getElem? (i := 887) (by decide +kernel)
theorem wd_888 : (Jvm.Cond.codeWith ({ cls := "StreamPairLaw", name := "close", desc := "(LStreamPair;I[J)I" } : Jvm.MethodName) method_8_code (4 : Nat) (Option.some Jvm.ClassFile.FieldType.int) [((0 : Nat), (9 : Nat), (12 : Nat), (25 : Nat)), ((0 : Nat), (9 : Nat), (15 : Nat), (13 : Nat))]) ∈ lw_tbl := List.mem_of_getElem? (i := 888) (by decide +kernel)
theorem wd_889 : (Jvm.Cond.methodLink "StreamPairLaw" (36 : Nat) ({ cls := "StreamPair", name := "close", desc := "(I)I" } : Jvm.MethodName)) ∈ lw_tbl := List.mem_of_getElem? (i := 889) (by decide +kernel)
theorem wd_890 : (Jvm.Cond.instanceMethod ({ cls := "StreamPair", name := "close", desc := "(I)I" } : Jvm.MethodName)) ∈ lw_tbl := List.mem_of_getElem? (i := 890) (by decide +kernel)
theorem wd_891 : (Jvm.Cond.selects "StreamPair" ({ cls := "StreamPair", name := "close", desc := "(I)I" } : Jvm.MethodName) ({ cls := "StreamPair", name := "close", desc := "(I)I" } : Jvm.MethodName)) ∈ lw_tbl := List.mem_of_getElem? (i := 891) (by decide +kernel)
theorem wd_892 : (Jvm.Cond.code ({ cls := "StreamPair", name := "close", desc := "(I)I" } : Jvm.MethodName) prog_1_method_8_code (3 : Nat) (Option.some Jvm.ClassFile.FieldType.int)) ∈ lw_tbl := List.mem_of_getElem? (i := 892) (by decide +kernel)
theorem wd_893 : (Jvm.Cond.methodLink "StreamPair" (157 : Nat) ({ cls := "StreamPair$End", name := "mayClose", desc := "()Z" } : Jvm.MethodName)) ∈ lw_tbl := List.mem_of_getElem? (i := 893) (by decide +kernel)
theorem wd_894 : (Jvm.Cond.instanceMethod ({ cls := "StreamPair$End", name := "mayClose", desc := "()Z" } : Jvm.MethodName)) ∈ lw_tbl := List.mem_of_getElem? (i := 894) (by decide +kernel)
theorem wd_895 : (Jvm.Cond.selects "StreamPair$End" ({ cls := "StreamPair$End", name := "mayClose", desc := "()Z" } : Jvm.MethodName) ({ cls := "StreamPair$End", name := "mayClose", desc := "()Z" } : Jvm.MethodName)) ∈ lw_tbl := List.mem_of_getElem? (i := 895) (by decide +kernel)
theorem wd_896 : (Jvm.Cond.code ({ cls := "StreamPair$End", name := "mayClose", desc := "()Z" } : Jvm.MethodName) prog_5_method_3_code (1 : Nat) (Option.some Jvm.ClassFile.FieldType.boolean)) ∈ lw_tbl := List.mem_of_getElem? (i := 896) (by decide +kernel)
theorem wd_897 : (Jvm.Cond.stringRef "StreamPair" (160 : Nat) "not a state to close in") ∈ lw_tbl := List.mem_of_getElem? (i := 897) (by decide +kernel)
theorem wd_898 : (Jvm.Cond.methodLink "StreamPair" (162 : Nat) ({ cls := "StreamPair$End", name := "closes", desc := "()V" } : Jvm.MethodName)) ∈ lw_tbl := List.mem_of_getElem? (i := 898) (by decide +kernel)
theorem wd_899 : (Jvm.Cond.instanceMethod ({ cls := "StreamPair$End", name := "closes", desc := "()V" } : Jvm.MethodName)) ∈ lw_tbl := List.mem_of_getElem? (i := 899) (by decide +kernel)
theorem wd_900 : (Jvm.Cond.selects "StreamPair$End" ({ cls := "StreamPair$End", name := "closes", desc := "()V" } : Jvm.MethodName) ({ cls := "StreamPair$End", name := "closes", desc := "()V" } : Jvm.MethodName)) ∈ lw_tbl := List.mem_of_getElem? (i := 900) (by decide +kernel)
theorem wd_901 : (Jvm.Cond.code ({ cls := "StreamPair$End", name := "closes", desc := "()V" } : Jvm.MethodName) prog_5_method_4_code (1 : Nat) (Option.none : Option Jvm.ClassFile.FieldType)) ∈ lw_tbl := List.mem_of_getElem? (i := 901) (by decide +kernel)
theorem wd_902 : (Jvm.Cond.methodLink "StreamPair$End" (80 : Nat) ({ cls := "StreamPair$End", name := "shut", desc := "(I)V" } : Jvm.MethodName)) ∈ lw_tbl := List.mem_of_getElem? (i := 902) (by decide +kernel)
theorem wd_904 : (Jvm.Cond.instanceMethod ({ cls := "StreamPair$End", name := "shut", desc := "(I)V" } : Jvm.MethodName)) ∈ lw_tbl := List.mem_of_getElem? (i := 904) (by decide +kernel)
theorem wd_905 : (Jvm.Cond.code ({ cls := "StreamPair$End", name := "shut", desc := "(I)V" } : Jvm.MethodName) prog_5_method_6_code (2 : Nat) (Option.none : Option Jvm.ClassFile.FieldType)) ∈ lw_tbl := List.mem_of_getElem? (i := 905) (by decide +kernel)
theorem wd_906 : (Jvm.Cond.methodLink "StreamPair$End" (87 : Nat) ({ cls := "StreamPair$End", name := "output", desc := "()Z" } : Jvm.MethodName)) ∈ lw_tbl := List.mem_of_getElem? (i := 906) (by decide +kernel)
theorem wd_907 : (Jvm.Cond.methodLink "StreamPairLaw" (107 : Nat) ({ cls := "StreamPairLaw", name := "abort", desc := "(LStreamPair;I[J)I" } : Jvm.MethodName)) ∈ lw_tbl := List.mem_of_getElem? (i := 907) (by decide +kernel)
theorem wd_908 : (Jvm.Cond.static ({ cls := "StreamPairLaw", name := "abort", desc := "(LStreamPair;I[J)I" } : Jvm.MethodName)) ∈ lw_tbl := List.mem_of_getElem? (i := 908) (by decide +kernel)
theorem wd_909 : (Jvm.Cond.codeWith ({ cls := "StreamPairLaw", name := "abort", desc := "(LStreamPair;I[J)I" } : Jvm.MethodName) method_9_code (4 : Nat) (Option.some Jvm.ClassFile.FieldType.int) [((0 : Nat), (9 : Nat), (12 : Nat), (25 : Nat))]) ∈ lw_tbl := List.mem_of_getElem? (i := 909) (by decide +kernel)
theorem wd_910 : (Jvm.Cond.methodLink "StreamPairLaw" (39 : Nat) ({ cls := "StreamPair", name := "abort", desc := "(I)I" } : Jvm.MethodName)) ∈ lw_tbl := List.mem_of_getElem? (i := 910) (by decide +kernel)
theorem wd_911 : (Jvm.Cond.instanceMethod ({ cls := "StreamPair", name := "abort", desc := "(I)I" } : Jvm.MethodName)) ∈ lw_tbl := List.mem_of_getElem? (i := 911) (by decide +kernel)
theorem wd_912 : (Jvm.Cond.selects "StreamPair" ({ cls := "StreamPair", name := "abort", desc := "(I)I" } : Jvm.MethodName) ({ cls := "StreamPair", name := "abort", desc := "(I)I" } : Jvm.MethodName)) ∈ lw_tbl := List.mem_of_getElem? (i := 912) (by decide +kernel)
theorem wd_913 : (Jvm.Cond.code ({ cls := "StreamPair", name := "abort", desc := "(I)I" } : Jvm.MethodName) prog_1_method_9_code (4 : Nat) (Option.some Jvm.ClassFile.FieldType.int)) ∈ lw_tbl := List.mem_of_getElem? (i := 913) (by decide +kernel)
theorem wd_914 : (Jvm.Cond.methodLink "StreamPair" (165 : Nat) ({ cls := "StreamPair$End", name := "breaksOff", desc := "()V" } : Jvm.MethodName)) ∈ lw_tbl := List.mem_of_getElem? (i := 914) (by decide +kernel)
theorem wd_915 : (Jvm.Cond.instanceMethod ({ cls := "StreamPair$End", name := "breaksOff", desc := "()V" } : Jvm.MethodName)) ∈ lw_tbl := List.mem_of_getElem? (i := 915) (by decide +kernel)
theorem wd_916 : (Jvm.Cond.selects "StreamPair$End" ({ cls := "StreamPair$End", name := "breaksOff", desc := "()V" } : Jvm.MethodName) ({ cls := "StreamPair$End", name := "breaksOff", desc := "()V" } : Jvm.MethodName)) ∈ lw_tbl := List.mem_of_getElem? (i := 916) (by decide +kernel)
theorem wd_917 : (Jvm.Cond.code ({ cls := "StreamPair$End", name := "breaksOff", desc := "()V" } : Jvm.MethodName) prog_5_method_5_code (1 : Nat) (Option.none : Option Jvm.ClassFile.FieldType)) ∈ lw_tbl := List.mem_of_getElem? (i := 917) (by decide +kernel)
theorem wd_918 : (Jvm.Cond.methodLink "StreamPairLaw" (110 : Nat) ({ cls := "StreamPairLaw", name := "tick", desc := "(LStreamPair;I[J)I" } : Jvm.MethodName)) ∈ lw_tbl := List.mem_of_getElem? (i := 918) (by decide +kernel)
theorem wd_919 : (Jvm.Cond.static ({ cls := "StreamPairLaw", name := "tick", desc := "(LStreamPair;I[J)I" } : Jvm.MethodName)) ∈ lw_tbl := List.mem_of_getElem? (i := 919) (by decide +kernel)
theorem wd_920 : (Jvm.Cond.codeWith ({ cls := "StreamPairLaw", name := "tick", desc := "(LStreamPair;I[J)I" } : Jvm.MethodName) method_10_code (4 : Nat) (Option.some Jvm.ClassFile.FieldType.int) [((0 : Nat), (8 : Nat), (11 : Nat), (19 : Nat))]) ∈ lw_tbl := List.mem_of_getElem? (i := 920) (by decide +kernel)
theorem wd_921 : (Jvm.Cond.methodLink "StreamPairLaw" (42 : Nat) ({ cls := "StreamPair", name := "tick", desc := "(I)J" } : Jvm.MethodName)) ∈ lw_tbl := List.mem_of_getElem? (i := 921) (by decide +kernel)
theorem wd_922 : (Jvm.Cond.instanceMethod ({ cls := "StreamPair", name := "tick", desc := "(I)J" } : Jvm.MethodName)) ∈ lw_tbl := List.mem_of_getElem? (i := 922) (by decide +kernel)
theorem wd_923 : (Jvm.Cond.selects "StreamPair" ({ cls := "StreamPair", name := "tick", desc := "(I)J" } : Jvm.MethodName) ({ cls := "StreamPair", name := "tick", desc := "(I)J" } : Jvm.MethodName)) ∈ lw_tbl := List.mem_of_getElem? (i := 923) (by decide +kernel)
theorem wd_924 : (Jvm.Cond.code ({ cls := "StreamPair", name := "tick", desc := "(I)J" } : Jvm.MethodName) prog_1_method_10_code (6 : Nat) (Option.some Jvm.ClassFile.FieldType.long)) ∈ lw_tbl := List.mem_of_getElem? (i := 924) (by decide +kernel)
theorem wd_925 : (Jvm.Cond.constant "StreamPair" (168 : Nat) (1000000 : Int32)) ∈ lw_tbl := List.mem_of_getElem? (i := 925) (by decide +kernel)
theorem wd_926 : (Jvm.Cond.stringRef "StreamPair" (169 : Nat) "not 1 to 1,000,000 milliseconds") ∈ lw_tbl := List.mem_of_getElem? (i := 926) (by decide +kernel)
theorem wd_927 : (Jvm.Cond.methodLink "StreamPair" (175 : Nat) ({ cls := "StreamPair", name := "nextDue", desc := "()LStreamPair$End;" } : Jvm.MethodName)) ∈ lw_tbl := List.mem_of_getElem? (i := 927) (by decide +kernel)
theorem wd_929 : (Jvm.Cond.instanceMethod ({ cls := "StreamPair", name := "nextDue", desc := "()LStreamPair$End;" } : Jvm.MethodName)) ∈ lw_tbl := List.mem_of_getElem? (i := 929) (by decide +kernel)
theorem wd_930 : (Jvm.Cond.code ({ cls := "StreamPair", name := "nextDue", desc := "()LStreamPair$End;" } : Jvm.MethodName) prog_1_method_21_code (1 : Nat) (Option.some (Jvm.ClassFile.FieldType.object "StreamPair$End"))) ∈ lw_tbl := List.mem_of_getElem? (i := 930) (by decide +kernel)
theorem wd_931 : (Jvm.Cond.methodLink "StreamPair" (191 : Nat) ({ cls := "StreamPair$End", name := "timerDue", desc := "()V" } : Jvm.MethodName)) ∈ lw_tbl := List.mem_of_getElem? (i := 931) (by decide +kernel)
theorem wd_932 : (Jvm.Cond.instanceMethod ({ cls := "StreamPair$End", name := "timerDue", desc := "()V" } : Jvm.MethodName)) ∈ lw_tbl := List.mem_of_getElem? (i := 932) (by decide +kernel)
theorem wd_933 : (Jvm.Cond.selects "StreamPair$End" ({ cls := "StreamPair$End", name := "timerDue", desc := "()V" } : Jvm.MethodName) ({ cls := "StreamPair$End", name := "timerDue", desc := "()V" } : Jvm.MethodName)) ∈ lw_tbl := List.mem_of_getElem? (i := 933) (by decide +kernel)
theorem wd_934 : (Jvm.Cond.code ({ cls := "StreamPair$End", name := "timerDue", desc := "()V" } : Jvm.MethodName) prog_5_method_17_code (1 : Nat) (Option.none : Option Jvm.ClassFile.FieldType)) ∈ lw_tbl := List.mem_of_getElem? (i := 934) (by decide +kernel)
theorem wd_935 : (Jvm.Cond.methodLink "StreamPair$End" (205 : Nat) ({ cls := "StreamPair$Pace", name := "backOff", desc := "()V" } : Jvm.MethodName)) ∈ lw_tbl := List.mem_of_getElem? (i := 935) (by decide +kernel)
theorem wd_936 : (Jvm.Cond.instanceMethod ({ cls := "StreamPair$Pace", name := "backOff", desc := "()V" } : Jvm.MethodName)) ∈ lw_tbl := List.mem_of_getElem? (i := 936) (by decide +kernel)
theorem wd_937 : (Jvm.Cond.selects "StreamPair$Pace" ({ cls := "StreamPair$Pace", name := "backOff", desc := "()V" } : Jvm.MethodName) ({ cls := "StreamPair$Pace", name := "backOff", desc := "()V" } : Jvm.MethodName)) ∈ lw_tbl := List.mem_of_getElem? (i := 937) (by decide +kernel)
theorem wd_938 : (Jvm.Cond.code ({ cls := "StreamPair$Pace", name := "backOff", desc := "()V" } : Jvm.MethodName) prog_7_method_8_code (1 : Nat) (Option.none : Option Jvm.ClassFile.FieldType)) ∈ lw_tbl := List.mem_of_getElem? (i := 938) (by decide +kernel)
theorem wd_939 : (Jvm.Cond.constant "StreamPair$Pace" (72 : Nat) (60000 : Int32)) ∈ lw_tbl := List.mem_of_getElem? (i := 939) (by decide +kernel)
theorem wd_940 : (Jvm.Cond.methodLink "StreamPair$Pace" (73 : Nat) ({ cls := "java/lang/Math", name := "min", desc := "(II)I" } : Jvm.MethodName)) ∈ lw_tbl := List.mem_of_getElem? (i := 940) (by decide +kernel)
theorem wd_941 : (Jvm.Cond.methodLink "StreamPair$End" (211 : Nat) ({ cls := "StreamPair$Crowd", name := "collapse", desc := "(I)V" } : Jvm.MethodName)) ∈ lw_tbl := List.mem_of_getElem? (i := 941) (by decide +kernel)
theorem wd_942 : (Jvm.Cond.instanceMethod ({ cls := "StreamPair$Crowd", name := "collapse", desc := "(I)V" } : Jvm.MethodName)) ∈ lw_tbl := List.mem_of_getElem? (i := 942) (by decide +kernel)
theorem wd_943 : (Jvm.Cond.selects "StreamPair$Crowd" ({ cls := "StreamPair$Crowd", name := "collapse", desc := "(I)V" } : Jvm.MethodName) ({ cls := "StreamPair$Crowd", name := "collapse", desc := "(I)V" } : Jvm.MethodName)) ∈ lw_tbl := List.mem_of_getElem? (i := 943) (by decide +kernel)
theorem wd_944 : (Jvm.Cond.code ({ cls := "StreamPair$Crowd", name := "collapse", desc := "(I)V" } : Jvm.MethodName) prog_4_method_5_code (2 : Nat) (Option.none : Option Jvm.ClassFile.FieldType)) ∈ lw_tbl := List.mem_of_getElem? (i := 944) (by decide +kernel)
theorem wd_945 : (Jvm.Cond.methodLink "StreamPair$Crowd" (33 : Nat) ({ cls := "StreamPair$Crowd", name := "lowered", desc := "(I)I" } : Jvm.MethodName)) ∈ lw_tbl := List.mem_of_getElem? (i := 945) (by decide +kernel)
theorem wd_947 : (Jvm.Cond.instanceMethod ({ cls := "StreamPair$Crowd", name := "lowered", desc := "(I)I" } : Jvm.MethodName)) ∈ lw_tbl := List.mem_of_getElem? (i := 947) (by decide +kernel)
theorem wd_948 : (Jvm.Cond.code ({ cls := "StreamPair$Crowd", name := "lowered", desc := "(I)I" } : Jvm.MethodName) prog_4_method_7_code (2 : Nat) (Option.some Jvm.ClassFile.FieldType.int)) ∈ lw_tbl := List.mem_of_getElem? (i := 948) (by decide +kernel)
theorem wd_949 : (Jvm.Cond.methodLink "StreamPair$Crowd" (29 : Nat) ({ cls := "java/lang/Math", name := "max", desc := "(II)I" } : Jvm.MethodName)) ∈ lw_tbl := List.mem_of_getElem? (i := 949) (by decide +kernel)
theorem wd_950 : (Jvm.Cond.methodLink "StreamPairLaw" (113 : Nat) ({ cls := "StreamPairLaw", name := "deliver", desc := "(LStreamPair;I[J)I" } : Jvm.MethodName)) ∈ lw_tbl := List.mem_of_getElem? (i := 950) (by decide +kernel)
theorem wd_951 : (Jvm.Cond.static ({ cls := "StreamPairLaw", name := "deliver", desc := "(LStreamPair;I[J)I" } : Jvm.MethodName)) ∈ lw_tbl := List.mem_of_getElem? (i := 951) (by decide +kernel)
theorem wd_952 : (Jvm.Cond.codeWith ({ cls := "StreamPairLaw", name := "deliver", desc := "(LStreamPair;I[J)I" } : Jvm.MethodName) method_11_code (4 : Nat) (Option.some Jvm.ClassFile.FieldType.int) [((0 : Nat), (9 : Nat), (12 : Nat), (25 : Nat))]) ∈ lw_tbl := List.mem_of_getElem? (i := 952) (by decide +kernel)
theorem wd_953 : (Jvm.Cond.methodLink "StreamPairLaw" (46 : Nat) ({ cls := "StreamPair", name := "deliver", desc := "(I)I" } : Jvm.MethodName)) ∈ lw_tbl := List.mem_of_getElem? (i := 953) (by decide +kernel)
theorem wd_954 : (Jvm.Cond.instanceMethod ({ cls := "StreamPair", name := "deliver", desc := "(I)I" } : Jvm.MethodName)) ∈ lw_tbl := List.mem_of_getElem? (i := 954) (by decide +kernel)
theorem wd_955 : (Jvm.Cond.selects "StreamPair" ({ cls := "StreamPair", name := "deliver", desc := "(I)I" } : Jvm.MethodName) ({ cls := "StreamPair", name := "deliver", desc := "(I)I" } : Jvm.MethodName)) ∈ lw_tbl := List.mem_of_getElem? (i := 955) (by decide +kernel)
theorem wd_956 : (Jvm.Cond.code ({ cls := "StreamPair", name := "deliver", desc := "(I)I" } : Jvm.MethodName) prog_1_method_11_code (3 : Nat) (Option.some Jvm.ClassFile.FieldType.int)) ∈ lw_tbl := List.mem_of_getElem? (i := 956) (by decide +kernel)
theorem wd_957 : (Jvm.Cond.methodLink "StreamPair" (194 : Nat) ({ cls := "StreamPair", name := "segmentOf", desc := "(I)LStreamPair$Segment;" } : Jvm.MethodName)) ∈ lw_tbl := List.mem_of_getElem? (i := 957) (by decide +kernel)
theorem wd_959 : (Jvm.Cond.instanceMethod ({ cls := "StreamPair", name := "segmentOf", desc := "(I)LStreamPair$Segment;" } : Jvm.MethodName)) ∈ lw_tbl := List.mem_of_getElem? (i := 959) (by decide +kernel)
theorem wd_960 : (Jvm.Cond.code ({ cls := "StreamPair", name := "segmentOf", desc := "(I)LStreamPair$Segment;" } : Jvm.MethodName) prog_1_method_20_code (2 : Nat) (Option.some (Jvm.ClassFile.FieldType.object "StreamPair$Segment"))) ∈ lw_tbl := List.mem_of_getElem? (i := 960) (by decide +kernel)
theorem wd_961 : (Jvm.Cond.stringRef "StreamPair" (264 : Nat) "no such segment") ∈ lw_tbl := List.mem_of_getElem? (i := 961) (by decide +kernel)
theorem wd_962 : (Jvm.Cond.methodLink "StreamPair" (266 : Nat) ({ cls := "java/util/ArrayList", name := "get", desc := "(I)Ljava/lang/Object;" } : Jvm.MethodName)) ∈ lw_tbl := List.mem_of_getElem? (i := 962) (by decide +kernel)
theorem wd_963 : (Jvm.Cond.classLink "StreamPair" (202 : Nat) "StreamPair$Segment") ∈ lw_tbl := List.mem_of_getElem? (i := 963) (by decide +kernel)
theorem wd_964 : (Jvm.Cond.methodLink "StreamPair" (198 : Nat) ({ cls := "StreamPair$Network", name := "takeOut", desc := "(I)V" } : Jvm.MethodName)) ∈ lw_tbl := List.mem_of_getElem? (i := 964) (by decide +kernel)
theorem wd_965 : (Jvm.Cond.instanceMethod ({ cls := "StreamPair$Network", name := "takeOut", desc := "(I)V" } : Jvm.MethodName)) ∈ lw_tbl := List.mem_of_getElem? (i := 965) (by decide +kernel)
theorem wd_966 : (Jvm.Cond.selects "StreamPair$Network" ({ cls := "StreamPair$Network", name := "takeOut", desc := "(I)V" } : Jvm.MethodName) ({ cls := "StreamPair$Network", name := "takeOut", desc := "(I)V" } : Jvm.MethodName)) ∈ lw_tbl := List.mem_of_getElem? (i := 966) (by decide +kernel)
theorem wd_967 : (Jvm.Cond.code ({ cls := "StreamPair$Network", name := "takeOut", desc := "(I)V" } : Jvm.MethodName) prog_6_method_4_code (2 : Nat) (Option.none : Option Jvm.ClassFile.FieldType)) ∈ lw_tbl := List.mem_of_getElem? (i := 967) (by decide +kernel)
theorem wd_968 : (Jvm.Cond.methodLink "StreamPair" (206 : Nat) ({ cls := "StreamPair$End", name := "comes", desc := "(LStreamPair$Segment;)V" } : Jvm.MethodName)) ∈ lw_tbl := List.mem_of_getElem? (i := 968) (by decide +kernel)
theorem wd_969 : (Jvm.Cond.instanceMethod ({ cls := "StreamPair$End", name := "comes", desc := "(LStreamPair$Segment;)V" } : Jvm.MethodName)) ∈ lw_tbl := List.mem_of_getElem? (i := 969) (by decide +kernel)
theorem wd_970 : (Jvm.Cond.selects "StreamPair$End" ({ cls := "StreamPair$End", name := "comes", desc := "(LStreamPair$Segment;)V" } : Jvm.MethodName) ({ cls := "StreamPair$End", name := "comes", desc := "(LStreamPair$Segment;)V" } : Jvm.MethodName)) ∈ lw_tbl := List.mem_of_getElem? (i := 970) (by decide +kernel)
theorem wd_971 : (Jvm.Cond.code ({ cls := "StreamPair$End", name := "comes", desc := "(LStreamPair$Segment;)V" } : Jvm.MethodName) prog_5_method_18_code (3 : Nat) (Option.none : Option Jvm.ClassFile.FieldType)) ∈ lw_tbl := List.mem_of_getElem? (i := 971) (by decide +kernel)
theorem wd_972 : (Jvm.Cond.methodLink "StreamPair$End" (217 : Nat) ({ cls := "StreamPair$End", name := "isOfThisConnection", desc := "(LStreamPair$Segment;)Z" } : Jvm.MethodName)) ∈ lw_tbl := List.mem_of_getElem? (i := 972) (by decide +kernel)
theorem wd_974 : (Jvm.Cond.instanceMethod ({ cls := "StreamPair$End", name := "isOfThisConnection", desc := "(LStreamPair$Segment;)Z" } : Jvm.MethodName)) ∈ lw_tbl := List.mem_of_getElem? (i := 974) (by decide +kernel)
theorem wd_975 : (Jvm.Cond.code ({ cls := "StreamPair$End", name := "isOfThisConnection", desc := "(LStreamPair$Segment;)Z" } : Jvm.MethodName) prog_5_method_19_code (2 : Nat) (Option.some Jvm.ClassFile.FieldType.boolean)) ∈ lw_tbl := List.mem_of_getElem? (i := 975) (by decide +kernel)
theorem wd_976 : (Jvm.Cond.methodLink "StreamPair$End" (238 : Nat) ({ cls := "StreamPair$Segment", name := "isWellFormed", desc := "()Z" } : Jvm.MethodName)) ∈ lw_tbl := List.mem_of_getElem? (i := 976) (by decide +kernel)
theorem wd_977 : (Jvm.Cond.instanceMethod ({ cls := "StreamPair$Segment", name := "isWellFormed", desc := "()Z" } : Jvm.MethodName)) ∈ lw_tbl := List.mem_of_getElem? (i := 977) (by decide +kernel)
theorem wd_978 : (Jvm.Cond.selects "StreamPair$Segment" ({ cls := "StreamPair$Segment", name := "isWellFormed", desc := "()Z" } : Jvm.MethodName) ({ cls := "StreamPair$Segment", name := "isWellFormed", desc := "()Z" } : Jvm.MethodName)) ∈ lw_tbl := List.mem_of_getElem? (i := 978) (by decide +kernel)
theorem wd_979 : (Jvm.Cond.code ({ cls := "StreamPair$Segment", name := "isWellFormed", desc := "()Z" } : Jvm.MethodName) prog_8_method_12_code (1 : Nat) (Option.some Jvm.ClassFile.FieldType.boolean)) ∈ lw_tbl := List.mem_of_getElem? (i := 979) (by decide +kernel)
theorem wd_980 : (Jvm.Cond.methodLink "StreamPair$Segment" (26 : Nat) ({ cls := "StreamPair$Segment", name := "headerLength", desc := "()I" } : Jvm.MethodName)) ∈ lw_tbl := List.mem_of_getElem? (i := 980) (by decide +kernel)
theorem wd_981 : (Jvm.Cond.instanceMethod ({ cls := "StreamPair$Segment", name := "headerLength", desc := "()I" } : Jvm.MethodName)) ∈ lw_tbl := List.mem_of_getElem? (i := 981) (by decide +kernel)
theorem wd_982 : (Jvm.Cond.selects "StreamPair$Segment" ({ cls := "StreamPair$Segment", name := "headerLength", desc := "()I" } : Jvm.MethodName) ({ cls := "StreamPair$Segment", name := "headerLength", desc := "()I" } : Jvm.MethodName)) ∈ lw_tbl := List.mem_of_getElem? (i := 982) (by decide +kernel)
theorem wd_983 : (Jvm.Cond.code ({ cls := "StreamPair$Segment", name := "headerLength", desc := "()I" } : Jvm.MethodName) prog_8_method_9_code (1 : Nat) (Option.some Jvm.ClassFile.FieldType.int)) ∈ lw_tbl := List.mem_of_getElem? (i := 983) (by decide +kernel)
theorem wd_984 : (Jvm.Cond.methodLink "StreamPair$Segment" (22 : Nat) ({ cls := "StreamPair$Segment", name := "number", desc := "(II)I" } : Jvm.MethodName)) ∈ lw_tbl := List.mem_of_getElem? (i := 984) (by decide +kernel)
theorem wd_985 : (Jvm.Cond.instanceMethod ({ cls := "StreamPair$Segment", name := "number", desc := "(II)I" } : Jvm.MethodName)) ∈ lw_tbl := List.mem_of_getElem? (i := 985) (by decide +kernel)
theorem wd_986 : (Jvm.Cond.selects "StreamPair$Segment" ({ cls := "StreamPair$Segment", name := "number", desc := "(II)I" } : Jvm.MethodName) ({ cls := "StreamPair$Segment", name := "number", desc := "(II)I" } : Jvm.MethodName)) ∈ lw_tbl := List.mem_of_getElem? (i := 986) (by decide +kernel)
theorem wd_987 : (Jvm.Cond.code ({ cls := "StreamPair$Segment", name := "number", desc := "(II)I" } : Jvm.MethodName) prog_8_method_4_code (5 : Nat) (Option.some Jvm.ClassFile.FieldType.int)) ∈ lw_tbl := List.mem_of_getElem? (i := 987) (by decide +kernel)
theorem wd_988 : (Jvm.Cond.methodLink "StreamPair$End" (241 : Nat) ({ cls := "StreamPair$Segment", name := "number", desc := "(II)I" } : Jvm.MethodName)) ∈ lw_tbl := List.mem_of_getElem? (i := 988) (by decide +kernel)
theorem wd_989 : (Jvm.Cond.methodLink "StreamPair$End" (221 : Nat) ({ cls := "StreamPair$End", name := "heedInListen", desc := "(LStreamPair$Segment;)I" } : Jvm.MethodName)) ∈ lw_tbl := List.mem_of_getElem? (i := 989) (by decide +kernel)
theorem wd_991 : (Jvm.Cond.instanceMethod ({ cls := "StreamPair$End", name := "heedInListen", desc := "(LStreamPair$Segment;)I" } : Jvm.MethodName)) ∈ lw_tbl := List.mem_of_getElem? (i := 991) (by decide +kernel)
theorem wd_992 : (Jvm.Cond.code ({ cls := "StreamPair$End", name := "heedInListen", desc := "(LStreamPair$Segment;)I" } : Jvm.MethodName) prog_5_method_21_code (2 : Nat) (Option.some Jvm.ClassFile.FieldType.int)) ∈ lw_tbl := List.mem_of_getElem? (i := 992) (by decide +kernel)
theorem wd_993 : (Jvm.Cond.methodLink "StreamPair$End" (244 : Nat) ({ cls := "StreamPair$Segment", name := "has", desc := "(I)Z" } : Jvm.MethodName)) ∈ lw_tbl := List.mem_of_getElem? (i := 993) (by decide +kernel)
theorem wd_994 : (Jvm.Cond.instanceMethod ({ cls := "StreamPair$Segment", name := "has", desc := "(I)Z" } : Jvm.MethodName)) ∈ lw_tbl := List.mem_of_getElem? (i := 994) (by decide +kernel)
theorem wd_995 : (Jvm.Cond.selects "StreamPair$Segment" ({ cls := "StreamPair$Segment", name := "has", desc := "(I)Z" } : Jvm.MethodName) ({ cls := "StreamPair$Segment", name := "has", desc := "(I)Z" } : Jvm.MethodName)) ∈ lw_tbl := List.mem_of_getElem? (i := 995) (by decide +kernel)
theorem wd_996 : (Jvm.Cond.code ({ cls := "StreamPair$Segment", name := "has", desc := "(I)Z" } : Jvm.MethodName) prog_8_method_8_code (2 : Nat) (Option.some Jvm.ClassFile.FieldType.boolean)) ∈ lw_tbl := List.mem_of_getElem? (i := 996) (by decide +kernel)
theorem wd_997 : (Jvm.Cond.methodLink "StreamPair$End" (257 : Nat) ({ cls := "StreamPair$End", name := "heedSyn", desc := "(LStreamPair$Segment;)V" } : Jvm.MethodName)) ∈ lw_tbl := List.mem_of_getElem? (i := 997) (by decide +kernel)
theorem wd_999 : (Jvm.Cond.instanceMethod ({ cls := "StreamPair$End", name := "heedSyn", desc := "(LStreamPair$Segment;)V" } : Jvm.MethodName)) ∈ lw_tbl := List.mem_of_getElem? (i := 999) (by decide +kernel)
theorem wd_1000 : (Jvm.Cond.code ({ cls := "StreamPair$End", name := "heedSyn", desc := "(LStreamPair$Segment;)V" } : Jvm.MethodName) prog_5_method_22_code (2 : Nat) (Option.none : Option Jvm.ClassFile.FieldType)) ∈ lw_tbl := List.mem_of_getElem? (i := 1000) (by decide +kernel)
theorem wd_1001 : (Jvm.Cond.methodLink "StreamPair$End" (251 : Nat) ({ cls := "StreamPair$Segment", name := "seq", desc := "()I" } : Jvm.MethodName)) ∈ lw_tbl := List.mem_of_getElem? (i := 1001) (by decide +kernel)
theorem wd_1002 : (Jvm.Cond.instanceMethod ({ cls := "StreamPair$Segment", name := "seq", desc := "()I" } : Jvm.MethodName)) ∈ lw_tbl := List.mem_of_getElem? (i := 1002) (by decide +kernel)
theorem wd_1003 : (Jvm.Cond.selects "StreamPair$Segment" ({ cls := "StreamPair$Segment", name := "seq", desc := "()I" } : Jvm.MethodName) ({ cls := "StreamPair$Segment", name := "seq", desc := "()I" } : Jvm.MethodName)) ∈ lw_tbl := List.mem_of_getElem? (i := 1003) (by decide +kernel)
theorem wd_1004 : (Jvm.Cond.code ({ cls := "StreamPair$Segment", name := "seq", desc := "()I" } : Jvm.MethodName) prog_8_method_5_code (1 : Nat) (Option.some Jvm.ClassFile.FieldType.int)) ∈ lw_tbl := List.mem_of_getElem? (i := 1004) (by decide +kernel)
theorem wd_1005 : (Jvm.Cond.methodLink "StreamPair$End" (260 : Nat) ({ cls := "StreamPair$Arrivals", name := "heedSyn", desc := "(I)V" } : Jvm.MethodName)) ∈ lw_tbl := List.mem_of_getElem? (i := 1005) (by decide +kernel)
theorem wd_1006 : (Jvm.Cond.instanceMethod ({ cls := "StreamPair$Arrivals", name := "heedSyn", desc := "(I)V" } : Jvm.MethodName)) ∈ lw_tbl := List.mem_of_getElem? (i := 1006) (by decide +kernel)
theorem wd_1007 : (Jvm.Cond.selects "StreamPair$Arrivals" ({ cls := "StreamPair$Arrivals", name := "heedSyn", desc := "(I)V" } : Jvm.MethodName) ({ cls := "StreamPair$Arrivals", name := "heedSyn", desc := "(I)V" } : Jvm.MethodName)) ∈ lw_tbl := List.mem_of_getElem? (i := 1007) (by decide +kernel)
theorem wd_1008 : (Jvm.Cond.code ({ cls := "StreamPair$Arrivals", name := "heedSyn", desc := "(I)V" } : Jvm.MethodName) prog_2_method_3_code (2 : Nat) (Option.none : Option Jvm.ClassFile.FieldType)) ∈ lw_tbl := List.mem_of_getElem? (i := 1008) (by decide +kernel)
theorem wd_1009 : (Jvm.Cond.methodLink "StreamPair$End" (262 : Nat) ({ cls := "StreamPair$Supply", name := "heedWindow", desc := "(LStreamPair$Segment;)V" } : Jvm.MethodName)) ∈ lw_tbl := List.mem_of_getElem? (i := 1009) (by decide +kernel)
theorem wd_1010 : (Jvm.Cond.instanceMethod ({ cls := "StreamPair$Supply", name := "heedWindow", desc := "(LStreamPair$Segment;)V" } : Jvm.MethodName)) ∈ lw_tbl := List.mem_of_getElem? (i := 1010) (by decide +kernel)
theorem wd_1011 : (Jvm.Cond.selects "StreamPair$Supply" ({ cls := "StreamPair$Supply", name := "heedWindow", desc := "(LStreamPair$Segment;)V" } : Jvm.MethodName) ({ cls := "StreamPair$Supply", name := "heedWindow", desc := "(LStreamPair$Segment;)V" } : Jvm.MethodName)) ∈ lw_tbl := List.mem_of_getElem? (i := 1011) (by decide +kernel)
theorem wd_1012 : (Jvm.Cond.code ({ cls := "StreamPair$Supply", name := "heedWindow", desc := "(LStreamPair$Segment;)V" } : Jvm.MethodName) prog_9_method_13_code (2 : Nat) (Option.none : Option Jvm.ClassFile.FieldType)) ∈ lw_tbl := List.mem_of_getElem? (i := 1012) (by decide +kernel)
theorem wd_1013 : (Jvm.Cond.methodLink "StreamPair$Supply" (75 : Nat) ({ cls := "StreamPair$Segment", name := "window", desc := "()I" } : Jvm.MethodName)) ∈ lw_tbl := List.mem_of_getElem? (i := 1013) (by decide +kernel)
theorem wd_1014 : (Jvm.Cond.instanceMethod ({ cls := "StreamPair$Segment", name := "window", desc := "()I" } : Jvm.MethodName)) ∈ lw_tbl := List.mem_of_getElem? (i := 1014) (by decide +kernel)
theorem wd_1015 : (Jvm.Cond.selects "StreamPair$Segment" ({ cls := "StreamPair$Segment", name := "window", desc := "()I" } : Jvm.MethodName) ({ cls := "StreamPair$Segment", name := "window", desc := "()I" } : Jvm.MethodName)) ∈ lw_tbl := List.mem_of_getElem? (i := 1015) (by decide +kernel)
theorem wd_1016 : (Jvm.Cond.code ({ cls := "StreamPair$Segment", name := "window", desc := "()I" } : Jvm.MethodName) prog_8_method_7_code (1 : Nat) (Option.some Jvm.ClassFile.FieldType.int)) ∈ lw_tbl := List.mem_of_getElem? (i := 1016) (by decide +kernel)
theorem wd_1017 : (Jvm.Cond.methodLink "StreamPair$Supply" (78 : Nat) ({ cls := "StreamPair$Segment", name := "seq", desc := "()I" } : Jvm.MethodName)) ∈ lw_tbl := List.mem_of_getElem? (i := 1017) (by decide +kernel)
theorem wd_1018 : (Jvm.Cond.methodLink "StreamPair$Supply" (81 : Nat) ({ cls := "StreamPair$Segment", name := "ack", desc := "()I" } : Jvm.MethodName)) ∈ lw_tbl := List.mem_of_getElem? (i := 1018) (by decide +kernel)
theorem wd_1019 : (Jvm.Cond.instanceMethod ({ cls := "StreamPair$Segment", name := "ack", desc := "()I" } : Jvm.MethodName)) ∈ lw_tbl := List.mem_of_getElem? (i := 1019) (by decide +kernel)
theorem wd_1020 : (Jvm.Cond.selects "StreamPair$Segment" ({ cls := "StreamPair$Segment", name := "ack", desc := "()I" } : Jvm.MethodName) ({ cls := "StreamPair$Segment", name := "ack", desc := "()I" } : Jvm.MethodName)) ∈ lw_tbl := List.mem_of_getElem? (i := 1020) (by decide +kernel)
theorem wd_1021 : (Jvm.Cond.code ({ cls := "StreamPair$Segment", name := "ack", desc := "()I" } : Jvm.MethodName) prog_8_method_6_code (1 : Nat) (Option.some Jvm.ClassFile.FieldType.int)) ∈ lw_tbl := List.mem_of_getElem? (i := 1021) (by decide +kernel)
theorem wd_1022 : (Jvm.Cond.methodLink "StreamPair$End" (265 : Nat) ({ cls := "StreamPair$Segment", name := "toldMss", desc := "()I" } : Jvm.MethodName)) ∈ lw_tbl := List.mem_of_getElem? (i := 1022) (by decide +kernel)
theorem wd_1023 : (Jvm.Cond.instanceMethod ({ cls := "StreamPair$Segment", name := "toldMss", desc := "()I" } : Jvm.MethodName)) ∈ lw_tbl := List.mem_of_getElem? (i := 1023) (by decide +kernel)
theorem wd_1024 : (Jvm.Cond.selects "StreamPair$Segment" ({ cls := "StreamPair$Segment", name := "toldMss", desc := "()I" } : Jvm.MethodName) ({ cls := "StreamPair$Segment", name := "toldMss", desc := "()I" } : Jvm.MethodName)) ∈ lw_tbl := List.mem_of_getElem? (i := 1024) (by decide +kernel)
theorem wd_1025 : (Jvm.Cond.code ({ cls := "StreamPair$Segment", name := "toldMss", desc := "()I" } : Jvm.MethodName) prog_8_method_15_code (6 : Nat) (Option.some Jvm.ClassFile.FieldType.int)) ∈ lw_tbl := List.mem_of_getElem? (i := 1025) (by decide +kernel)
theorem wd_1026 : (Jvm.Cond.methodLink "StreamPair$Segment" (45 : Nat) ({ cls := "java/lang/Math", name := "max", desc := "(II)I" } : Jvm.MethodName)) ∈ lw_tbl := List.mem_of_getElem? (i := 1026) (by decide +kernel)
theorem wd_1027 : (Jvm.Cond.methodLink "StreamPair$End" (268 : Nat) ({ cls := "StreamPair$Crowd", name := "heedMss", desc := "(II)V" } : Jvm.MethodName)) ∈ lw_tbl := List.mem_of_getElem? (i := 1027) (by decide +kernel)
theorem wd_1028 : (Jvm.Cond.instanceMethod ({ cls := "StreamPair$Crowd", name := "heedMss", desc := "(II)V" } : Jvm.MethodName)) ∈ lw_tbl := List.mem_of_getElem? (i := 1028) (by decide +kernel)
theorem wd_1029 : (Jvm.Cond.selects "StreamPair$Crowd" ({ cls := "StreamPair$Crowd", name := "heedMss", desc := "(II)V" } : Jvm.MethodName) ({ cls := "StreamPair$Crowd", name := "heedMss", desc := "(II)V" } : Jvm.MethodName)) ∈ lw_tbl := List.mem_of_getElem? (i := 1029) (by decide +kernel)
theorem wd_1030 : (Jvm.Cond.code ({ cls := "StreamPair$Crowd", name := "heedMss", desc := "(II)V" } : Jvm.MethodName) prog_4_method_3_code (3 : Nat) (Option.none : Option Jvm.ClassFile.FieldType)) ∈ lw_tbl := List.mem_of_getElem? (i := 1030) (by decide +kernel)
theorem wd_1031 : (Jvm.Cond.methodLink "StreamPair$Crowd" (23 : Nat) ({ cls := "java/lang/Math", name := "min", desc := "(II)I" } : Jvm.MethodName)) ∈ lw_tbl := List.mem_of_getElem? (i := 1031) (by decide +kernel)
theorem wd_1032 : (Jvm.Cond.methodLink "StreamPair$End" (225 : Nat) ({ cls := "StreamPair$End", name := "heedInSynSent", desc := "(LStreamPair$Segment;)I" } : Jvm.MethodName)) ∈ lw_tbl := List.mem_of_getElem? (i := 1032) (by decide +kernel)
theorem wd_1034 : (Jvm.Cond.instanceMethod ({ cls := "StreamPair$End", name := "heedInSynSent", desc := "(LStreamPair$Segment;)I" } : Jvm.MethodName)) ∈ lw_tbl := List.mem_of_getElem? (i := 1034) (by decide +kernel)
theorem wd_1035 : (Jvm.Cond.code ({ cls := "StreamPair$End", name := "heedInSynSent", desc := "(LStreamPair$Segment;)I" } : Jvm.MethodName) prog_5_method_23_code (3 : Nat) (Option.some Jvm.ClassFile.FieldType.int)) ∈ lw_tbl := List.mem_of_getElem? (i := 1035) (by decide +kernel)
theorem wd_1036 : (Jvm.Cond.methodLink "StreamPair$End" (248 : Nat) ({ cls := "StreamPair$Segment", name := "ack", desc := "()I" } : Jvm.MethodName)) ∈ lw_tbl := List.mem_of_getElem? (i := 1036) (by decide +kernel)
theorem wd_1037 : (Jvm.Cond.methodLink "StreamPair$End" (271 : Nat) ({ cls := "StreamPair$Supply", name := "acknowledge", desc := "(I)V" } : Jvm.MethodName)) ∈ lw_tbl := List.mem_of_getElem? (i := 1037) (by decide +kernel)
theorem wd_1038 : (Jvm.Cond.instanceMethod ({ cls := "StreamPair$Supply", name := "acknowledge", desc := "(I)V" } : Jvm.MethodName)) ∈ lw_tbl := List.mem_of_getElem? (i := 1038) (by decide +kernel)
theorem wd_1039 : (Jvm.Cond.selects "StreamPair$Supply" ({ cls := "StreamPair$Supply", name := "acknowledge", desc := "(I)V" } : Jvm.MethodName) ({ cls := "StreamPair$Supply", name := "acknowledge", desc := "(I)V" } : Jvm.MethodName)) ∈ lw_tbl := List.mem_of_getElem? (i := 1039) (by decide +kernel)
theorem wd_1040 : (Jvm.Cond.code ({ cls := "StreamPair$Supply", name := "acknowledge", desc := "(I)V" } : Jvm.MethodName) prog_9_method_6_code (3 : Nat) (Option.none : Option Jvm.ClassFile.FieldType)) ∈ lw_tbl := List.mem_of_getElem? (i := 1040) (by decide +kernel)
theorem wd_1041 : (Jvm.Cond.methodLink "StreamPair$Supply" (68 : Nat) ({ cls := "java/lang/Math", name := "min", desc := "(II)I" } : Jvm.MethodName)) ∈ lw_tbl := List.mem_of_getElem? (i := 1041) (by decide +kernel)
theorem wd_1042 : (Jvm.Cond.methodLink "StreamPair$End" (274 : Nat) ({ cls := "StreamPair$Pace", name := "heedAck", desc := "(IJ)V" } : Jvm.MethodName)) ∈ lw_tbl := List.mem_of_getElem? (i := 1042) (by decide +kernel)
theorem wd_1043 : (Jvm.Cond.instanceMethod ({ cls := "StreamPair$Pace", name := "heedAck", desc := "(IJ)V" } : Jvm.MethodName)) ∈ lw_tbl := List.mem_of_getElem? (i := 1043) (by decide +kernel)
theorem wd_1044 : (Jvm.Cond.selects "StreamPair$Pace" ({ cls := "StreamPair$Pace", name := "heedAck", desc := "(IJ)V" } : Jvm.MethodName) ({ cls := "StreamPair$Pace", name := "heedAck", desc := "(IJ)V" } : Jvm.MethodName)) ∈ lw_tbl := List.mem_of_getElem? (i := 1044) (by decide +kernel)
theorem wd_1045 : (Jvm.Cond.code ({ cls := "StreamPair$Pace", name := "heedAck", desc := "(IJ)V" } : Jvm.MethodName) prog_7_method_6_code (4 : Nat) (Option.none : Option Jvm.ClassFile.FieldType)) ∈ lw_tbl := List.mem_of_getElem? (i := 1045) (by decide +kernel)
theorem wd_1046 : (Jvm.Cond.methodLink "StreamPair$Pace" (41 : Nat) ({ cls := "StreamPair$Pace", name := "measure", desc := "(J)V" } : Jvm.MethodName)) ∈ lw_tbl := List.mem_of_getElem? (i := 1046) (by decide +kernel)
theorem wd_1048 : (Jvm.Cond.instanceMethod ({ cls := "StreamPair$Pace", name := "measure", desc := "(J)V" } : Jvm.MethodName)) ∈ lw_tbl := List.mem_of_getElem? (i := 1048) (by decide +kernel)
theorem wd_1049 : (Jvm.Cond.code ({ cls := "StreamPair$Pace", name := "measure", desc := "(J)V" } : Jvm.MethodName) prog_7_method_7_code (3 : Nat) (Option.none : Option Jvm.ClassFile.FieldType)) ∈ lw_tbl := List.mem_of_getElem? (i := 1049) (by decide +kernel)
theorem wd_1050 : (Jvm.Cond.constantLong "StreamPair$Pace" (45 : Nat) (2 : Int64)) ∈ lw_tbl := List.mem_of_getElem? (i := 1050) (by decide +kernel)
theorem wd_1051 : (Jvm.Cond.constantLong "StreamPair$Pace" (47 : Nat) (3 : Int64)) ∈ lw_tbl := List.mem_of_getElem? (i := 1051) (by decide +kernel)
theorem wd_1052 : (Jvm.Cond.methodLink "StreamPair$Pace" (49 : Nat) ({ cls := "java/lang/Math", name := "abs", desc := "(J)J" } : Jvm.MethodName)) ∈ lw_tbl := List.mem_of_getElem? (i := 1052) (by decide +kernel)
theorem wd_1053 : (Jvm.Cond.static ({ cls := "java/lang/Math", name := "abs", desc := "(J)J" } : Jvm.MethodName)) ∈ lw_tbl := List.mem_of_getElem? (i := 1053) (by decide +kernel)
theorem wd_1054 : (Jvm.Cond.code ({ cls := "java/lang/Math", name := "abs", desc := "(J)J" } : Jvm.MethodName) prog_20_method_61_code (2 : Nat) (Option.some Jvm.ClassFile.FieldType.long)) ∈ lw_tbl := List.mem_of_getElem? (i := 1054) (by decide +kernel)
theorem wd_1055 : (Jvm.Cond.constantLong "StreamPair$Pace" (55 : Nat) (4 : Int64)) ∈ lw_tbl := List.mem_of_getElem? (i := 1055) (by decide +kernel)
theorem wd_1056 : (Jvm.Cond.constantLong "StreamPair$Pace" (57 : Nat) (7 : Int64)) ∈ lw_tbl := List.mem_of_getElem? (i := 1056) (by decide +kernel)
theorem wd_1057 : (Jvm.Cond.constantLong "StreamPair$Pace" (59 : Nat) (8 : Int64)) ∈ lw_tbl := List.mem_of_getElem? (i := 1057) (by decide +kernel)
theorem wd_1058 : (Jvm.Cond.constantLong "StreamPair$Pace" (61 : Nat) (200 : Int64)) ∈ lw_tbl := List.mem_of_getElem? (i := 1058) (by decide +kernel)
theorem wd_1059 : (Jvm.Cond.constantLong "StreamPair$Pace" (63 : Nat) (60000 : Int64)) ∈ lw_tbl := List.mem_of_getElem? (i := 1059) (by decide +kernel)
theorem wd_1060 : (Jvm.Cond.methodLink "StreamPair$Pace" (65 : Nat) ({ cls := "java/lang/Math", name := "min", desc := "(JJ)J" } : Jvm.MethodName)) ∈ lw_tbl := List.mem_of_getElem? (i := 1060) (by decide +kernel)
theorem wd_1061 : (Jvm.Cond.static ({ cls := "java/lang/Math", name := "min", desc := "(JJ)J" } : Jvm.MethodName)) ∈ lw_tbl := List.mem_of_getElem? (i := 1061) (by decide +kernel)
theorem wd_1062 : (Jvm.Cond.code ({ cls := "java/lang/Math", name := "min", desc := "(JJ)J" } : Jvm.MethodName) prog_20_method_70_code (4 : Nat) (Option.some Jvm.ClassFile.FieldType.long)) ∈ lw_tbl := List.mem_of_getElem? (i := 1062) (by decide +kernel)
theorem wd_1063 : (Jvm.Cond.methodLink "StreamPair$Pace" (69 : Nat) ({ cls := "java/lang/Math", name := "max", desc := "(JJ)J" } : Jvm.MethodName)) ∈ lw_tbl := List.mem_of_getElem? (i := 1063) (by decide +kernel)
theorem wd_1064 : (Jvm.Cond.static ({ cls := "java/lang/Math", name := "max", desc := "(JJ)J" } : Jvm.MethodName)) ∈ lw_tbl := List.mem_of_getElem? (i := 1064) (by decide +kernel)
theorem wd_1065 : (Jvm.Cond.code ({ cls := "java/lang/Math", name := "max", desc := "(JJ)J" } : Jvm.MethodName) prog_20_method_66_code (4 : Nat) (Option.some Jvm.ClassFile.FieldType.long)) ∈ lw_tbl := List.mem_of_getElem? (i := 1065) (by decide +kernel)
theorem wd_1066 : (Jvm.Cond.methodLink "StreamPair$End" (228 : Nat) ({ cls := "StreamPair$End", name := "heedInOthers", desc := "(LStreamPair$Segment;)I" } : Jvm.MethodName)) ∈ lw_tbl := List.mem_of_getElem? (i := 1066) (by decide +kernel)
theorem wd_1068 : (Jvm.Cond.instanceMethod ({ cls := "StreamPair$End", name := "heedInOthers", desc := "(LStreamPair$Segment;)I" } : Jvm.MethodName)) ∈ lw_tbl := List.mem_of_getElem? (i := 1068) (by decide +kernel)
theorem wd_1069 : (Jvm.Cond.code ({ cls := "StreamPair$End", name := "heedInOthers", desc := "(LStreamPair$Segment;)I" } : Jvm.MethodName) prog_5_method_26_code (4 : Nat) (Option.some Jvm.ClassFile.FieldType.int)) ∈ lw_tbl := List.mem_of_getElem? (i := 1069) (by decide +kernel)
theorem wd_1070 : (Jvm.Cond.methodLink "StreamPair$End" (284 : Nat) ({ cls := "StreamPair$End", name := "admit", desc := "(LStreamPair$Segment;)I" } : Jvm.MethodName)) ∈ lw_tbl := List.mem_of_getElem? (i := 1070) (by decide +kernel)
theorem wd_1072 : (Jvm.Cond.instanceMethod ({ cls := "StreamPair$End", name := "admit", desc := "(LStreamPair$Segment;)I" } : Jvm.MethodName)) ∈ lw_tbl := List.mem_of_getElem? (i := 1072) (by decide +kernel)
theorem wd_1073 : (Jvm.Cond.code ({ cls := "StreamPair$End", name := "admit", desc := "(LStreamPair$Segment;)I" } : Jvm.MethodName) prog_5_method_24_code (2 : Nat) (Option.some Jvm.ClassFile.FieldType.int)) ∈ lw_tbl := List.mem_of_getElem? (i := 1073) (by decide +kernel)
theorem wd_1074 : (Jvm.Cond.methodLink "StreamPair$End" (254 : Nat) ({ cls := "StreamPair$Segment", name := "span", desc := "()I" } : Jvm.MethodName)) ∈ lw_tbl := List.mem_of_getElem? (i := 1074) (by decide +kernel)
theorem wd_1075 : (Jvm.Cond.instanceMethod ({ cls := "StreamPair$Segment", name := "span", desc := "()I" } : Jvm.MethodName)) ∈ lw_tbl := List.mem_of_getElem? (i := 1075) (by decide +kernel)
theorem wd_1076 : (Jvm.Cond.selects "StreamPair$Segment" ({ cls := "StreamPair$Segment", name := "span", desc := "()I" } : Jvm.MethodName) ({ cls := "StreamPair$Segment", name := "span", desc := "()I" } : Jvm.MethodName)) ∈ lw_tbl := List.mem_of_getElem? (i := 1076) (by decide +kernel)
theorem wd_1077 : (Jvm.Cond.code ({ cls := "StreamPair$Segment", name := "span", desc := "()I" } : Jvm.MethodName) prog_8_method_11_code (1 : Nat) (Option.some Jvm.ClassFile.FieldType.int)) ∈ lw_tbl := List.mem_of_getElem? (i := 1077) (by decide +kernel)
theorem wd_1078 : (Jvm.Cond.methodLink "StreamPair$Segment" (30 : Nat) ({ cls := "StreamPair$Segment", name := "dataLength", desc := "()I" } : Jvm.MethodName)) ∈ lw_tbl := List.mem_of_getElem? (i := 1078) (by decide +kernel)
theorem wd_1079 : (Jvm.Cond.instanceMethod ({ cls := "StreamPair$Segment", name := "dataLength", desc := "()I" } : Jvm.MethodName)) ∈ lw_tbl := List.mem_of_getElem? (i := 1079) (by decide +kernel)
theorem wd_1080 : (Jvm.Cond.selects "StreamPair$Segment" ({ cls := "StreamPair$Segment", name := "dataLength", desc := "()I" } : Jvm.MethodName) ({ cls := "StreamPair$Segment", name := "dataLength", desc := "()I" } : Jvm.MethodName)) ∈ lw_tbl := List.mem_of_getElem? (i := 1080) (by decide +kernel)
theorem wd_1081 : (Jvm.Cond.code ({ cls := "StreamPair$Segment", name := "dataLength", desc := "()I" } : Jvm.MethodName) prog_8_method_10_code (1 : Nat) (Option.some Jvm.ClassFile.FieldType.int)) ∈ lw_tbl := List.mem_of_getElem? (i := 1081) (by decide +kernel)
theorem wd_1082 : (Jvm.Cond.methodLink "StreamPair$Segment" (33 : Nat) ({ cls := "StreamPair$Segment", name := "has", desc := "(I)Z" } : Jvm.MethodName)) ∈ lw_tbl := List.mem_of_getElem? (i := 1082) (by decide +kernel)
theorem wd_1083 : (Jvm.Cond.methodLink "StreamPair$End" (277 : Nat) ({ cls := "StreamPair$Arrivals", name := "fits", desc := "(II)Z" } : Jvm.MethodName)) ∈ lw_tbl := List.mem_of_getElem? (i := 1083) (by decide +kernel)
theorem wd_1084 : (Jvm.Cond.instanceMethod ({ cls := "StreamPair$Arrivals", name := "fits", desc := "(II)Z" } : Jvm.MethodName)) ∈ lw_tbl := List.mem_of_getElem? (i := 1084) (by decide +kernel)
theorem wd_1085 : (Jvm.Cond.selects "StreamPair$Arrivals" ({ cls := "StreamPair$Arrivals", name := "fits", desc := "(II)Z" } : Jvm.MethodName) ({ cls := "StreamPair$Arrivals", name := "fits", desc := "(II)Z" } : Jvm.MethodName)) ∈ lw_tbl := List.mem_of_getElem? (i := 1085) (by decide +kernel)
theorem wd_1086 : (Jvm.Cond.code ({ cls := "StreamPair$Arrivals", name := "fits", desc := "(II)Z" } : Jvm.MethodName) prog_2_method_8_code (3 : Nat) (Option.some Jvm.ClassFile.FieldType.boolean)) ∈ lw_tbl := List.mem_of_getElem? (i := 1086) (by decide +kernel)
theorem wd_1087 : (Jvm.Cond.methodLink "StreamPair$Arrivals" (58 : Nat) ({ cls := "StreamPair$Arrivals", name := "isExpected", desc := "(I)Z" } : Jvm.MethodName)) ∈ lw_tbl := List.mem_of_getElem? (i := 1087) (by decide +kernel)
theorem wd_1088 : (Jvm.Cond.instanceMethod ({ cls := "StreamPair$Arrivals", name := "isExpected", desc := "(I)Z" } : Jvm.MethodName)) ∈ lw_tbl := List.mem_of_getElem? (i := 1088) (by decide +kernel)
theorem wd_1089 : (Jvm.Cond.selects "StreamPair$Arrivals" ({ cls := "StreamPair$Arrivals", name := "isExpected", desc := "(I)Z" } : Jvm.MethodName) ({ cls := "StreamPair$Arrivals", name := "isExpected", desc := "(I)Z" } : Jvm.MethodName)) ∈ lw_tbl := List.mem_of_getElem? (i := 1089) (by decide +kernel)
theorem wd_1090 : (Jvm.Cond.code ({ cls := "StreamPair$Arrivals", name := "isExpected", desc := "(I)Z" } : Jvm.MethodName) prog_2_method_7_code (2 : Nat) (Option.some Jvm.ClassFile.FieldType.boolean)) ∈ lw_tbl := List.mem_of_getElem? (i := 1090) (by decide +kernel)
theorem wd_1091 : (Jvm.Cond.methodLink "StreamPair$End" (281 : Nat) ({ cls := "StreamPair$End", name := "refuse", desc := "(LStreamPair$Segment;)I" } : Jvm.MethodName)) ∈ lw_tbl := List.mem_of_getElem? (i := 1091) (by decide +kernel)
theorem wd_1093 : (Jvm.Cond.instanceMethod ({ cls := "StreamPair$End", name := "refuse", desc := "(LStreamPair$Segment;)I" } : Jvm.MethodName)) ∈ lw_tbl := List.mem_of_getElem? (i := 1093) (by decide +kernel)
theorem wd_1094 : (Jvm.Cond.code ({ cls := "StreamPair$End", name := "refuse", desc := "(LStreamPair$Segment;)I" } : Jvm.MethodName) prog_5_method_25_code (2 : Nat) (Option.some Jvm.ClassFile.FieldType.int)) ∈ lw_tbl := List.mem_of_getElem? (i := 1094) (by decide +kernel)
theorem wd_1095 : (Jvm.Cond.methodLink "StreamPair$End" (287 : Nat) ({ cls := "StreamPair$End", name := "heedProgress", desc := "(I)V" } : Jvm.MethodName)) ∈ lw_tbl := List.mem_of_getElem? (i := 1095) (by decide +kernel)
theorem wd_1097 : (Jvm.Cond.instanceMethod ({ cls := "StreamPair$End", name := "heedProgress", desc := "(I)V" } : Jvm.MethodName)) ∈ lw_tbl := List.mem_of_getElem? (i := 1097) (by decide +kernel)
theorem wd_1098 : (Jvm.Cond.code ({ cls := "StreamPair$End", name := "heedProgress", desc := "(I)V" } : Jvm.MethodName) prog_5_method_27_code (2 : Nat) (Option.none : Option Jvm.ClassFile.FieldType)) ∈ lw_tbl := List.mem_of_getElem? (i := 1098) (by decide +kernel)
theorem wd_1099 : (Jvm.Cond.methodLink "StreamPair$End" (306 : Nat) ({ cls := "StreamPair$Crowd", name := "grow", desc := "(I)V" } : Jvm.MethodName)) ∈ lw_tbl := List.mem_of_getElem? (i := 1099) (by decide +kernel)
theorem wd_1100 : (Jvm.Cond.instanceMethod ({ cls := "StreamPair$Crowd", name := "grow", desc := "(I)V" } : Jvm.MethodName)) ∈ lw_tbl := List.mem_of_getElem? (i := 1100) (by decide +kernel)
theorem wd_1101 : (Jvm.Cond.selects "StreamPair$Crowd" ({ cls := "StreamPair$Crowd", name := "grow", desc := "(I)V" } : Jvm.MethodName) ({ cls := "StreamPair$Crowd", name := "grow", desc := "(I)V" } : Jvm.MethodName)) ∈ lw_tbl := List.mem_of_getElem? (i := 1101) (by decide +kernel)
theorem wd_1102 : (Jvm.Cond.code ({ cls := "StreamPair$Crowd", name := "grow", desc := "(I)V" } : Jvm.MethodName) prog_4_method_4_code (3 : Nat) (Option.none : Option Jvm.ClassFile.FieldType)) ∈ lw_tbl := List.mem_of_getElem? (i := 1102) (by decide +kernel)
theorem wd_1103 : (Jvm.Cond.constant "StreamPair$Crowd" (32 : Nat) (1000000 : Int32)) ∈ lw_tbl := List.mem_of_getElem? (i := 1103) (by decide +kernel)
theorem wd_1104 : (Jvm.Cond.methodLink "StreamPair$End" (290 : Nat) ({ cls := "StreamPair$End", name := "isSameAgain", desc := "(LStreamPair$Segment;)Z" } : Jvm.MethodName)) ∈ lw_tbl := List.mem_of_getElem? (i := 1104) (by decide +kernel)
theorem wd_1106 : (Jvm.Cond.instanceMethod ({ cls := "StreamPair$End", name := "isSameAgain", desc := "(LStreamPair$Segment;)Z" } : Jvm.MethodName)) ∈ lw_tbl := List.mem_of_getElem? (i := 1106) (by decide +kernel)
theorem wd_1107 : (Jvm.Cond.code ({ cls := "StreamPair$End", name := "isSameAgain", desc := "(LStreamPair$Segment;)Z" } : Jvm.MethodName) prog_5_method_28_code (2 : Nat) (Option.some Jvm.ClassFile.FieldType.boolean)) ∈ lw_tbl := List.mem_of_getElem? (i := 1107) (by decide +kernel)
theorem wd_1108 : (Jvm.Cond.methodLink "StreamPair$End" (312 : Nat) ({ cls := "StreamPair$Segment", name := "window", desc := "()I" } : Jvm.MethodName)) ∈ lw_tbl := List.mem_of_getElem? (i := 1108) (by decide +kernel)
theorem wd_1109 : (Jvm.Cond.methodLink "StreamPair$End" (293 : Nat) ({ cls := "StreamPair$End", name := "heedSameAgain", desc := "()V" } : Jvm.MethodName)) ∈ lw_tbl := List.mem_of_getElem? (i := 1109) (by decide +kernel)
theorem wd_1111 : (Jvm.Cond.instanceMethod ({ cls := "StreamPair$End", name := "heedSameAgain", desc := "()V" } : Jvm.MethodName)) ∈ lw_tbl := List.mem_of_getElem? (i := 1111) (by decide +kernel)
theorem wd_1112 : (Jvm.Cond.code ({ cls := "StreamPair$End", name := "heedSameAgain", desc := "()V" } : Jvm.MethodName) prog_5_method_29_code (2 : Nat) (Option.none : Option Jvm.ClassFile.FieldType)) ∈ lw_tbl := List.mem_of_getElem? (i := 1112) (by decide +kernel)
theorem wd_1113 : (Jvm.Cond.methodLink "StreamPair$End" (313 : Nat) ({ cls := "StreamPair$Crowd", name := "halve", desc := "(I)V" } : Jvm.MethodName)) ∈ lw_tbl := List.mem_of_getElem? (i := 1113) (by decide +kernel)
theorem wd_1114 : (Jvm.Cond.instanceMethod ({ cls := "StreamPair$Crowd", name := "halve", desc := "(I)V" } : Jvm.MethodName)) ∈ lw_tbl := List.mem_of_getElem? (i := 1114) (by decide +kernel)
theorem wd_1115 : (Jvm.Cond.selects "StreamPair$Crowd" ({ cls := "StreamPair$Crowd", name := "halve", desc := "(I)V" } : Jvm.MethodName) ({ cls := "StreamPair$Crowd", name := "halve", desc := "(I)V" } : Jvm.MethodName)) ∈ lw_tbl := List.mem_of_getElem? (i := 1115) (by decide +kernel)
theorem wd_1116 : (Jvm.Cond.code ({ cls := "StreamPair$Crowd", name := "halve", desc := "(I)V" } : Jvm.MethodName) prog_4_method_6_code (2 : Nat) (Option.none : Option Jvm.ClassFile.FieldType)) ∈ lw_tbl := List.mem_of_getElem? (i := 1116) (by decide +kernel)
theorem wd_1117 : (Jvm.Cond.methodLink "StreamPair$End" (316 : Nat) ({ cls := "StreamPair$Pace", name := "forgetTimed", desc := "()V" } : Jvm.MethodName)) ∈ lw_tbl := List.mem_of_getElem? (i := 1117) (by decide +kernel)
theorem wd_1118 : (Jvm.Cond.instanceMethod ({ cls := "StreamPair$Pace", name := "forgetTimed", desc := "()V" } : Jvm.MethodName)) ∈ lw_tbl := List.mem_of_getElem? (i := 1118) (by decide +kernel)
theorem wd_1119 : (Jvm.Cond.selects "StreamPair$Pace" ({ cls := "StreamPair$Pace", name := "forgetTimed", desc := "()V" } : Jvm.MethodName) ({ cls := "StreamPair$Pace", name := "forgetTimed", desc := "()V" } : Jvm.MethodName)) ∈ lw_tbl := List.mem_of_getElem? (i := 1119) (by decide +kernel)
theorem wd_1120 : (Jvm.Cond.code ({ cls := "StreamPair$Pace", name := "forgetTimed", desc := "()V" } : Jvm.MethodName) prog_7_method_5_code (1 : Nat) (Option.none : Option Jvm.ClassFile.FieldType)) ∈ lw_tbl := List.mem_of_getElem? (i := 1120) (by decide +kernel)
theorem wd_1121 : (Jvm.Cond.methodLink "StreamPair$End" (319 : Nat) ({ cls := "StreamPair$Supply", name := "sentBytes", desc := "()I" } : Jvm.MethodName)) ∈ lw_tbl := List.mem_of_getElem? (i := 1121) (by decide +kernel)
theorem wd_1122 : (Jvm.Cond.instanceMethod ({ cls := "StreamPair$Supply", name := "sentBytes", desc := "()I" } : Jvm.MethodName)) ∈ lw_tbl := List.mem_of_getElem? (i := 1122) (by decide +kernel)
theorem wd_1123 : (Jvm.Cond.selects "StreamPair$Supply" ({ cls := "StreamPair$Supply", name := "sentBytes", desc := "()I" } : Jvm.MethodName) ({ cls := "StreamPair$Supply", name := "sentBytes", desc := "()I" } : Jvm.MethodName)) ∈ lw_tbl := List.mem_of_getElem? (i := 1123) (by decide +kernel)
theorem wd_1124 : (Jvm.Cond.code ({ cls := "StreamPair$Supply", name := "sentBytes", desc := "()I" } : Jvm.MethodName) prog_9_method_10_code (1 : Nat) (Option.some Jvm.ClassFile.FieldType.int)) ∈ lw_tbl := List.mem_of_getElem? (i := 1124) (by decide +kernel)
theorem wd_1125 : (Jvm.Cond.methodLink "StreamPair$End" (296 : Nat) ({ cls := "StreamPair$End", name := "heedWindow", desc := "(LStreamPair$Segment;)V" } : Jvm.MethodName)) ∈ lw_tbl := List.mem_of_getElem? (i := 1125) (by decide +kernel)
theorem wd_1127 : (Jvm.Cond.instanceMethod ({ cls := "StreamPair$End", name := "heedWindow", desc := "(LStreamPair$Segment;)V" } : Jvm.MethodName)) ∈ lw_tbl := List.mem_of_getElem? (i := 1127) (by decide +kernel)
theorem wd_1128 : (Jvm.Cond.code ({ cls := "StreamPair$End", name := "heedWindow", desc := "(LStreamPair$Segment;)V" } : Jvm.MethodName) prog_5_method_30_code (2 : Nat) (Option.none : Option Jvm.ClassFile.FieldType)) ∈ lw_tbl := List.mem_of_getElem? (i := 1128) (by decide +kernel)
theorem wd_1129 : (Jvm.Cond.methodLink "StreamPair$End" (322 : Nat) ({ cls := "StreamPair$Supply", name := "isNewerWindow", desc := "(LStreamPair$Segment;)Z" } : Jvm.MethodName)) ∈ lw_tbl := List.mem_of_getElem? (i := 1129) (by decide +kernel)
theorem wd_1130 : (Jvm.Cond.instanceMethod ({ cls := "StreamPair$Supply", name := "isNewerWindow", desc := "(LStreamPair$Segment;)Z" } : Jvm.MethodName)) ∈ lw_tbl := List.mem_of_getElem? (i := 1130) (by decide +kernel)
theorem wd_1131 : (Jvm.Cond.selects "StreamPair$Supply" ({ cls := "StreamPair$Supply", name := "isNewerWindow", desc := "(LStreamPair$Segment;)Z" } : Jvm.MethodName) ({ cls := "StreamPair$Supply", name := "isNewerWindow", desc := "(LStreamPair$Segment;)Z" } : Jvm.MethodName)) ∈ lw_tbl := List.mem_of_getElem? (i := 1131) (by decide +kernel)
theorem wd_1132 : (Jvm.Cond.code ({ cls := "StreamPair$Supply", name := "isNewerWindow", desc := "(LStreamPair$Segment;)Z" } : Jvm.MethodName) prog_9_method_14_code (4 : Nat) (Option.some Jvm.ClassFile.FieldType.boolean)) ∈ lw_tbl := List.mem_of_getElem? (i := 1132) (by decide +kernel)
theorem wd_1133 : (Jvm.Cond.methodLink "StreamPair$End" (297 : Nat) ({ cls := "StreamPair$Supply", name := "finIsAcknowledged", desc := "()Z" } : Jvm.MethodName)) ∈ lw_tbl := List.mem_of_getElem? (i := 1133) (by decide +kernel)
theorem wd_1134 : (Jvm.Cond.instanceMethod ({ cls := "StreamPair$Supply", name := "finIsAcknowledged", desc := "()Z" } : Jvm.MethodName)) ∈ lw_tbl := List.mem_of_getElem? (i := 1134) (by decide +kernel)
theorem wd_1135 : (Jvm.Cond.selects "StreamPair$Supply" ({ cls := "StreamPair$Supply", name := "finIsAcknowledged", desc := "()Z" } : Jvm.MethodName) ({ cls := "StreamPair$Supply", name := "finIsAcknowledged", desc := "()Z" } : Jvm.MethodName)) ∈ lw_tbl := List.mem_of_getElem? (i := 1135) (by decide +kernel)
theorem wd_1136 : (Jvm.Cond.code ({ cls := "StreamPair$Supply", name := "finIsAcknowledged", desc := "()Z" } : Jvm.MethodName) prog_9_method_12_code (1 : Nat) (Option.some Jvm.ClassFile.FieldType.boolean)) ∈ lw_tbl := List.mem_of_getElem? (i := 1136) (by decide +kernel)
theorem wd_1137 : (Jvm.Cond.methodLink "StreamPair$End" (300 : Nat) ({ cls := "StreamPair$End", name := "heedFinAcknowledged", desc := "()V" } : Jvm.MethodName)) ∈ lw_tbl := List.mem_of_getElem? (i := 1137) (by decide +kernel)
theorem wd_1139 : (Jvm.Cond.instanceMethod ({ cls := "StreamPair$End", name := "heedFinAcknowledged", desc := "()V" } : Jvm.MethodName)) ∈ lw_tbl := List.mem_of_getElem? (i := 1139) (by decide +kernel)
theorem wd_1140 : (Jvm.Cond.code ({ cls := "StreamPair$End", name := "heedFinAcknowledged", desc := "()V" } : Jvm.MethodName) prog_5_method_31_code (1 : Nat) (Option.none : Option Jvm.ClassFile.FieldType)) ∈ lw_tbl := List.mem_of_getElem? (i := 1140) (by decide +kernel)
theorem wd_1141 : (Jvm.Cond.methodLink "StreamPair$End" (303 : Nat) ({ cls := "StreamPair$End", name := "takeIn", desc := "(LStreamPair$Segment;)V" } : Jvm.MethodName)) ∈ lw_tbl := List.mem_of_getElem? (i := 1141) (by decide +kernel)
theorem wd_1143 : (Jvm.Cond.instanceMethod ({ cls := "StreamPair$End", name := "takeIn", desc := "(LStreamPair$Segment;)V" } : Jvm.MethodName)) ∈ lw_tbl := List.mem_of_getElem? (i := 1143) (by decide +kernel)
theorem wd_1144 : (Jvm.Cond.code ({ cls := "StreamPair$End", name := "takeIn", desc := "(LStreamPair$Segment;)V" } : Jvm.MethodName) prog_5_method_32_code (3 : Nat) (Option.none : Option Jvm.ClassFile.FieldType)) ∈ lw_tbl := List.mem_of_getElem? (i := 1144) (by decide +kernel)
theorem wd_1145 : (Jvm.Cond.methodLink "StreamPair$End" (325 : Nat) ({ cls := "StreamPair$Segment", name := "dataLength", desc := "()I" } : Jvm.MethodName)) ∈ lw_tbl := List.mem_of_getElem? (i := 1145) (by decide +kernel)
theorem wd_1146 : (Jvm.Cond.methodLink "StreamPair$End" (328 : Nat) ({ cls := "StreamPair$Arrivals", name := "keep", desc := "(LStreamPair$Segment;)V" } : Jvm.MethodName)) ∈ lw_tbl := List.mem_of_getElem? (i := 1146) (by decide +kernel)
theorem wd_1147 : (Jvm.Cond.instanceMethod ({ cls := "StreamPair$Arrivals", name := "keep", desc := "(LStreamPair$Segment;)V" } : Jvm.MethodName)) ∈ lw_tbl := List.mem_of_getElem? (i := 1147) (by decide +kernel)
theorem wd_1148 : (Jvm.Cond.selects "StreamPair$Arrivals" ({ cls := "StreamPair$Arrivals", name := "keep", desc := "(LStreamPair$Segment;)V" } : Jvm.MethodName) ({ cls := "StreamPair$Arrivals", name := "keep", desc := "(LStreamPair$Segment;)V" } : Jvm.MethodName)) ∈ lw_tbl := List.mem_of_getElem? (i := 1148) (by decide +kernel)
theorem wd_1149 : (Jvm.Cond.code ({ cls := "StreamPair$Arrivals", name := "keep", desc := "(LStreamPair$Segment;)V" } : Jvm.MethodName) prog_2_method_9_code (7 : Nat) (Option.none : Option Jvm.ClassFile.FieldType)) ∈ lw_tbl := List.mem_of_getElem? (i := 1149) (by decide +kernel)
theorem wd_1150 : (Jvm.Cond.constant "StreamPair$Arrivals" (62 : Nat) (65536 : Int32)) ∈ lw_tbl := List.mem_of_getElem? (i := 1150) (by decide +kernel)
theorem wd_1151 : (Jvm.Cond.methodLink "StreamPair$Arrivals" (63 : Nat) ({ cls := "StreamPair$Segment", name := "headerLength", desc := "()I" } : Jvm.MethodName)) ∈ lw_tbl := List.mem_of_getElem? (i := 1151) (by decide +kernel)
theorem wd_1152 : (Jvm.Cond.methodLink "StreamPair$Arrivals" (68 : Nat) ({ cls := "StreamPair$Segment", name := "seq", desc := "()I" } : Jvm.MethodName)) ∈ lw_tbl := List.mem_of_getElem? (i := 1152) (by decide +kernel)
theorem wd_1153 : (Jvm.Cond.methodLink "StreamPair$Arrivals" (78 : Nat) ({ cls := "StreamPair$Arrivals", name := "takeWithoutGap", desc := "()V" } : Jvm.MethodName)) ∈ lw_tbl := List.mem_of_getElem? (i := 1153) (by decide +kernel)
theorem wd_1155 : (Jvm.Cond.instanceMethod ({ cls := "StreamPair$Arrivals", name := "takeWithoutGap", desc := "()V" } : Jvm.MethodName)) ∈ lw_tbl := List.mem_of_getElem? (i := 1155) (by decide +kernel)
theorem wd_1156 : (Jvm.Cond.code ({ cls := "StreamPair$Arrivals", name := "takeWithoutGap", desc := "()V" } : Jvm.MethodName) prog_2_method_10_code (2 : Nat) (Option.none : Option Jvm.ClassFile.FieldType)) ∈ lw_tbl := List.mem_of_getElem? (i := 1156) (by decide +kernel)
theorem wd_1157 : (Jvm.Cond.methodLink "StreamPair$End" (331 : Nat) ({ cls := "StreamPair$Arrivals", name := "takeFin", desc := "()V" } : Jvm.MethodName)) ∈ lw_tbl := List.mem_of_getElem? (i := 1157) (by decide +kernel)
theorem wd_1158 : (Jvm.Cond.instanceMethod ({ cls := "StreamPair$Arrivals", name := "takeFin", desc := "()V" } : Jvm.MethodName)) ∈ lw_tbl := List.mem_of_getElem? (i := 1158) (by decide +kernel)
theorem wd_1159 : (Jvm.Cond.selects "StreamPair$Arrivals" ({ cls := "StreamPair$Arrivals", name := "takeFin", desc := "()V" } : Jvm.MethodName) ({ cls := "StreamPair$Arrivals", name := "takeFin", desc := "()V" } : Jvm.MethodName)) ∈ lw_tbl := List.mem_of_getElem? (i := 1159) (by decide +kernel)
theorem wd_1160 : (Jvm.Cond.code ({ cls := "StreamPair$Arrivals", name := "takeFin", desc := "()V" } : Jvm.MethodName) prog_2_method_11_code (1 : Nat) (Option.none : Option Jvm.ClassFile.FieldType)) ∈ lw_tbl := List.mem_of_getElem? (i := 1160) (by decide +kernel)
theorem wd_1161 : (Jvm.Cond.methodLink "StreamPair$End" (231 : Nat) ({ cls := "StreamPair$End", name := "answer", desc := "(LStreamPair$Segment;)V" } : Jvm.MethodName)) ∈ lw_tbl := List.mem_of_getElem? (i := 1161) (by decide +kernel)
theorem wd_1163 : (Jvm.Cond.instanceMethod ({ cls := "StreamPair$End", name := "answer", desc := "(LStreamPair$Segment;)V" } : Jvm.MethodName)) ∈ lw_tbl := List.mem_of_getElem? (i := 1163) (by decide +kernel)
theorem wd_1164 : (Jvm.Cond.code ({ cls := "StreamPair$End", name := "answer", desc := "(LStreamPair$Segment;)V" } : Jvm.MethodName) prog_5_method_20_code (2 : Nat) (Option.none : Option Jvm.ClassFile.FieldType)) ∈ lw_tbl := List.mem_of_getElem? (i := 1164) (by decide +kernel)
theorem wd_1165 : (Jvm.Cond.methodLink "StreamPair$End" (235 : Nat) ({ cls := "StreamPair$End", name := "sendFirstSyn", desc := "()V" } : Jvm.MethodName)) ∈ lw_tbl := List.mem_of_getElem? (i := 1165) (by decide +kernel)
theorem wd_1166 : (Jvm.Cond.methodLink "StreamPair" (214 : Nat) ({ cls := "java/util/ArrayList", name := "add", desc := "(Ljava/lang/Object;)Z" } : Jvm.MethodName)) ∈ lw_tbl := List.mem_of_getElem? (i := 1166) (by decide +kernel)
theorem wd_1167 : (Jvm.Cond.methodLink "StreamPairLaw" (116 : Nat) ({ cls := "StreamPairLaw", name := "drop", desc := "(LStreamPair;I[J)I" } : Jvm.MethodName)) ∈ lw_tbl := List.mem_of_getElem? (i := 1167) (by decide +kernel)
theorem wd_1168 : (Jvm.Cond.static ({ cls := "StreamPairLaw", name := "drop", desc := "(LStreamPair;I[J)I" } : Jvm.MethodName)) ∈ lw_tbl := List.mem_of_getElem? (i := 1168) (by decide +kernel)
theorem wd_1169 : (Jvm.Cond.codeWith ({ cls := "StreamPairLaw", name := "drop", desc := "(LStreamPair;I[J)I" } : Jvm.MethodName) method_12_code (4 : Nat) (Option.some Jvm.ClassFile.FieldType.int) [((0 : Nat), (9 : Nat), (12 : Nat), (25 : Nat))]) ∈ lw_tbl := List.mem_of_getElem? (i := 1169) (by decide +kernel)
theorem wd_1170 : (Jvm.Cond.methodLink "StreamPairLaw" (49 : Nat) ({ cls := "StreamPair", name := "drop", desc := "(I)I" } : Jvm.MethodName)) ∈ lw_tbl := List.mem_of_getElem? (i := 1170) (by decide +kernel)
theorem wd_1171 : (Jvm.Cond.instanceMethod ({ cls := "StreamPair", name := "drop", desc := "(I)I" } : Jvm.MethodName)) ∈ lw_tbl := List.mem_of_getElem? (i := 1171) (by decide +kernel)
theorem wd_1172 : (Jvm.Cond.selects "StreamPair" ({ cls := "StreamPair", name := "drop", desc := "(I)I" } : Jvm.MethodName) ({ cls := "StreamPair", name := "drop", desc := "(I)I" } : Jvm.MethodName)) ∈ lw_tbl := List.mem_of_getElem? (i := 1172) (by decide +kernel)
theorem wd_1173 : (Jvm.Cond.code ({ cls := "StreamPair", name := "drop", desc := "(I)I" } : Jvm.MethodName) prog_1_method_12_code (3 : Nat) (Option.some Jvm.ClassFile.FieldType.int)) ∈ lw_tbl := List.mem_of_getElem? (i := 1173) (by decide +kernel)
theorem wd_1174 : (Jvm.Cond.methodLink "StreamPairLaw" (119 : Nat) ({ cls := "StreamPairLaw", name := "copy", desc := "(LStreamPair;I[J)I" } : Jvm.MethodName)) ∈ lw_tbl := List.mem_of_getElem? (i := 1174) (by decide +kernel)
theorem wd_1175 : (Jvm.Cond.static ({ cls := "StreamPairLaw", name := "copy", desc := "(LStreamPair;I[J)I" } : Jvm.MethodName)) ∈ lw_tbl := List.mem_of_getElem? (i := 1175) (by decide +kernel)
theorem wd_1176 : (Jvm.Cond.codeWith ({ cls := "StreamPairLaw", name := "copy", desc := "(LStreamPair;I[J)I" } : Jvm.MethodName) method_13_code (4 : Nat) (Option.some Jvm.ClassFile.FieldType.int) [((0 : Nat), (9 : Nat), (12 : Nat), (25 : Nat))]) ∈ lw_tbl := List.mem_of_getElem? (i := 1176) (by decide +kernel)
theorem wd_1177 : (Jvm.Cond.methodLink "StreamPairLaw" (52 : Nat) ({ cls := "StreamPair", name := "copy", desc := "(I)I" } : Jvm.MethodName)) ∈ lw_tbl := List.mem_of_getElem? (i := 1177) (by decide +kernel)
theorem wd_1178 : (Jvm.Cond.instanceMethod ({ cls := "StreamPair", name := "copy", desc := "(I)I" } : Jvm.MethodName)) ∈ lw_tbl := List.mem_of_getElem? (i := 1178) (by decide +kernel)
theorem wd_1179 : (Jvm.Cond.selects "StreamPair" ({ cls := "StreamPair", name := "copy", desc := "(I)I" } : Jvm.MethodName) ({ cls := "StreamPair", name := "copy", desc := "(I)I" } : Jvm.MethodName)) ∈ lw_tbl := List.mem_of_getElem? (i := 1179) (by decide +kernel)
theorem wd_1180 : (Jvm.Cond.code ({ cls := "StreamPair", name := "copy", desc := "(I)I" } : Jvm.MethodName) prog_1_method_13_code (3 : Nat) (Option.some Jvm.ClassFile.FieldType.int)) ∈ lw_tbl := List.mem_of_getElem? (i := 1180) (by decide +kernel)
theorem wd_1181 : (Jvm.Cond.methodLink "StreamPair" (228 : Nat) ({ cls := "StreamPair$Network", name := "placeBytes", desc := "(I[BI)V" } : Jvm.MethodName)) ∈ lw_tbl := List.mem_of_getElem? (i := 1181) (by decide +kernel)
theorem wd_1182 : (Jvm.Cond.instanceMethod ({ cls := "StreamPair$Network", name := "placeBytes", desc := "(I[BI)V" } : Jvm.MethodName)) ∈ lw_tbl := List.mem_of_getElem? (i := 1182) (by decide +kernel)
theorem wd_1183 : (Jvm.Cond.selects "StreamPair$Network" ({ cls := "StreamPair$Network", name := "placeBytes", desc := "(I[BI)V" } : Jvm.MethodName) ({ cls := "StreamPair$Network", name := "placeBytes", desc := "(I[BI)V" } : Jvm.MethodName)) ∈ lw_tbl := List.mem_of_getElem? (i := 1183) (by decide +kernel)
theorem wd_1184 : (Jvm.Cond.code ({ cls := "StreamPair$Network", name := "placeBytes", desc := "(I[BI)V" } : Jvm.MethodName) prog_6_method_3_code (5 : Nat) (Option.none : Option Jvm.ClassFile.FieldType)) ∈ lw_tbl := List.mem_of_getElem? (i := 1184) (by decide +kernel)
theorem wd_1185 : (Jvm.Cond.methodLink "StreamPair$Network" (46 : Nat) ({ cls := "StreamPair$Network", name := "place", desc := "(II)LStreamPair$Segment;" } : Jvm.MethodName)) ∈ lw_tbl := List.mem_of_getElem? (i := 1185) (by decide +kernel)
theorem wd_1186 : (Jvm.Cond.methodLink "StreamPair$Network" (54 : Nat) ({ cls := "java/lang/System", name := "arraycopy", desc := "(Ljava/lang/Object;ILjava/lang/Object;II)V" } : Jvm.MethodName)) ∈ lw_tbl := List.mem_of_getElem? (i := 1186) (by decide +kernel)
theorem wd_1187 : (Jvm.Cond.methodLink "StreamPairLaw" (122 : Nat) ({ cls := "StreamPairLaw", name := "flip", desc := "(LStreamPair;IIIZ[J)I" } : Jvm.MethodName)) ∈ lw_tbl := List.mem_of_getElem? (i := 1187) (by decide +kernel)
theorem wd_1188 : (Jvm.Cond.static ({ cls := "StreamPairLaw", name := "flip", desc := "(LStreamPair;IIIZ[J)I" } : Jvm.MethodName)) ∈ lw_tbl := List.mem_of_getElem? (i := 1188) (by decide +kernel)
theorem wd_1189 : (Jvm.Cond.codeWith ({ cls := "StreamPairLaw", name := "flip", desc := "(LStreamPair;IIIZ[J)I" } : Jvm.MethodName) method_14_code (7 : Nat) (Option.some Jvm.ClassFile.FieldType.int) [((0 : Nat), (14 : Nat), (17 : Nat), (25 : Nat)), ((0 : Nat), (14 : Nat), (21 : Nat), (59 : Nat))]) ∈ lw_tbl := List.mem_of_getElem? (i := 1189) (by decide +kernel)
theorem wd_1190 : (Jvm.Cond.classLink "StreamPairLaw" (59 : Nat) "java/lang/IndexOutOfBoundsException") ∈ lw_tbl := List.mem_of_getElem? (i := 1190) (by decide +kernel)
theorem wd_1191 : (Jvm.Cond.methodLink "StreamPairLaw" (55 : Nat) ({ cls := "StreamPair", name := "flip", desc := "(IIIZ)I" } : Jvm.MethodName)) ∈ lw_tbl := List.mem_of_getElem? (i := 1191) (by decide +kernel)
theorem wd_1192 : (Jvm.Cond.instanceMethod ({ cls := "StreamPair", name := "flip", desc := "(IIIZ)I" } : Jvm.MethodName)) ∈ lw_tbl := List.mem_of_getElem? (i := 1192) (by decide +kernel)
theorem wd_1193 : (Jvm.Cond.selects "StreamPair" ({ cls := "StreamPair", name := "flip", desc := "(IIIZ)I" } : Jvm.MethodName) ({ cls := "StreamPair", name := "flip", desc := "(IIIZ)I" } : Jvm.MethodName)) ∈ lw_tbl := List.mem_of_getElem? (i := 1193) (by decide +kernel)
theorem wd_1194 : (Jvm.Cond.code ({ cls := "StreamPair", name := "flip", desc := "(IIIZ)I" } : Jvm.MethodName) prog_1_method_14_code (6 : Nat) (Option.some Jvm.ClassFile.FieldType.int)) ∈ lw_tbl := List.mem_of_getElem? (i := 1194) (by decide +kernel)
theorem wd_1195 : (Jvm.Cond.classLink "StreamPair" (232 : Nat) "java/lang/IndexOutOfBoundsException") ∈ lw_tbl := List.mem_of_getElem? (i := 1195) (by decide +kernel)
theorem wd_1196 : (Jvm.Cond.instantiable "java/lang/IndexOutOfBoundsException" (6 : Nat)) ∈ lw_tbl := List.mem_of_getElem? (i := 1196) (by decide +kernel)
theorem wd_1197 : (Jvm.Cond.castable "java/lang/IndexOutOfBoundsException" "java/lang/IndexOutOfBoundsException") ∈ lw_tbl := List.mem_of_getElem? (i := 1197) (by decide +kernel)
theorem wd_1198 : (Jvm.Cond.selects "java/lang/IndexOutOfBoundsException" ({ cls := "java/lang/Throwable", name := "fillInStackTrace", desc := "(I)Ljava/lang/Throwable;" } : Jvm.MethodName) ({ cls := "java/lang/Throwable", name := "fillInStackTrace", desc := "(I)Ljava/lang/Throwable;" } : Jvm.MethodName)) ∈ lw_tbl := List.mem_of_getElem? (i := 1198) (by decide +kernel)
theorem wd_1199 : (Jvm.Cond.lays "java/lang/IndexOutOfBoundsException" "java/lang/Throwable" "cause" "Ljava/lang/Throwable;") ∈ lw_tbl := List.mem_of_getElem? (i := 1199) (by decide +kernel)
theorem wd_1200 : (Jvm.Cond.lays "java/lang/IndexOutOfBoundsException" "java/lang/Throwable" "stackTrace" "[Ljava/lang/StackTraceElement;") ∈ lw_tbl := List.mem_of_getElem? (i := 1200) (by decide +kernel)
theorem wd_1201 : (Jvm.Cond.lays "java/lang/IndexOutOfBoundsException" "java/lang/Throwable" "suppressedExceptions" "Ljava/util/List;") ∈ lw_tbl := List.mem_of_getElem? (i := 1201) (by decide +kernel)
theorem wd_1202 : (Jvm.Cond.lays "java/lang/IndexOutOfBoundsException" "java/lang/Throwable" "detailMessage" "Ljava/lang/String;") ∈ lw_tbl := List.mem_of_getElem? (i := 1202) (by decide +kernel)
theorem wd_1203 : (Jvm.Cond.lays "java/lang/IndexOutOfBoundsException" "java/lang/Throwable" "backtrace" "Ljava/lang/Object;") ∈ lw_tbl := List.mem_of_getElem? (i := 1203) (by decide +kernel)
theorem wd_1204 : (Jvm.Cond.stringRef "StreamPair" (234 : Nat) "no such place") ∈ lw_tbl := List.mem_of_getElem? (i := 1204) (by decide +kernel)
theorem wd_1205 : (Jvm.Cond.methodLink "StreamPair" (236 : Nat) ({ cls := "java/lang/IndexOutOfBoundsException", name := "<init>", desc := "(Ljava/lang/String;)V" } : Jvm.MethodName)) ∈ lw_tbl := List.mem_of_getElem? (i := 1205) (by decide +kernel)
theorem wd_1206 : (Jvm.Cond.instanceMethod ({ cls := "java/lang/IndexOutOfBoundsException", name := "<init>", desc := "(Ljava/lang/String;)V" } : Jvm.MethodName)) ∈ lw_tbl := List.mem_of_getElem? (i := 1206) (by decide +kernel)
theorem wd_1207 : (Jvm.Cond.code ({ cls := "java/lang/IndexOutOfBoundsException", name := "<init>", desc := "(Ljava/lang/String;)V" } : Jvm.MethodName) prog_18_method_2_code (2 : Nat) (Option.none : Option Jvm.ClassFile.FieldType)) ∈ lw_tbl := List.mem_of_getElem? (i := 1207) (by decide +kernel)
theorem wd_1208 : (Jvm.Cond.methodLink "java/lang/IndexOutOfBoundsException" (7 : Nat) ({ cls := "java/lang/RuntimeException", name := "<init>", desc := "(Ljava/lang/String;)V" } : Jvm.MethodName)) ∈ lw_tbl := List.mem_of_getElem? (i := 1208) (by decide +kernel)
theorem wd_1209 : (Jvm.Cond.lays "java/lang/IndexOutOfBoundsException" "java/lang/Throwable" "depth" "I") ∈ lw_tbl := List.mem_of_getElem? (i := 1209) (by decide +kernel)
theorem wd_1211 : (Jvm.Cond.methodLink "StreamPair" (237 : Nat) ({ cls := "StreamPair$Segment", name := "mendChecksum", desc := "()V" } : Jvm.MethodName)) ∈ lw_tbl := List.mem_of_getElem? (i := 1211) (by decide +kernel)
theorem wd_1212 : (Jvm.Cond.methodLink "StreamPair" (240 : Nat) ({ cls := "StreamPair$Segment", name := "number", desc := "(II)I" } : Jvm.MethodName)) ∈ lw_tbl := List.mem_of_getElem? (i := 1212) (by decide +kernel)
theorem wd_1213 : (Jvm.Cond.methodLink "StreamPairLaw" (126 : Nat) ({ cls := "StreamPairLaw", name := "inject", desc := "(LStreamPair;I[J)I" } : Jvm.MethodName)) ∈ lw_tbl := List.mem_of_getElem? (i := 1213) (by decide +kernel)
theorem wd_1214 : (Jvm.Cond.static ({ cls := "StreamPairLaw", name := "inject", desc := "(LStreamPair;I[J)I" } : Jvm.MethodName)) ∈ lw_tbl := List.mem_of_getElem? (i := 1214) (by decide +kernel)
theorem wd_1215 : (Jvm.Cond.codeWith ({ cls := "StreamPairLaw", name := "inject", desc := "(LStreamPair;I[J)I" } : Jvm.MethodName) method_15_code (4 : Nat) (Option.some Jvm.ClassFile.FieldType.int) [((0 : Nat), (9 : Nat), (12 : Nat), (25 : Nat)), ((0 : Nat), (9 : Nat), (15 : Nat), (19 : Nat))]) ∈ lw_tbl := List.mem_of_getElem? (i := 1215) (by decide +kernel)
theorem wd_1216 : (Jvm.Cond.methodLink "StreamPairLaw" (61 : Nat) ({ cls := "StreamPair", name := "inject", desc := "(I)I" } : Jvm.MethodName)) ∈ lw_tbl := List.mem_of_getElem? (i := 1216) (by decide +kernel)
theorem wd_1217 : (Jvm.Cond.instanceMethod ({ cls := "StreamPair", name := "inject", desc := "(I)I" } : Jvm.MethodName)) ∈ lw_tbl := List.mem_of_getElem? (i := 1217) (by decide +kernel)
theorem wd_1218 : (Jvm.Cond.selects "StreamPair" ({ cls := "StreamPair", name := "inject", desc := "(I)I" } : Jvm.MethodName) ({ cls := "StreamPair", name := "inject", desc := "(I)I" } : Jvm.MethodName)) ∈ lw_tbl := List.mem_of_getElem? (i := 1218) (by decide +kernel)
theorem wd_1219 : (Jvm.Cond.code ({ cls := "StreamPair", name := "inject", desc := "(I)I" } : Jvm.MethodName) prog_1_method_15_code (3 : Nat) (Option.some Jvm.ClassFile.FieldType.int)) ∈ lw_tbl := List.mem_of_getElem? (i := 1219) (by decide +kernel)
theorem wd_1220 : (Jvm.Cond.stringRef "StreamPair" (243 : Nat) "too long for a segment") ∈ lw_tbl := List.mem_of_getElem? (i := 1220) (by decide +kernel)
theorem wd_1221 : (Jvm.Cond.methodLink "StreamPairLaw" (129 : Nat) ({ cls := "StreamPairLaw", name := "seen", desc := "(LStreamPair;II[J)I" } : Jvm.MethodName)) ∈ lw_tbl := List.mem_of_getElem? (i := 1221) (by decide +kernel)
theorem wd_1222 : (Jvm.Cond.static ({ cls := "StreamPairLaw", name := "seen", desc := "(LStreamPair;II[J)I" } : Jvm.MethodName)) ∈ lw_tbl := List.mem_of_getElem? (i := 1222) (by decide +kernel)
theorem wd_1223 : (Jvm.Cond.codeWith ({ cls := "StreamPairLaw", name := "seen", desc := "(LStreamPair;II[J)I" } : Jvm.MethodName) method_16_code (5 : Nat) (Option.some Jvm.ClassFile.FieldType.int) [((0 : Nat), (10 : Nat), (13 : Nat), (25 : Nat)), ((0 : Nat), (10 : Nat), (17 : Nat), (59 : Nat))]) ∈ lw_tbl := List.mem_of_getElem? (i := 1223) (by decide +kernel)
theorem wd_1224 : (Jvm.Cond.methodLink "StreamPairLaw" (64 : Nat) ({ cls := "StreamPair", name := "seen", desc := "(II)I" } : Jvm.MethodName)) ∈ lw_tbl := List.mem_of_getElem? (i := 1224) (by decide +kernel)
theorem wd_1225 : (Jvm.Cond.instanceMethod ({ cls := "StreamPair", name := "seen", desc := "(II)I" } : Jvm.MethodName)) ∈ lw_tbl := List.mem_of_getElem? (i := 1225) (by decide +kernel)
theorem wd_1226 : (Jvm.Cond.selects "StreamPair" ({ cls := "StreamPair", name := "seen", desc := "(II)I" } : Jvm.MethodName) ({ cls := "StreamPair", name := "seen", desc := "(II)I" } : Jvm.MethodName)) ∈ lw_tbl := List.mem_of_getElem? (i := 1226) (by decide +kernel)
theorem wd_1227 : (Jvm.Cond.code ({ cls := "StreamPair", name := "seen", desc := "(II)I" } : Jvm.MethodName) prog_1_method_16_code (4 : Nat) (Option.some Jvm.ClassFile.FieldType.int)) ∈ lw_tbl := List.mem_of_getElem? (i := 1227) (by decide +kernel)
theorem wd_1228 : (Jvm.Cond.methodLink "StreamPairLaw" (132 : Nat) ({ cls := "StreamPairLaw", name := "about", desc := "(LStreamPair;II[J)I" } : Jvm.MethodName)) ∈ lw_tbl := List.mem_of_getElem? (i := 1228) (by decide +kernel)
theorem wd_1229 : (Jvm.Cond.static ({ cls := "StreamPairLaw", name := "about", desc := "(LStreamPair;II[J)I" } : Jvm.MethodName)) ∈ lw_tbl := List.mem_of_getElem? (i := 1229) (by decide +kernel)
theorem wd_1230 : (Jvm.Cond.codeWith ({ cls := "StreamPairLaw", name := "about", desc := "(LStreamPair;II[J)I" } : Jvm.MethodName) method_17_code (5 : Nat) (Option.some Jvm.ClassFile.FieldType.int) [((0 : Nat), (10 : Nat), (13 : Nat), (25 : Nat)), ((0 : Nat), (10 : Nat), (17 : Nat), (19 : Nat))]) ∈ lw_tbl := List.mem_of_getElem? (i := 1230) (by decide +kernel)
theorem wd_1231 : (Jvm.Cond.methodLink "StreamPairLaw" (68 : Nat) ({ cls := "StreamPair", name := "about", desc := "(II)I" } : Jvm.MethodName)) ∈ lw_tbl := List.mem_of_getElem? (i := 1231) (by decide +kernel)
theorem wd_1232 : (Jvm.Cond.instanceMethod ({ cls := "StreamPair", name := "about", desc := "(II)I" } : Jvm.MethodName)) ∈ lw_tbl := List.mem_of_getElem? (i := 1232) (by decide +kernel)
theorem wd_1233 : (Jvm.Cond.selects "StreamPair" ({ cls := "StreamPair", name := "about", desc := "(II)I" } : Jvm.MethodName) ({ cls := "StreamPair", name := "about", desc := "(II)I" } : Jvm.MethodName)) ∈ lw_tbl := List.mem_of_getElem? (i := 1233) (by decide +kernel)
theorem wd_1234 : (Jvm.Cond.code ({ cls := "StreamPair", name := "about", desc := "(II)I" } : Jvm.MethodName) prog_1_method_17_code (4 : Nat) (Option.some Jvm.ClassFile.FieldType.int)) ∈ lw_tbl := List.mem_of_getElem? (i := 1234) (by decide +kernel)
theorem wd_1235 : (Jvm.Cond.stringRef "StreamPair" (248 : Nat) "no such fact") ∈ lw_tbl := List.mem_of_getElem? (i := 1235) (by decide +kernel)
theorem wd_1236 : (Jvm.Cond.methodLink "StreamPair" (250 : Nat) ({ cls := "StreamPair$End", name := "fact", desc := "(I)I" } : Jvm.MethodName)) ∈ lw_tbl := List.mem_of_getElem? (i := 1236) (by decide +kernel)
theorem wd_1237 : (Jvm.Cond.instanceMethod ({ cls := "StreamPair$End", name := "fact", desc := "(I)I" } : Jvm.MethodName)) ∈ lw_tbl := List.mem_of_getElem? (i := 1237) (by decide +kernel)
theorem wd_1238 : (Jvm.Cond.selects "StreamPair$End" ({ cls := "StreamPair$End", name := "fact", desc := "(I)I" } : Jvm.MethodName) ({ cls := "StreamPair$End", name := "fact", desc := "(I)I" } : Jvm.MethodName)) ∈ lw_tbl := List.mem_of_getElem? (i := 1238) (by decide +kernel)
theorem wd_1239 : (Jvm.Cond.code ({ cls := "StreamPair$End", name := "fact", desc := "(I)I" } : Jvm.MethodName) prog_5_method_33_code (2 : Nat) (Option.some Jvm.ClassFile.FieldType.int)) ∈ lw_tbl := List.mem_of_getElem? (i := 1239) (by decide +kernel)
theorem wd_1240 : (Jvm.Cond.classLink "StreamPairLaw" (72 : Nat) "StreamPairModel") ∈ lw_tbl := List.mem_of_getElem? (i := 1240) (by decide +kernel)
theorem wd_1241 : (Jvm.Cond.instantiable "StreamPairModel" (54 : Nat)) ∈ lw_tbl := List.mem_of_getElem? (i := 1241) (by decide +kernel)
theorem wd_1242 : (Jvm.Cond.methodLink "StreamPairLaw" (74 : Nat) ({ cls := "StreamPairModel", name := "<init>", desc := "()V" } : Jvm.MethodName)) ∈ lw_tbl := List.mem_of_getElem? (i := 1242) (by decide +kernel)
theorem wd_1243 : (Jvm.Cond.instanceMethod ({ cls := "StreamPairModel", name := "<init>", desc := "()V" } : Jvm.MethodName)) ∈ lw_tbl := List.mem_of_getElem? (i := 1243) (by decide +kernel)
theorem wd_1244 : (Jvm.Cond.code ({ cls := "StreamPairModel", name := "<init>", desc := "()V" } : Jvm.MethodName) prog_12_method_1_code (2 : Nat) (Option.none : Option Jvm.ClassFile.FieldType)) ∈ lw_tbl := List.mem_of_getElem? (i := 1244) (by decide +kernel)
theorem wd_1245 : (Jvm.Cond.methodLink "StreamPairModel" (1 : Nat) ({ cls := "java/lang/Object", name := "<init>", desc := "()V" } : Jvm.MethodName)) ∈ lw_tbl := List.mem_of_getElem? (i := 1245) (by decide +kernel)
theorem wd_1246 : (Jvm.Cond.constant "StreamPairModel" (7 : Nat) (65536 : Int32)) ∈ lw_tbl := List.mem_of_getElem? (i := 1246) (by decide +kernel)
theorem wd_1247 : (Jvm.Cond.constant "StreamPairModel" (14 : Nat) (761292 : Int32)) ∈ lw_tbl := List.mem_of_getElem? (i := 1247) (by decide +kernel)
theorem wd_1248 : (Jvm.Cond.constant "StreamPairModel" (32 : Nat) (65535 : Int32)) ∈ lw_tbl := List.mem_of_getElem? (i := 1248) (by decide +kernel)
theorem wd_1249 : (Jvm.Cond.constantLong "StreamPairModel" (111 : Nat) (-1 : Int64)) ∈ lw_tbl := List.mem_of_getElem? (i := 1249) (by decide +kernel)
theorem wd_1250 : (Jvm.Cond.constant "StreamPairModel" (129 : Nat) (163840 : Int32)) ∈ lw_tbl := List.mem_of_getElem? (i := 1250) (by decide +kernel)
theorem wd_1251 : (Jvm.Cond.constant "StreamPairModel" (133 : Nat) (131072 : Int32)) ∈ lw_tbl := List.mem_of_getElem? (i := 1251) (by decide +kernel)
theorem wd_1252 : (Jvm.Cond.fieldLink "StreamPairModel" (140 : Nat) "StreamPairModel" "thrown" "I") ∈ lw_tbl := List.mem_of_getElem? (i := 1252) (by decide +kernel)
theorem wd_1253 : (Jvm.Cond.fieldLink "StreamPairModel" (8 : Nat) "StreamPairModel" "tape" "[B") ∈ lw_tbl := List.mem_of_getElem? (i := 1253) (by decide +kernel)
theorem wd_1254 : (Jvm.Cond.fieldLink "StreamPairModel" (323 : Nat) "StreamPairModel" "tapes" "I") ∈ lw_tbl := List.mem_of_getElem? (i := 1254) (by decide +kernel)
theorem wd_1255 : (Jvm.Cond.fieldLink "StreamPairModel" (201 : Nat) "StreamPairModel" "time" "J") ∈ lw_tbl := List.mem_of_getElem? (i := 1255) (by decide +kernel)
theorem wd_1256 : (Jvm.Cond.fieldLink "StreamPairModel" (172 : Nat) "StreamPairModel" "connections" "I") ∈ lw_tbl := List.mem_of_getElem? (i := 1256) (by decide +kernel)
theorem wd_1257 : (Jvm.Cond.fieldLink "StreamPairModel" (147 : Nat) "StreamPairModel" "lost" "I") ∈ lw_tbl := List.mem_of_getElem? (i := 1257) (by decide +kernel)
theorem wd_1258 : (Jvm.Cond.fieldLink "StreamPairModel" (15 : Nat) "StreamPairModel" "slots" "[B") ∈ lw_tbl := List.mem_of_getElem? (i := 1258) (by decide +kernel)
theorem wd_1259 : (Jvm.Cond.fieldLink "StreamPairModel" (18 : Nat) "StreamPairModel" "lengths" "[I") ∈ lw_tbl := List.mem_of_getElem? (i := 1259) (by decide +kernel)
theorem wd_1260 : (Jvm.Cond.fieldLink "StreamPairModel" (22 : Nat) "StreamPairModel" "goals" "[I") ∈ lw_tbl := List.mem_of_getElem? (i := 1260) (by decide +kernel)
theorem wd_1261 : (Jvm.Cond.fieldLink "StreamPairModel" (25 : Nat) "StreamPairModel" "way" "[I") ∈ lw_tbl := List.mem_of_getElem? (i := 1261) (by decide +kernel)
theorem wd_1262 : (Jvm.Cond.fieldLink "StreamPairModel" (144 : Nat) "StreamPairModel" "ways" "I") ∈ lw_tbl := List.mem_of_getElem? (i := 1262) (by decide +kernel)
theorem wd_1263 : (Jvm.Cond.fieldLink "StreamPairModel" (28 : Nat) "StreamPairModel" "taken" "[Z") ∈ lw_tbl := List.mem_of_getElem? (i := 1263) (by decide +kernel)
theorem wd_1264 : (Jvm.Cond.fieldLink "StreamPairModel" (33 : Nat) "StreamPairModel" "room" "[I") ∈ lw_tbl := List.mem_of_getElem? (i := 1264) (by decide +kernel)
theorem wd_1265 : (Jvm.Cond.fieldLink "StreamPairModel" (36 : Nat) "StreamPairModel" "mss" "[I") ∈ lw_tbl := List.mem_of_getElem? (i := 1265) (by decide +kernel)
theorem wd_1266 : (Jvm.Cond.fieldLink "StreamPairModel" (39 : Nat) "StreamPairModel" "state" "[I") ∈ lw_tbl := List.mem_of_getElem? (i := 1266) (by decide +kernel)
theorem wd_1267 : (Jvm.Cond.fieldLink "StreamPairModel" (42 : Nat) "StreamPairModel" "iss" "[I") ∈ lw_tbl := List.mem_of_getElem? (i := 1267) (by decide +kernel)
theorem wd_1268 : (Jvm.Cond.fieldLink "StreamPairModel" (45 : Nat) "StreamPairModel" "una" "[I") ∈ lw_tbl := List.mem_of_getElem? (i := 1268) (by decide +kernel)
theorem wd_1269 : (Jvm.Cond.fieldLink "StreamPairModel" (48 : Nat) "StreamPairModel" "nxt" "[I") ∈ lw_tbl := List.mem_of_getElem? (i := 1269) (by decide +kernel)
theorem wd_1270 : (Jvm.Cond.fieldLink "StreamPairModel" (51 : Nat) "StreamPairModel" "max" "[I") ∈ lw_tbl := List.mem_of_getElem? (i := 1270) (by decide +kernel)
theorem wd_1271 : (Jvm.Cond.fieldLink "StreamPairModel" (54 : Nat) "StreamPairModel" "far" "[I") ∈ lw_tbl := List.mem_of_getElem? (i := 1271) (by decide +kernel)
theorem wd_1272 : (Jvm.Cond.fieldLink "StreamPairModel" (57 : Nat) "StreamPairModel" "wl1" "[I") ∈ lw_tbl := List.mem_of_getElem? (i := 1272) (by decide +kernel)
theorem wd_1273 : (Jvm.Cond.fieldLink "StreamPairModel" (60 : Nat) "StreamPairModel" "wl2" "[I") ∈ lw_tbl := List.mem_of_getElem? (i := 1273) (by decide +kernel)
theorem wd_1274 : (Jvm.Cond.fieldLink "StreamPairModel" (63 : Nat) "StreamPairModel" "segment" "[I") ∈ lw_tbl := List.mem_of_getElem? (i := 1274) (by decide +kernel)
theorem wd_1275 : (Jvm.Cond.fieldLink "StreamPairModel" (66 : Nat) "StreamPairModel" "rcv" "[I") ∈ lw_tbl := List.mem_of_getElem? (i := 1275) (by decide +kernel)
theorem wd_1276 : (Jvm.Cond.fieldLink "StreamPairModel" (69 : Nat) "StreamPairModel" "edge" "[I") ∈ lw_tbl := List.mem_of_getElem? (i := 1276) (by decide +kernel)
theorem wd_1277 : (Jvm.Cond.fieldLink "StreamPairModel" (72 : Nat) "StreamPairModel" "cwnd" "[I") ∈ lw_tbl := List.mem_of_getElem? (i := 1277) (by decide +kernel)
theorem wd_1278 : (Jvm.Cond.fieldLink "StreamPairModel" (75 : Nat) "StreamPairModel" "thresh" "[I") ∈ lw_tbl := List.mem_of_getElem? (i := 1278) (by decide +kernel)
theorem wd_1279 : (Jvm.Cond.fieldLink "StreamPairModel" (78 : Nat) "StreamPairModel" "same" "[I") ∈ lw_tbl := List.mem_of_getElem? (i := 1279) (by decide +kernel)
theorem wd_1280 : (Jvm.Cond.fieldLink "StreamPairModel" (81 : Nat) "StreamPairModel" "rto" "[I") ∈ lw_tbl := List.mem_of_getElem? (i := 1280) (by decide +kernel)
theorem wd_1281 : (Jvm.Cond.fieldLink "StreamPairModel" (84 : Nat) "StreamPairModel" "tries" "[I") ∈ lw_tbl := List.mem_of_getElem? (i := 1281) (by decide +kernel)
theorem wd_1282 : (Jvm.Cond.fieldLink "StreamPairModel" (87 : Nat) "StreamPairModel" "srtt" "[I") ∈ lw_tbl := List.mem_of_getElem? (i := 1282) (by decide +kernel)
theorem wd_1283 : (Jvm.Cond.fieldLink "StreamPairModel" (90 : Nat) "StreamPairModel" "var" "[I") ∈ lw_tbl := List.mem_of_getElem? (i := 1283) (by decide +kernel)
theorem wd_1284 : (Jvm.Cond.fieldLink "StreamPairModel" (93 : Nat) "StreamPairModel" "timed" "[I") ∈ lw_tbl := List.mem_of_getElem? (i := 1284) (by decide +kernel)
theorem wd_1285 : (Jvm.Cond.fieldLink "StreamPairModel" (96 : Nat) "StreamPairModel" "sent" "[I") ∈ lw_tbl := List.mem_of_getElem? (i := 1285) (by decide +kernel)
theorem wd_1286 : (Jvm.Cond.fieldLink "StreamPairModel" (99 : Nat) "StreamPairModel" "dropped" "[I") ∈ lw_tbl := List.mem_of_getElem? (i := 1286) (by decide +kernel)
theorem wd_1287 : (Jvm.Cond.fieldLink "StreamPairModel" (102 : Nat) "StreamPairModel" "fate" "[I") ∈ lw_tbl := List.mem_of_getElem? (i := 1287) (by decide +kernel)
theorem wd_1288 : (Jvm.Cond.fieldLink "StreamPairModel" (105 : Nat) "StreamPairModel" "unread" "[I") ∈ lw_tbl := List.mem_of_getElem? (i := 1288) (by decide +kernel)
theorem wd_1289 : (Jvm.Cond.fieldLink "StreamPairModel" (108 : Nat) "StreamPairModel" "given" "[I") ∈ lw_tbl := List.mem_of_getElem? (i := 1289) (by decide +kernel)
theorem wd_1290 : (Jvm.Cond.fieldLink "StreamPairModel" (113 : Nat) "StreamPairModel" "due" "[J") ∈ lw_tbl := List.mem_of_getElem? (i := 1290) (by decide +kernel)
theorem wd_1291 : (Jvm.Cond.fieldLink "StreamPairModel" (117 : Nat) "StreamPairModel" "timedAt" "[J") ∈ lw_tbl := List.mem_of_getElem? (i := 1291) (by decide +kernel)
theorem wd_1292 : (Jvm.Cond.fieldLink "StreamPairModel" (120 : Nat) "StreamPairModel" "timing" "[Z") ∈ lw_tbl := List.mem_of_getElem? (i := 1292) (by decide +kernel)
theorem wd_1293 : (Jvm.Cond.fieldLink "StreamPairModel" (123 : Nat) "StreamPairModel" "closed" "[Z") ∈ lw_tbl := List.mem_of_getElem? (i := 1293) (by decide +kernel)
theorem wd_1294 : (Jvm.Cond.fieldLink "StreamPairModel" (126 : Nat) "StreamPairModel" "finTaken" "[Z") ∈ lw_tbl := List.mem_of_getElem? (i := 1294) (by decide +kernel)
theorem wd_1295 : (Jvm.Cond.fieldLink "StreamPairModel" (130 : Nat) "StreamPairModel" "gift" "[B") ∈ lw_tbl := List.mem_of_getElem? (i := 1295) (by decide +kernel)
theorem wd_1296 : (Jvm.Cond.fieldLink "StreamPairModel" (134 : Nat) "StreamPairModel" "ring" "[B") ∈ lw_tbl := List.mem_of_getElem? (i := 1296) (by decide +kernel)
theorem wd_1297 : (Jvm.Cond.fieldLink "StreamPairModel" (137 : Nat) "StreamPairModel" "kept" "[Z") ∈ lw_tbl := List.mem_of_getElem? (i := 1297) (by decide +kernel)
theorem wd_1298 : (Jvm.Cond.fieldLink "StreamPairModel" (251 : Nat) "StreamPairModel" "seq" "I") ∈ lw_tbl := List.mem_of_getElem? (i := 1298) (by decide +kernel)
theorem wd_1299 : (Jvm.Cond.fieldLink "StreamPairModel" (248 : Nat) "StreamPairModel" "ack" "I") ∈ lw_tbl := List.mem_of_getElem? (i := 1299) (by decide +kernel)
theorem wd_1300 : (Jvm.Cond.fieldLink "StreamPairModel" (242 : Nat) "StreamPairModel" "flags" "I") ∈ lw_tbl := List.mem_of_getElem? (i := 1300) (by decide +kernel)
theorem wd_1301 : (Jvm.Cond.fieldLink "StreamPairModel" (263 : Nat) "StreamPairModel" "window" "I") ∈ lw_tbl := List.mem_of_getElem? (i := 1301) (by decide +kernel)
theorem wd_1302 : (Jvm.Cond.fieldLink "StreamPairModel" (266 : Nat) "StreamPairModel" "dataAt" "I") ∈ lw_tbl := List.mem_of_getElem? (i := 1302) (by decide +kernel)
theorem wd_1303 : (Jvm.Cond.fieldLink "StreamPairModel" (245 : Nat) "StreamPairModel" "dataSize" "I") ∈ lw_tbl := List.mem_of_getElem? (i := 1303) (by decide +kernel)
theorem wd_1304 : (Jvm.Cond.fieldLink "StreamPairModel" (254 : Nat) "StreamPairModel" "slot" "I") ∈ lw_tbl := List.mem_of_getElem? (i := 1304) (by decide +kernel)
theorem wd_1305 : (Jvm.Cond.fieldLink "StreamPairModel" (269 : Nat) "StreamPairModel" "told" "I") ∈ lw_tbl := List.mem_of_getElem? (i := 1305) (by decide +kernel)
theorem wd_1306 : (Jvm.Cond.lays "StreamPairModel" "StreamPairModel" "thrown" "I") ∈ lw_tbl := List.mem_of_getElem? (i := 1306) (by decide +kernel)
theorem wd_1308 : (Jvm.Cond.laysFinal "StreamPairModel" "StreamPairModel" "tape" "[B") ∈ lw_tbl := List.mem_of_getElem? (i := 1308) (by decide +kernel)
theorem wd_1310 : (Jvm.Cond.lays "StreamPairModel" "StreamPairModel" "tapes" "I") ∈ lw_tbl := List.mem_of_getElem? (i := 1310) (by decide +kernel)
theorem wd_1312 : (Jvm.Cond.lays "StreamPairModel" "StreamPairModel" "time" "J") ∈ lw_tbl := List.mem_of_getElem? (i := 1312) (by decide +kernel)
theorem wd_1314 : (Jvm.Cond.lays "StreamPairModel" "StreamPairModel" "connections" "I") ∈ lw_tbl := List.mem_of_getElem? (i := 1314) (by decide +kernel)
theorem wd_1316 : (Jvm.Cond.lays "StreamPairModel" "StreamPairModel" "lost" "I") ∈ lw_tbl := List.mem_of_getElem? (i := 1316) (by decide +kernel)
theorem wd_1318 : (Jvm.Cond.laysFinal "StreamPairModel" "StreamPairModel" "slots" "[B") ∈ lw_tbl := List.mem_of_getElem? (i := 1318) (by decide +kernel)
theorem wd_1320 : (Jvm.Cond.laysFinal "StreamPairModel" "StreamPairModel" "lengths" "[I") ∈ lw_tbl := List.mem_of_getElem? (i := 1320) (by decide +kernel)
theorem wd_1322 : (Jvm.Cond.laysFinal "StreamPairModel" "StreamPairModel" "goals" "[I") ∈ lw_tbl := List.mem_of_getElem? (i := 1322) (by decide +kernel)
theorem wd_1324 : (Jvm.Cond.laysFinal "StreamPairModel" "StreamPairModel" "way" "[I") ∈ lw_tbl := List.mem_of_getElem? (i := 1324) (by decide +kernel)
theorem wd_1326 : (Jvm.Cond.lays "StreamPairModel" "StreamPairModel" "ways" "I") ∈ lw_tbl := List.mem_of_getElem? (i := 1326) (by decide +kernel)
theorem wd_1328 : (Jvm.Cond.laysFinal "StreamPairModel" "StreamPairModel" "taken" "[Z") ∈ lw_tbl := List.mem_of_getElem? (i := 1328) (by decide +kernel)
theorem wd_1330 : (Jvm.Cond.laysFinal "StreamPairModel" "StreamPairModel" "room" "[I") ∈ lw_tbl := List.mem_of_getElem? (i := 1330) (by decide +kernel)
theorem wd_1332 : (Jvm.Cond.laysFinal "StreamPairModel" "StreamPairModel" "mss" "[I") ∈ lw_tbl := List.mem_of_getElem? (i := 1332) (by decide +kernel)
theorem wd_1334 : (Jvm.Cond.laysFinal "StreamPairModel" "StreamPairModel" "state" "[I") ∈ lw_tbl := List.mem_of_getElem? (i := 1334) (by decide +kernel)
theorem wd_1336 : (Jvm.Cond.laysFinal "StreamPairModel" "StreamPairModel" "iss" "[I") ∈ lw_tbl := List.mem_of_getElem? (i := 1336) (by decide +kernel)
theorem wd_1338 : (Jvm.Cond.laysFinal "StreamPairModel" "StreamPairModel" "una" "[I") ∈ lw_tbl := List.mem_of_getElem? (i := 1338) (by decide +kernel)
theorem wd_1340 : (Jvm.Cond.laysFinal "StreamPairModel" "StreamPairModel" "nxt" "[I") ∈ lw_tbl := List.mem_of_getElem? (i := 1340) (by decide +kernel)
theorem wd_1342 : (Jvm.Cond.laysFinal "StreamPairModel" "StreamPairModel" "max" "[I") ∈ lw_tbl := List.mem_of_getElem? (i := 1342) (by decide +kernel)
theorem wd_1344 : (Jvm.Cond.laysFinal "StreamPairModel" "StreamPairModel" "far" "[I") ∈ lw_tbl := List.mem_of_getElem? (i := 1344) (by decide +kernel)
theorem wd_1346 : (Jvm.Cond.laysFinal "StreamPairModel" "StreamPairModel" "wl1" "[I") ∈ lw_tbl := List.mem_of_getElem? (i := 1346) (by decide +kernel)
theorem wd_1348 : (Jvm.Cond.laysFinal "StreamPairModel" "StreamPairModel" "wl2" "[I") ∈ lw_tbl := List.mem_of_getElem? (i := 1348) (by decide +kernel)
theorem wd_1350 : (Jvm.Cond.laysFinal "StreamPairModel" "StreamPairModel" "segment" "[I") ∈ lw_tbl := List.mem_of_getElem? (i := 1350) (by decide +kernel)
theorem wd_1352 : (Jvm.Cond.laysFinal "StreamPairModel" "StreamPairModel" "rcv" "[I") ∈ lw_tbl := List.mem_of_getElem? (i := 1352) (by decide +kernel)
theorem wd_1354 : (Jvm.Cond.laysFinal "StreamPairModel" "StreamPairModel" "edge" "[I") ∈ lw_tbl := List.mem_of_getElem? (i := 1354) (by decide +kernel)
theorem wd_1356 : (Jvm.Cond.laysFinal "StreamPairModel" "StreamPairModel" "cwnd" "[I") ∈ lw_tbl := List.mem_of_getElem? (i := 1356) (by decide +kernel)
theorem wd_1358 : (Jvm.Cond.laysFinal "StreamPairModel" "StreamPairModel" "thresh" "[I") ∈ lw_tbl := List.mem_of_getElem? (i := 1358) (by decide +kernel)
theorem wd_1360 : (Jvm.Cond.laysFinal "StreamPairModel" "StreamPairModel" "same" "[I") ∈ lw_tbl := List.mem_of_getElem? (i := 1360) (by decide +kernel)
theorem wd_1362 : (Jvm.Cond.laysFinal "StreamPairModel" "StreamPairModel" "rto" "[I") ∈ lw_tbl := List.mem_of_getElem? (i := 1362) (by decide +kernel)
theorem wd_1364 : (Jvm.Cond.laysFinal "StreamPairModel" "StreamPairModel" "tries" "[I") ∈ lw_tbl := List.mem_of_getElem? (i := 1364) (by decide +kernel)
theorem wd_1366 : (Jvm.Cond.laysFinal "StreamPairModel" "StreamPairModel" "srtt" "[I") ∈ lw_tbl := List.mem_of_getElem? (i := 1366) (by decide +kernel)
theorem wd_1368 : (Jvm.Cond.laysFinal "StreamPairModel" "StreamPairModel" "var" "[I") ∈ lw_tbl := List.mem_of_getElem? (i := 1368) (by decide +kernel)
theorem wd_1370 : (Jvm.Cond.laysFinal "StreamPairModel" "StreamPairModel" "timed" "[I") ∈ lw_tbl := List.mem_of_getElem? (i := 1370) (by decide +kernel)
theorem wd_1372 : (Jvm.Cond.laysFinal "StreamPairModel" "StreamPairModel" "sent" "[I") ∈ lw_tbl := List.mem_of_getElem? (i := 1372) (by decide +kernel)
theorem wd_1374 : (Jvm.Cond.laysFinal "StreamPairModel" "StreamPairModel" "dropped" "[I") ∈ lw_tbl := List.mem_of_getElem? (i := 1374) (by decide +kernel)
theorem wd_1376 : (Jvm.Cond.laysFinal "StreamPairModel" "StreamPairModel" "fate" "[I") ∈ lw_tbl := List.mem_of_getElem? (i := 1376) (by decide +kernel)
theorem wd_1378 : (Jvm.Cond.laysFinal "StreamPairModel" "StreamPairModel" "unread" "[I") ∈ lw_tbl := List.mem_of_getElem? (i := 1378) (by decide +kernel)
theorem wd_1380 : (Jvm.Cond.laysFinal "StreamPairModel" "StreamPairModel" "given" "[I") ∈ lw_tbl := List.mem_of_getElem? (i := 1380) (by decide +kernel)
theorem wd_1382 : (Jvm.Cond.laysFinal "StreamPairModel" "StreamPairModel" "due" "[J") ∈ lw_tbl := List.mem_of_getElem? (i := 1382) (by decide +kernel)
theorem wd_1384 : (Jvm.Cond.laysFinal "StreamPairModel" "StreamPairModel" "timedAt" "[J") ∈ lw_tbl := List.mem_of_getElem? (i := 1384) (by decide +kernel)
theorem wd_1386 : (Jvm.Cond.laysFinal "StreamPairModel" "StreamPairModel" "timing" "[Z") ∈ lw_tbl := List.mem_of_getElem? (i := 1386) (by decide +kernel)
theorem wd_1388 : (Jvm.Cond.laysFinal "StreamPairModel" "StreamPairModel" "closed" "[Z") ∈ lw_tbl := List.mem_of_getElem? (i := 1388) (by decide +kernel)
theorem wd_1390 : (Jvm.Cond.laysFinal "StreamPairModel" "StreamPairModel" "finTaken" "[Z") ∈ lw_tbl := List.mem_of_getElem? (i := 1390) (by decide +kernel)
theorem wd_1392 : (Jvm.Cond.laysFinal "StreamPairModel" "StreamPairModel" "gift" "[B") ∈ lw_tbl := List.mem_of_getElem? (i := 1392) (by decide +kernel)
theorem wd_1394 : (Jvm.Cond.laysFinal "StreamPairModel" "StreamPairModel" "ring" "[B") ∈ lw_tbl := List.mem_of_getElem? (i := 1394) (by decide +kernel)
theorem wd_1396 : (Jvm.Cond.laysFinal "StreamPairModel" "StreamPairModel" "kept" "[Z") ∈ lw_tbl := List.mem_of_getElem? (i := 1396) (by decide +kernel)
theorem wd_1398 : (Jvm.Cond.lays "StreamPairModel" "StreamPairModel" "seq" "I") ∈ lw_tbl := List.mem_of_getElem? (i := 1398) (by decide +kernel)
theorem wd_1400 : (Jvm.Cond.lays "StreamPairModel" "StreamPairModel" "ack" "I") ∈ lw_tbl := List.mem_of_getElem? (i := 1400) (by decide +kernel)
theorem wd_1402 : (Jvm.Cond.lays "StreamPairModel" "StreamPairModel" "flags" "I") ∈ lw_tbl := List.mem_of_getElem? (i := 1402) (by decide +kernel)
theorem wd_1404 : (Jvm.Cond.lays "StreamPairModel" "StreamPairModel" "window" "I") ∈ lw_tbl := List.mem_of_getElem? (i := 1404) (by decide +kernel)
theorem wd_1406 : (Jvm.Cond.lays "StreamPairModel" "StreamPairModel" "dataAt" "I") ∈ lw_tbl := List.mem_of_getElem? (i := 1406) (by decide +kernel)
theorem wd_1408 : (Jvm.Cond.lays "StreamPairModel" "StreamPairModel" "dataSize" "I") ∈ lw_tbl := List.mem_of_getElem? (i := 1408) (by decide +kernel)
theorem wd_1410 : (Jvm.Cond.lays "StreamPairModel" "StreamPairModel" "slot" "I") ∈ lw_tbl := List.mem_of_getElem? (i := 1410) (by decide +kernel)
theorem wd_1412 : (Jvm.Cond.lays "StreamPairModel" "StreamPairModel" "told" "I") ∈ lw_tbl := List.mem_of_getElem? (i := 1412) (by decide +kernel)
theorem wd_1415 : (Jvm.Cond.arrayClass Jvm.ClassFile.FieldType.int) ∈ lw_tbl := List.mem_of_getElem? (i := 1415) (by decide +kernel)
theorem wd_1416 : (Jvm.Cond.arrayClass Jvm.ClassFile.FieldType.boolean) ∈ lw_tbl := List.mem_of_getElem? (i := 1416) (by decide +kernel)
theorem wd_1417 : (Jvm.Cond.arrayClass Jvm.ClassFile.FieldType.long) ∈ lw_tbl := List.mem_of_getElem? (i := 1417) (by decide +kernel)
theorem wd_1418 : (Jvm.Cond.methodLink "StreamPairLaw" (81 : Nat) ({ cls := "StreamPairModel", name := "thrown", desc := "()I" } : Jvm.MethodName)) ∈ lw_tbl := List.mem_of_getElem? (i := 1418) (by decide +kernel)
theorem wd_1419 : (Jvm.Cond.instanceMethod ({ cls := "StreamPairModel", name := "thrown", desc := "()I" } : Jvm.MethodName)) ∈ lw_tbl := List.mem_of_getElem? (i := 1419) (by decide +kernel)
theorem wd_1420 : (Jvm.Cond.selects "StreamPairModel" ({ cls := "StreamPairModel", name := "thrown", desc := "()I" } : Jvm.MethodName) ({ cls := "StreamPairModel", name := "thrown", desc := "()I" } : Jvm.MethodName)) ∈ lw_tbl := List.mem_of_getElem? (i := 1420) (by decide +kernel)
theorem wd_1421 : (Jvm.Cond.code ({ cls := "StreamPairModel", name := "thrown", desc := "()I" } : Jvm.MethodName) prog_12_method_2_code (1 : Nat) (Option.some Jvm.ClassFile.FieldType.int)) ∈ lw_tbl := List.mem_of_getElem? (i := 1421) (by decide +kernel)
theorem wd_1422 : (Jvm.Cond.methodLink "StreamPairLaw" (80 : Nat) ({ cls := "StreamPairModel", name := "feed", desc := "(IIIII)I" } : Jvm.MethodName)) ∈ lw_tbl := List.mem_of_getElem? (i := 1422) (by decide +kernel)
theorem wd_1423 : (Jvm.Cond.instanceMethod ({ cls := "StreamPairModel", name := "feed", desc := "(IIIII)I" } : Jvm.MethodName)) ∈ lw_tbl := List.mem_of_getElem? (i := 1423) (by decide +kernel)
theorem wd_1424 : (Jvm.Cond.selects "StreamPairModel" ({ cls := "StreamPairModel", name := "feed", desc := "(IIIII)I" } : Jvm.MethodName) ({ cls := "StreamPairModel", name := "feed", desc := "(IIIII)I" } : Jvm.MethodName)) ∈ lw_tbl := List.mem_of_getElem? (i := 1424) (by decide +kernel)
theorem wd_1425 : (Jvm.Cond.code ({ cls := "StreamPairModel", name := "feed", desc := "(IIIII)I" } : Jvm.MethodName) prog_12_method_43_code (8 : Nat) (Option.some Jvm.ClassFile.FieldType.int)) ∈ lw_tbl := List.mem_of_getElem? (i := 1425) (by decide +kernel)
theorem wd_1426 : (Jvm.Cond.constant "StreamPairModel" (326 : Nat) (65516 : Int32)) ∈ lw_tbl := List.mem_of_getElem? (i := 1426) (by decide +kernel)
theorem wd_1427 : (Jvm.Cond.methodLink "StreamPairModel" (327 : Nat) ({ cls := "StreamPairModel", name := "fail", desc := "(I)I" } : Jvm.MethodName)) ∈ lw_tbl := List.mem_of_getElem? (i := 1427) (by decide +kernel)
theorem wd_1429 : (Jvm.Cond.instanceMethod ({ cls := "StreamPairModel", name := "fail", desc := "(I)I" } : Jvm.MethodName)) ∈ lw_tbl := List.mem_of_getElem? (i := 1429) (by decide +kernel)
theorem wd_1430 : (Jvm.Cond.code ({ cls := "StreamPairModel", name := "fail", desc := "(I)I" } : Jvm.MethodName) prog_12_method_3_code (2 : Nat) (Option.some Jvm.ClassFile.FieldType.int)) ∈ lw_tbl := List.mem_of_getElem? (i := 1430) (by decide +kernel)
theorem wd_1431 : (Jvm.Cond.methodLink "StreamPairLaw" (88 : Nat) ({ cls := "StreamPairModel", name := "end", desc := "(I)I" } : Jvm.MethodName)) ∈ lw_tbl := List.mem_of_getElem? (i := 1431) (by decide +kernel)
theorem wd_1432 : (Jvm.Cond.instanceMethod ({ cls := "StreamPairModel", name := "end", desc := "(I)I" } : Jvm.MethodName)) ∈ lw_tbl := List.mem_of_getElem? (i := 1432) (by decide +kernel)
theorem wd_1433 : (Jvm.Cond.selects "StreamPairModel" ({ cls := "StreamPairModel", name := "end", desc := "(I)I" } : Jvm.MethodName) ({ cls := "StreamPairModel", name := "end", desc := "(I)I" } : Jvm.MethodName)) ∈ lw_tbl := List.mem_of_getElem? (i := 1433) (by decide +kernel)
theorem wd_1434 : (Jvm.Cond.code ({ cls := "StreamPairModel", name := "end", desc := "(I)I" } : Jvm.MethodName) prog_12_method_44_code (2 : Nat) (Option.some Jvm.ClassFile.FieldType.int)) ∈ lw_tbl := List.mem_of_getElem? (i := 1434) (by decide +kernel)
theorem wd_1435 : (Jvm.Cond.methodLink "StreamPairLaw" (92 : Nat) ({ cls := "StreamPairModel", name := "open", desc := "(II)I" } : Jvm.MethodName)) ∈ lw_tbl := List.mem_of_getElem? (i := 1435) (by decide +kernel)
theorem wd_1436 : (Jvm.Cond.instanceMethod ({ cls := "StreamPairModel", name := "open", desc := "(II)I" } : Jvm.MethodName)) ∈ lw_tbl := List.mem_of_getElem? (i := 1436) (by decide +kernel)
theorem wd_1437 : (Jvm.Cond.selects "StreamPairModel" ({ cls := "StreamPairModel", name := "open", desc := "(II)I" } : Jvm.MethodName) ({ cls := "StreamPairModel", name := "open", desc := "(II)I" } : Jvm.MethodName)) ∈ lw_tbl := List.mem_of_getElem? (i := 1437) (by decide +kernel)
theorem wd_1438 : (Jvm.Cond.code ({ cls := "StreamPairModel", name := "open", desc := "(II)I" } : Jvm.MethodName) prog_12_method_46_code (3 : Nat) (Option.some Jvm.ClassFile.FieldType.int)) ∈ lw_tbl := List.mem_of_getElem? (i := 1438) (by decide +kernel)
theorem wd_1439 : (Jvm.Cond.methodLink "StreamPairModel" (330 : Nat) ({ cls := "StreamPairModel", name := "removed", desc := "(I)V" } : Jvm.MethodName)) ∈ lw_tbl := List.mem_of_getElem? (i := 1439) (by decide +kernel)
theorem wd_1441 : (Jvm.Cond.instanceMethod ({ cls := "StreamPairModel", name := "removed", desc := "(I)V" } : Jvm.MethodName)) ∈ lw_tbl := List.mem_of_getElem? (i := 1441) (by decide +kernel)
theorem wd_1442 : (Jvm.Cond.code ({ cls := "StreamPairModel", name := "removed", desc := "(I)V" } : Jvm.MethodName) prog_12_method_7_code (3 : Nat) (Option.none : Option Jvm.ClassFile.FieldType)) ∈ lw_tbl := List.mem_of_getElem? (i := 1442) (by decide +kernel)
theorem wd_1443 : (Jvm.Cond.methodLink "StreamPairModel" (333 : Nat) ({ cls := "StreamPairModel", name := "fresh", desc := "(II)V" } : Jvm.MethodName)) ∈ lw_tbl := List.mem_of_getElem? (i := 1443) (by decide +kernel)
theorem wd_1445 : (Jvm.Cond.instanceMethod ({ cls := "StreamPairModel", name := "fresh", desc := "(II)V" } : Jvm.MethodName)) ∈ lw_tbl := List.mem_of_getElem? (i := 1445) (by decide +kernel)
theorem wd_1446 : (Jvm.Cond.code ({ cls := "StreamPairModel", name := "fresh", desc := "(II)V" } : Jvm.MethodName) prog_12_method_45_code (4 : Nat) (Option.none : Option Jvm.ClassFile.FieldType)) ∈ lw_tbl := List.mem_of_getElem? (i := 1446) (by decide +kernel)
theorem wd_1447 : (Jvm.Cond.methodLink "StreamPairModel" (205 : Nat) ({ cls := "StreamPairModel", name := "send", desc := "(IIIII)V" } : Jvm.MethodName)) ∈ lw_tbl := List.mem_of_getElem? (i := 1447) (by decide +kernel)
theorem wd_1449 : (Jvm.Cond.instanceMethod ({ cls := "StreamPairModel", name := "send", desc := "(IIIII)V" } : Jvm.MethodName)) ∈ lw_tbl := List.mem_of_getElem? (i := 1449) (by decide +kernel)
theorem wd_1450 : (Jvm.Cond.code ({ cls := "StreamPairModel", name := "send", desc := "(IIIII)V" } : Jvm.MethodName) prog_12_method_18_code (12 : Nat) (Option.none : Option Jvm.ClassFile.FieldType)) ∈ lw_tbl := List.mem_of_getElem? (i := 1450) (by decide +kernel)
theorem wd_1451 : (Jvm.Cond.methodLink "StreamPairModel" (185 : Nat) ({ cls := "StreamPairModel", name := "freeRoom", desc := "(I)I" } : Jvm.MethodName)) ∈ lw_tbl := List.mem_of_getElem? (i := 1451) (by decide +kernel)
theorem wd_1453 : (Jvm.Cond.instanceMethod ({ cls := "StreamPairModel", name := "freeRoom", desc := "(I)I" } : Jvm.MethodName)) ∈ lw_tbl := List.mem_of_getElem? (i := 1453) (by decide +kernel)
theorem wd_1454 : (Jvm.Cond.code ({ cls := "StreamPairModel", name := "freeRoom", desc := "(I)I" } : Jvm.MethodName) prog_12_method_17_code (2 : Nat) (Option.some Jvm.ClassFile.FieldType.int)) ∈ lw_tbl := List.mem_of_getElem? (i := 1454) (by decide +kernel)
theorem wd_1455 : (Jvm.Cond.methodLink "StreamPairModel" (188 : Nat) ({ cls := "StreamPairModel", name := "above", desc := "(II)Z" } : Jvm.MethodName)) ∈ lw_tbl := List.mem_of_getElem? (i := 1455) (by decide +kernel)
theorem wd_1456 : (Jvm.Cond.static ({ cls := "StreamPairModel", name := "above", desc := "(II)Z" } : Jvm.MethodName)) ∈ lw_tbl := List.mem_of_getElem? (i := 1456) (by decide +kernel)
theorem wd_1457 : (Jvm.Cond.code ({ cls := "StreamPairModel", name := "above", desc := "(II)Z" } : Jvm.MethodName) prog_12_method_4_code (2 : Nat) (Option.some Jvm.ClassFile.FieldType.boolean)) ∈ lw_tbl := List.mem_of_getElem? (i := 1457) (by decide +kernel)
theorem wd_1458 : (Jvm.Cond.methodLink "StreamPairModel" (192 : Nat) ({ cls := "StreamPairModel", name := "written", desc := "(IIIIIII)I" } : Jvm.MethodName)) ∈ lw_tbl := List.mem_of_getElem? (i := 1458) (by decide +kernel)
theorem wd_1460 : (Jvm.Cond.instanceMethod ({ cls := "StreamPairModel", name := "written", desc := "(IIIIIII)I" } : Jvm.MethodName)) ∈ lw_tbl := List.mem_of_getElem? (i := 1460) (by decide +kernel)
theorem wd_1461 : (Jvm.Cond.code ({ cls := "StreamPairModel", name := "written", desc := "(IIIIIII)I" } : Jvm.MethodName) prog_12_method_15_code (9 : Nat) (Option.some Jvm.ClassFile.FieldType.int)) ∈ lw_tbl := List.mem_of_getElem? (i := 1461) (by decide +kernel)
theorem wd_1462 : (Jvm.Cond.methodLink "StreamPairModel" (175 : Nat) ({ cls := "StreamPairModel", name := "launched", desc := "(II)I" } : Jvm.MethodName)) ∈ lw_tbl := List.mem_of_getElem? (i := 1462) (by decide +kernel)
theorem wd_1464 : (Jvm.Cond.instanceMethod ({ cls := "StreamPairModel", name := "launched", desc := "(II)I" } : Jvm.MethodName)) ∈ lw_tbl := List.mem_of_getElem? (i := 1464) (by decide +kernel)
theorem wd_1465 : (Jvm.Cond.code ({ cls := "StreamPairModel", name := "launched", desc := "(II)I" } : Jvm.MethodName) prog_12_method_6_code (4 : Nat) (Option.some Jvm.ClassFile.FieldType.int)) ∈ lw_tbl := List.mem_of_getElem? (i := 1465) (by decide +kernel)
theorem wd_1466 : (Jvm.Cond.methodLink "StreamPairModel" (150 : Nat) ({ cls := "StreamPairModel", name := "free", desc := "()I" } : Jvm.MethodName)) ∈ lw_tbl := List.mem_of_getElem? (i := 1466) (by decide +kernel)
theorem wd_1468 : (Jvm.Cond.instanceMethod ({ cls := "StreamPairModel", name := "free", desc := "()I" } : Jvm.MethodName)) ∈ lw_tbl := List.mem_of_getElem? (i := 1468) (by decide +kernel)
theorem wd_1469 : (Jvm.Cond.code ({ cls := "StreamPairModel", name := "free", desc := "()I" } : Jvm.MethodName) prog_12_method_5_code (2 : Nat) (Option.some Jvm.ClassFile.FieldType.int)) ∈ lw_tbl := List.mem_of_getElem? (i := 1469) (by decide +kernel)
theorem wd_1470 : (Jvm.Cond.methodLink "StreamPairModel" (178 : Nat) ({ cls := "StreamPairModel", name := "port", desc := "(I)I" } : Jvm.MethodName)) ∈ lw_tbl := List.mem_of_getElem? (i := 1470) (by decide +kernel)
theorem wd_1472 : (Jvm.Cond.instanceMethod ({ cls := "StreamPairModel", name := "port", desc := "(I)I" } : Jvm.MethodName)) ∈ lw_tbl := List.mem_of_getElem? (i := 1472) (by decide +kernel)
theorem wd_1473 : (Jvm.Cond.code ({ cls := "StreamPairModel", name := "port", desc := "(I)I" } : Jvm.MethodName) prog_12_method_14_code (2 : Nat) (Option.some Jvm.ClassFile.FieldType.int)) ∈ lw_tbl := List.mem_of_getElem? (i := 1473) (by decide +kernel)
theorem wd_1474 : (Jvm.Cond.constant "StreamPairModel" (171 : Nat) (40000 : Int32)) ∈ lw_tbl := List.mem_of_getElem? (i := 1474) (by decide +kernel)
theorem wd_1475 : (Jvm.Cond.methodLink "StreamPairModel" (181 : Nat) ({ cls := "StreamPairModel", name := "put", desc := "(IIII)V" } : Jvm.MethodName)) ∈ lw_tbl := List.mem_of_getElem? (i := 1475) (by decide +kernel)
theorem wd_1477 : (Jvm.Cond.instanceMethod ({ cls := "StreamPairModel", name := "put", desc := "(IIII)V" } : Jvm.MethodName)) ∈ lw_tbl := List.mem_of_getElem? (i := 1477) (by decide +kernel)
theorem wd_1478 : (Jvm.Cond.code ({ cls := "StreamPairModel", name := "put", desc := "(IIII)V" } : Jvm.MethodName) prog_12_method_11_code (6 : Nat) (Option.none : Option Jvm.ClassFile.FieldType)) ∈ lw_tbl := List.mem_of_getElem? (i := 1478) (by decide +kernel)
theorem wd_1479 : (Jvm.Cond.constant "StreamPairModel" (196 : Nat) (81920 : Int32)) ∈ lw_tbl := List.mem_of_getElem? (i := 1479) (by decide +kernel)
theorem wd_1480 : (Jvm.Cond.methodLink "StreamPairModel" (197 : Nat) ({ cls := "StreamPairModel", name := "sealed", desc := "(I)V" } : Jvm.MethodName)) ∈ lw_tbl := List.mem_of_getElem? (i := 1480) (by decide +kernel)
theorem wd_1482 : (Jvm.Cond.instanceMethod ({ cls := "StreamPairModel", name := "sealed", desc := "(I)V" } : Jvm.MethodName)) ∈ lw_tbl := List.mem_of_getElem? (i := 1482) (by decide +kernel)
theorem wd_1483 : (Jvm.Cond.code ({ cls := "StreamPairModel", name := "sealed", desc := "(I)V" } : Jvm.MethodName) prog_12_method_16_code (2 : Nat) (Option.none : Option Jvm.ClassFile.FieldType)) ∈ lw_tbl := List.mem_of_getElem? (i := 1483) (by decide +kernel)
theorem wd_1484 : (Jvm.Cond.methodLink "StreamPairModel" (167 : Nat) ({ cls := "StreamPairModel", name := "checksum", desc := "(I)I" } : Jvm.MethodName)) ∈ lw_tbl := List.mem_of_getElem? (i := 1484) (by decide +kernel)
theorem wd_1486 : (Jvm.Cond.instanceMethod ({ cls := "StreamPairModel", name := "checksum", desc := "(I)I" } : Jvm.MethodName)) ∈ lw_tbl := List.mem_of_getElem? (i := 1486) (by decide +kernel)
theorem wd_1487 : (Jvm.Cond.code ({ cls := "StreamPairModel", name := "checksum", desc := "(I)I" } : Jvm.MethodName) prog_12_method_12_code (6 : Nat) (Option.some Jvm.ClassFile.FieldType.int)) ∈ lw_tbl := List.mem_of_getElem? (i := 1487) (by decide +kernel)
theorem wd_1488 : (Jvm.Cond.constantLong "StreamPairModel" (161 : Nat) (2560 : Int64)) ∈ lw_tbl := List.mem_of_getElem? (i := 1488) (by decide +kernel)
theorem wd_1489 : (Jvm.Cond.constantLong "StreamPairModel" (163 : Nat) (6 : Int64)) ∈ lw_tbl := List.mem_of_getElem? (i := 1489) (by decide +kernel)
theorem wd_1490 : (Jvm.Cond.methodLink "StreamPairModel" (154 : Nat) ({ cls := "StreamPairModel", name := "here", desc := "(II)I" } : Jvm.MethodName)) ∈ lw_tbl := List.mem_of_getElem? (i := 1490) (by decide +kernel)
theorem wd_1492 : (Jvm.Cond.instanceMethod ({ cls := "StreamPairModel", name := "here", desc := "(II)I" } : Jvm.MethodName)) ∈ lw_tbl := List.mem_of_getElem? (i := 1492) (by decide +kernel)
theorem wd_1493 : (Jvm.Cond.code ({ cls := "StreamPairModel", name := "here", desc := "(II)I" } : Jvm.MethodName) prog_12_method_8_code (3 : Nat) (Option.some Jvm.ClassFile.FieldType.int)) ∈ lw_tbl := List.mem_of_getElem? (i := 1493) (by decide +kernel)
theorem wd_1494 : (Jvm.Cond.constantLong "StreamPairModel" (165 : Nat) (65535 : Int64)) ∈ lw_tbl := List.mem_of_getElem? (i := 1494) (by decide +kernel)
theorem wd_1495 : (Jvm.Cond.methodLink "StreamPairLaw" (96 : Nat) ({ cls := "StreamPairModel", name := "set", desc := "(III)I" } : Jvm.MethodName)) ∈ lw_tbl := List.mem_of_getElem? (i := 1495) (by decide +kernel)
theorem wd_1496 : (Jvm.Cond.instanceMethod ({ cls := "StreamPairModel", name := "set", desc := "(III)I" } : Jvm.MethodName)) ∈ lw_tbl := List.mem_of_getElem? (i := 1496) (by decide +kernel)
theorem wd_1497 : (Jvm.Cond.selects "StreamPairModel" ({ cls := "StreamPairModel", name := "set", desc := "(III)I" } : Jvm.MethodName) ({ cls := "StreamPairModel", name := "set", desc := "(III)I" } : Jvm.MethodName)) ∈ lw_tbl := List.mem_of_getElem? (i := 1497) (by decide +kernel)
theorem wd_1498 : (Jvm.Cond.code ({ cls := "StreamPairModel", name := "set", desc := "(III)I" } : Jvm.MethodName) prog_12_method_48_code (5 : Nat) (Option.some Jvm.ClassFile.FieldType.int)) ∈ lw_tbl := List.mem_of_getElem? (i := 1498) (by decide +kernel)
theorem wd_1499 : (Jvm.Cond.methodLink "StreamPairModel" (336 : Nat) ({ cls := "StreamPairModel", name := "none", desc := "(I)Z" } : Jvm.MethodName)) ∈ lw_tbl := List.mem_of_getElem? (i := 1499) (by decide +kernel)
theorem wd_1500 : (Jvm.Cond.static ({ cls := "StreamPairModel", name := "none", desc := "(I)Z" } : Jvm.MethodName)) ∈ lw_tbl := List.mem_of_getElem? (i := 1500) (by decide +kernel)
theorem wd_1501 : (Jvm.Cond.code ({ cls := "StreamPairModel", name := "none", desc := "(I)Z" } : Jvm.MethodName) prog_12_method_47_code (1 : Nat) (Option.some Jvm.ClassFile.FieldType.boolean)) ∈ lw_tbl := List.mem_of_getElem? (i := 1501) (by decide +kernel)
theorem wd_1502 : (Jvm.Cond.methodLink "StreamPairLaw" (99 : Nat) ({ cls := "StreamPairModel", name := "write", desc := "(I)I" } : Jvm.MethodName)) ∈ lw_tbl := List.mem_of_getElem? (i := 1502) (by decide +kernel)
theorem wd_1503 : (Jvm.Cond.instanceMethod ({ cls := "StreamPairModel", name := "write", desc := "(I)I" } : Jvm.MethodName)) ∈ lw_tbl := List.mem_of_getElem? (i := 1503) (by decide +kernel)
theorem wd_1504 : (Jvm.Cond.selects "StreamPairModel" ({ cls := "StreamPairModel", name := "write", desc := "(I)I" } : Jvm.MethodName) ({ cls := "StreamPairModel", name := "write", desc := "(I)I" } : Jvm.MethodName)) ∈ lw_tbl := List.mem_of_getElem? (i := 1504) (by decide +kernel)
theorem wd_1505 : (Jvm.Cond.code ({ cls := "StreamPairModel", name := "write", desc := "(I)I" } : Jvm.MethodName) prog_12_method_49_code (3 : Nat) (Option.some Jvm.ClassFile.FieldType.int)) ∈ lw_tbl := List.mem_of_getElem? (i := 1505) (by decide +kernel)
theorem wd_1506 : (Jvm.Cond.methodLink "StreamPairModel" (226 : Nat) ({ cls := "StreamPairModel", name := "output", desc := "(I)Z" } : Jvm.MethodName)) ∈ lw_tbl := List.mem_of_getElem? (i := 1506) (by decide +kernel)
theorem wd_1508 : (Jvm.Cond.instanceMethod ({ cls := "StreamPairModel", name := "output", desc := "(I)Z" } : Jvm.MethodName)) ∈ lw_tbl := List.mem_of_getElem? (i := 1508) (by decide +kernel)
theorem wd_1509 : (Jvm.Cond.code ({ cls := "StreamPairModel", name := "output", desc := "(I)Z" } : Jvm.MethodName) prog_12_method_22_code (7 : Nat) (Option.some Jvm.ClassFile.FieldType.boolean)) ∈ lw_tbl := List.mem_of_getElem? (i := 1509) (by decide +kernel)
theorem wd_1510 : (Jvm.Cond.methodLink "StreamPairModel" (209 : Nat) ({ cls := "StreamPairModel", name := "left", desc := "(I)I" } : Jvm.MethodName)) ∈ lw_tbl := List.mem_of_getElem? (i := 1510) (by decide +kernel)
theorem wd_1512 : (Jvm.Cond.instanceMethod ({ cls := "StreamPairModel", name := "left", desc := "(I)I" } : Jvm.MethodName)) ∈ lw_tbl := List.mem_of_getElem? (i := 1512) (by decide +kernel)
theorem wd_1513 : (Jvm.Cond.code ({ cls := "StreamPairModel", name := "left", desc := "(I)I" } : Jvm.MethodName) prog_12_method_20_code (3 : Nat) (Option.some Jvm.ClassFile.FieldType.int)) ∈ lw_tbl := List.mem_of_getElem? (i := 1513) (by decide +kernel)
theorem wd_1514 : (Jvm.Cond.methodLink "StreamPairModel" (212 : Nat) ({ cls := "StreamPairModel", name := "finNumber", desc := "(I)I" } : Jvm.MethodName)) ∈ lw_tbl := List.mem_of_getElem? (i := 1514) (by decide +kernel)
theorem wd_1516 : (Jvm.Cond.instanceMethod ({ cls := "StreamPairModel", name := "finNumber", desc := "(I)I" } : Jvm.MethodName)) ∈ lw_tbl := List.mem_of_getElem? (i := 1516) (by decide +kernel)
theorem wd_1517 : (Jvm.Cond.code ({ cls := "StreamPairModel", name := "finNumber", desc := "(I)I" } : Jvm.MethodName) prog_12_method_21_code (2 : Nat) (Option.some Jvm.ClassFile.FieldType.int)) ∈ lw_tbl := List.mem_of_getElem? (i := 1517) (by decide +kernel)
theorem wd_1518 : (Jvm.Cond.methodLink "StreamPairLaw" (103 : Nat) ({ cls := "StreamPairModel", name := "read", desc := "(II)J" } : Jvm.MethodName)) ∈ lw_tbl := List.mem_of_getElem? (i := 1518) (by decide +kernel)
theorem wd_1519 : (Jvm.Cond.instanceMethod ({ cls := "StreamPairModel", name := "read", desc := "(II)J" } : Jvm.MethodName)) ∈ lw_tbl := List.mem_of_getElem? (i := 1519) (by decide +kernel)
theorem wd_1520 : (Jvm.Cond.selects "StreamPairModel" ({ cls := "StreamPairModel", name := "read", desc := "(II)J" } : Jvm.MethodName) ({ cls := "StreamPairModel", name := "read", desc := "(II)J" } : Jvm.MethodName)) ∈ lw_tbl := List.mem_of_getElem? (i := 1520) (by decide +kernel)
theorem wd_1521 : (Jvm.Cond.code ({ cls := "StreamPairModel", name := "read", desc := "(II)J" } : Jvm.MethodName) prog_12_method_50_code (8 : Nat) (Option.some Jvm.ClassFile.FieldType.long)) ∈ lw_tbl := List.mem_of_getElem? (i := 1521) (by decide +kernel)
theorem wd_1522 : (Jvm.Cond.constantLong "StreamPairModel" (339 : Nat) (255 : Int64)) ∈ lw_tbl := List.mem_of_getElem? (i := 1522) (by decide +kernel)
theorem wd_1523 : (Jvm.Cond.methodLink "StreamPairModel" (287 : Nat) ({ cls := "StreamPairModel", name := "sendAck", desc := "(I)V" } : Jvm.MethodName)) ∈ lw_tbl := List.mem_of_getElem? (i := 1523) (by decide +kernel)
theorem wd_1525 : (Jvm.Cond.instanceMethod ({ cls := "StreamPairModel", name := "sendAck", desc := "(I)V" } : Jvm.MethodName)) ∈ lw_tbl := List.mem_of_getElem? (i := 1525) (by decide +kernel)
theorem wd_1526 : (Jvm.Cond.code ({ cls := "StreamPairModel", name := "sendAck", desc := "(I)V" } : Jvm.MethodName) prog_12_method_19_code (2 : Nat) (Option.none : Option Jvm.ClassFile.FieldType)) ∈ lw_tbl := List.mem_of_getElem? (i := 1526) (by decide +kernel)
theorem wd_1527 : (Jvm.Cond.methodLink "StreamPairLaw" (106 : Nat) ({ cls := "StreamPairModel", name := "close", desc := "(I)I" } : Jvm.MethodName)) ∈ lw_tbl := List.mem_of_getElem? (i := 1527) (by decide +kernel)
theorem wd_1528 : (Jvm.Cond.instanceMethod ({ cls := "StreamPairModel", name := "close", desc := "(I)I" } : Jvm.MethodName)) ∈ lw_tbl := List.mem_of_getElem? (i := 1528) (by decide +kernel)
theorem wd_1529 : (Jvm.Cond.selects "StreamPairModel" ({ cls := "StreamPairModel", name := "close", desc := "(I)I" } : Jvm.MethodName) ({ cls := "StreamPairModel", name := "close", desc := "(I)I" } : Jvm.MethodName)) ∈ lw_tbl := List.mem_of_getElem? (i := 1529) (by decide +kernel)
theorem wd_1530 : (Jvm.Cond.code ({ cls := "StreamPairModel", name := "close", desc := "(I)I" } : Jvm.MethodName) prog_12_method_51_code (3 : Nat) (Option.some Jvm.ClassFile.FieldType.int)) ∈ lw_tbl := List.mem_of_getElem? (i := 1530) (by decide +kernel)
theorem wd_1531 : (Jvm.Cond.methodLink "StreamPairModel" (215 : Nat) ({ cls := "StreamPairModel", name := "finished", desc := "(I)V" } : Jvm.MethodName)) ∈ lw_tbl := List.mem_of_getElem? (i := 1531) (by decide +kernel)
theorem wd_1533 : (Jvm.Cond.instanceMethod ({ cls := "StreamPairModel", name := "finished", desc := "(I)V" } : Jvm.MethodName)) ∈ lw_tbl := List.mem_of_getElem? (i := 1533) (by decide +kernel)
theorem wd_1534 : (Jvm.Cond.code ({ cls := "StreamPairModel", name := "finished", desc := "(I)V" } : Jvm.MethodName) prog_12_method_23_code (2 : Nat) (Option.none : Option Jvm.ClassFile.FieldType)) ∈ lw_tbl := List.mem_of_getElem? (i := 1534) (by decide +kernel)
theorem wd_1535 : (Jvm.Cond.methodLink "StreamPairLaw" (109 : Nat) ({ cls := "StreamPairModel", name := "abort", desc := "(I)I" } : Jvm.MethodName)) ∈ lw_tbl := List.mem_of_getElem? (i := 1535) (by decide +kernel)
theorem wd_1536 : (Jvm.Cond.instanceMethod ({ cls := "StreamPairModel", name := "abort", desc := "(I)I" } : Jvm.MethodName)) ∈ lw_tbl := List.mem_of_getElem? (i := 1536) (by decide +kernel)
theorem wd_1537 : (Jvm.Cond.selects "StreamPairModel" ({ cls := "StreamPairModel", name := "abort", desc := "(I)I" } : Jvm.MethodName) ({ cls := "StreamPairModel", name := "abort", desc := "(I)I" } : Jvm.MethodName)) ∈ lw_tbl := List.mem_of_getElem? (i := 1537) (by decide +kernel)
theorem wd_1538 : (Jvm.Cond.code ({ cls := "StreamPairModel", name := "abort", desc := "(I)I" } : Jvm.MethodName) prog_12_method_52_code (3 : Nat) (Option.some Jvm.ClassFile.FieldType.int)) ∈ lw_tbl := List.mem_of_getElem? (i := 1538) (by decide +kernel)
theorem wd_1539 : (Jvm.Cond.methodLink "StreamPairModel" (218 : Nat) ({ cls := "StreamPairModel", name := "broken", desc := "(II)V" } : Jvm.MethodName)) ∈ lw_tbl := List.mem_of_getElem? (i := 1539) (by decide +kernel)
theorem wd_1541 : (Jvm.Cond.instanceMethod ({ cls := "StreamPairModel", name := "broken", desc := "(II)V" } : Jvm.MethodName)) ∈ lw_tbl := List.mem_of_getElem? (i := 1541) (by decide +kernel)
theorem wd_1542 : (Jvm.Cond.code ({ cls := "StreamPairModel", name := "broken", desc := "(II)V" } : Jvm.MethodName) prog_12_method_24_code (3 : Nat) (Option.none : Option Jvm.ClassFile.FieldType)) ∈ lw_tbl := List.mem_of_getElem? (i := 1542) (by decide +kernel)
theorem wd_1543 : (Jvm.Cond.methodLink "StreamPairLaw" (112 : Nat) ({ cls := "StreamPairModel", name := "tick", desc := "(I)J" } : Jvm.MethodName)) ∈ lw_tbl := List.mem_of_getElem? (i := 1543) (by decide +kernel)
theorem wd_1544 : (Jvm.Cond.instanceMethod ({ cls := "StreamPairModel", name := "tick", desc := "(I)J" } : Jvm.MethodName)) ∈ lw_tbl := List.mem_of_getElem? (i := 1544) (by decide +kernel)
theorem wd_1545 : (Jvm.Cond.selects "StreamPairModel" ({ cls := "StreamPairModel", name := "tick", desc := "(I)J" } : Jvm.MethodName) ({ cls := "StreamPairModel", name := "tick", desc := "(I)J" } : Jvm.MethodName)) ∈ lw_tbl := List.mem_of_getElem? (i := 1545) (by decide +kernel)
theorem wd_1546 : (Jvm.Cond.code ({ cls := "StreamPairModel", name := "tick", desc := "(I)J" } : Jvm.MethodName) prog_12_method_53_code (6 : Nat) (Option.some Jvm.ClassFile.FieldType.long)) ∈ lw_tbl := List.mem_of_getElem? (i := 1546) (by decide +kernel)
theorem wd_1547 : (Jvm.Cond.constant "StreamPairModel" (298 : Nat) (1000000 : Int32)) ∈ lw_tbl := List.mem_of_getElem? (i := 1547) (by decide +kernel)
theorem wd_1548 : (Jvm.Cond.methodLink "StreamPairModel" (341 : Nat) ({ cls := "StreamPairModel", name := "timer", desc := "(I)V" } : Jvm.MethodName)) ∈ lw_tbl := List.mem_of_getElem? (i := 1548) (by decide +kernel)
theorem wd_1550 : (Jvm.Cond.instanceMethod ({ cls := "StreamPairModel", name := "timer", desc := "(I)V" } : Jvm.MethodName)) ∈ lw_tbl := List.mem_of_getElem? (i := 1550) (by decide +kernel)
theorem wd_1551 : (Jvm.Cond.code ({ cls := "StreamPairModel", name := "timer", desc := "(I)V" } : Jvm.MethodName) prog_12_method_26_code (2 : Nat) (Option.none : Option Jvm.ClassFile.FieldType)) ∈ lw_tbl := List.mem_of_getElem? (i := 1551) (by decide +kernel)
theorem wd_1552 : (Jvm.Cond.constant "StreamPairModel" (222 : Nat) (60000 : Int32)) ∈ lw_tbl := List.mem_of_getElem? (i := 1552) (by decide +kernel)
theorem wd_1553 : (Jvm.Cond.methodLink "StreamPairModel" (223 : Nat) ({ cls := "StreamPairModel", name := "least", desc := "(I)I" } : Jvm.MethodName)) ∈ lw_tbl := List.mem_of_getElem? (i := 1553) (by decide +kernel)
theorem wd_1555 : (Jvm.Cond.instanceMethod ({ cls := "StreamPairModel", name := "least", desc := "(I)I" } : Jvm.MethodName)) ∈ lw_tbl := List.mem_of_getElem? (i := 1555) (by decide +kernel)
theorem wd_1556 : (Jvm.Cond.code ({ cls := "StreamPairModel", name := "least", desc := "(I)I" } : Jvm.MethodName) prog_12_method_25_code (3 : Nat) (Option.some Jvm.ClassFile.FieldType.int)) ∈ lw_tbl := List.mem_of_getElem? (i := 1556) (by decide +kernel)
theorem wd_1557 : (Jvm.Cond.methodLink "StreamPairLaw" (115 : Nat) ({ cls := "StreamPairModel", name := "deliver", desc := "(I)I" } : Jvm.MethodName)) ∈ lw_tbl := List.mem_of_getElem? (i := 1557) (by decide +kernel)
theorem wd_1558 : (Jvm.Cond.instanceMethod ({ cls := "StreamPairModel", name := "deliver", desc := "(I)I" } : Jvm.MethodName)) ∈ lw_tbl := List.mem_of_getElem? (i := 1558) (by decide +kernel)
theorem wd_1559 : (Jvm.Cond.selects "StreamPairModel" ({ cls := "StreamPairModel", name := "deliver", desc := "(I)I" } : Jvm.MethodName) ({ cls := "StreamPairModel", name := "deliver", desc := "(I)I" } : Jvm.MethodName)) ∈ lw_tbl := List.mem_of_getElem? (i := 1559) (by decide +kernel)
theorem wd_1560 : (Jvm.Cond.code ({ cls := "StreamPairModel", name := "deliver", desc := "(I)I" } : Jvm.MethodName) prog_12_method_55_code (3 : Nat) (Option.some Jvm.ClassFile.FieldType.int)) ∈ lw_tbl := List.mem_of_getElem? (i := 1560) (by decide +kernel)
theorem wd_1561 : (Jvm.Cond.methodLink "StreamPairModel" (344 : Nat) ({ cls := "StreamPairModel", name := "noWay", desc := "(I)Z" } : Jvm.MethodName)) ∈ lw_tbl := List.mem_of_getElem? (i := 1561) (by decide +kernel)
theorem wd_1563 : (Jvm.Cond.instanceMethod ({ cls := "StreamPairModel", name := "noWay", desc := "(I)Z" } : Jvm.MethodName)) ∈ lw_tbl := List.mem_of_getElem? (i := 1563) (by decide +kernel)
theorem wd_1564 : (Jvm.Cond.code ({ cls := "StreamPairModel", name := "noWay", desc := "(I)Z" } : Jvm.MethodName) prog_12_method_54_code (2 : Nat) (Option.some Jvm.ClassFile.FieldType.boolean)) ∈ lw_tbl := List.mem_of_getElem? (i := 1564) (by decide +kernel)
theorem wd_1565 : (Jvm.Cond.methodLink "StreamPairModel" (347 : Nat) ({ cls := "StreamPairModel", name := "comes", desc := "(II)V" } : Jvm.MethodName)) ∈ lw_tbl := List.mem_of_getElem? (i := 1565) (by decide +kernel)
theorem wd_1567 : (Jvm.Cond.instanceMethod ({ cls := "StreamPairModel", name := "comes", desc := "(II)V" } : Jvm.MethodName)) ∈ lw_tbl := List.mem_of_getElem? (i := 1567) (by decide +kernel)
theorem wd_1568 : (Jvm.Cond.code ({ cls := "StreamPairModel", name := "comes", desc := "(II)V" } : Jvm.MethodName) prog_12_method_42_code (4 : Nat) (Option.none : Option Jvm.ClassFile.FieldType)) ∈ lw_tbl := List.mem_of_getElem? (i := 1568) (by decide +kernel)
theorem wd_1569 : (Jvm.Cond.methodLink "StreamPairModel" (305 : Nat) ({ cls := "StreamPairModel", name := "header", desc := "(II)Z" } : Jvm.MethodName)) ∈ lw_tbl := List.mem_of_getElem? (i := 1569) (by decide +kernel)
theorem wd_1571 : (Jvm.Cond.instanceMethod ({ cls := "StreamPairModel", name := "header", desc := "(II)Z" } : Jvm.MethodName)) ∈ lw_tbl := List.mem_of_getElem? (i := 1571) (by decide +kernel)
theorem wd_1572 : (Jvm.Cond.code ({ cls := "StreamPairModel", name := "header", desc := "(II)Z" } : Jvm.MethodName) prog_12_method_29_code (4 : Nat) (Option.some Jvm.ClassFile.FieldType.boolean)) ∈ lw_tbl := List.mem_of_getElem? (i := 1572) (by decide +kernel)
theorem wd_1573 : (Jvm.Cond.methodLink "StreamPairModel" (257 : Nat) ({ cls := "StreamPairModel", name := "sound", desc := "(I)Z" } : Jvm.MethodName)) ∈ lw_tbl := List.mem_of_getElem? (i := 1573) (by decide +kernel)
theorem wd_1575 : (Jvm.Cond.instanceMethod ({ cls := "StreamPairModel", name := "sound", desc := "(I)Z" } : Jvm.MethodName)) ∈ lw_tbl := List.mem_of_getElem? (i := 1575) (by decide +kernel)
theorem wd_1576 : (Jvm.Cond.code ({ cls := "StreamPairModel", name := "sound", desc := "(I)Z" } : Jvm.MethodName) prog_12_method_13_code (3 : Nat) (Option.some Jvm.ClassFile.FieldType.boolean)) ∈ lw_tbl := List.mem_of_getElem? (i := 1576) (by decide +kernel)
theorem wd_1577 : (Jvm.Cond.methodLink "StreamPairModel" (158 : Nat) ({ cls := "StreamPairModel", name := "two", desc := "(II)I" } : Jvm.MethodName)) ∈ lw_tbl := List.mem_of_getElem? (i := 1577) (by decide +kernel)
theorem wd_1579 : (Jvm.Cond.instanceMethod ({ cls := "StreamPairModel", name := "two", desc := "(II)I" } : Jvm.MethodName)) ∈ lw_tbl := List.mem_of_getElem? (i := 1579) (by decide +kernel)
theorem wd_1580 : (Jvm.Cond.code ({ cls := "StreamPairModel", name := "two", desc := "(II)I" } : Jvm.MethodName) prog_12_method_9_code (3 : Nat) (Option.some Jvm.ClassFile.FieldType.int)) ∈ lw_tbl := List.mem_of_getElem? (i := 1580) (by decide +kernel)
theorem wd_1581 : (Jvm.Cond.methodLink "StreamPairModel" (260 : Nat) ({ cls := "StreamPairModel", name := "four", desc := "(II)I" } : Jvm.MethodName)) ∈ lw_tbl := List.mem_of_getElem? (i := 1581) (by decide +kernel)
theorem wd_1583 : (Jvm.Cond.instanceMethod ({ cls := "StreamPairModel", name := "four", desc := "(II)I" } : Jvm.MethodName)) ∈ lw_tbl := List.mem_of_getElem? (i := 1583) (by decide +kernel)
theorem wd_1584 : (Jvm.Cond.code ({ cls := "StreamPairModel", name := "four", desc := "(II)I" } : Jvm.MethodName) prog_12_method_10_code (3 : Nat) (Option.some Jvm.ClassFile.FieldType.int)) ∈ lw_tbl := List.mem_of_getElem? (i := 1584) (by decide +kernel)
theorem wd_1585 : (Jvm.Cond.methodLink "StreamPairModel" (272 : Nat) ({ cls := "StreamPairModel", name := "options", desc := "(II)V" } : Jvm.MethodName)) ∈ lw_tbl := List.mem_of_getElem? (i := 1585) (by decide +kernel)
theorem wd_1587 : (Jvm.Cond.instanceMethod ({ cls := "StreamPairModel", name := "options", desc := "(II)V" } : Jvm.MethodName)) ∈ lw_tbl := List.mem_of_getElem? (i := 1587) (by decide +kernel)
theorem wd_1588 : (Jvm.Cond.code ({ cls := "StreamPairModel", name := "options", desc := "(II)V" } : Jvm.MethodName) prog_12_method_30_code (7 : Nat) (Option.none : Option Jvm.ClassFile.FieldType)) ∈ lw_tbl := List.mem_of_getElem? (i := 1588) (by decide +kernel)
theorem wd_1589 : (Jvm.Cond.methodLink "StreamPairModel" (278 : Nat) ({ cls := "StreamPairModel", name := "answer", desc := "(I)V" } : Jvm.MethodName)) ∈ lw_tbl := List.mem_of_getElem? (i := 1589) (by decide +kernel)
theorem wd_1591 : (Jvm.Cond.instanceMethod ({ cls := "StreamPairModel", name := "answer", desc := "(I)V" } : Jvm.MethodName)) ∈ lw_tbl := List.mem_of_getElem? (i := 1591) (by decide +kernel)
theorem wd_1592 : (Jvm.Cond.code ({ cls := "StreamPairModel", name := "answer", desc := "(I)V" } : Jvm.MethodName) prog_12_method_28_code (5 : Nat) (Option.none : Option Jvm.ClassFile.FieldType)) ∈ lw_tbl := List.mem_of_getElem? (i := 1592) (by decide +kernel)
theorem wd_1593 : (Jvm.Cond.methodLink "StreamPairModel" (308 : Nat) ({ cls := "StreamPairModel", name := "listened", desc := "(I)V" } : Jvm.MethodName)) ∈ lw_tbl := List.mem_of_getElem? (i := 1593) (by decide +kernel)
theorem wd_1595 : (Jvm.Cond.instanceMethod ({ cls := "StreamPairModel", name := "listened", desc := "(I)V" } : Jvm.MethodName)) ∈ lw_tbl := List.mem_of_getElem? (i := 1595) (by decide +kernel)
theorem wd_1596 : (Jvm.Cond.code ({ cls := "StreamPairModel", name := "listened", desc := "(I)V" } : Jvm.MethodName) prog_12_method_33_code (2 : Nat) (Option.none : Option Jvm.ClassFile.FieldType)) ∈ lw_tbl := List.mem_of_getElem? (i := 1596) (by decide +kernel)
theorem wd_1597 : (Jvm.Cond.methodLink "StreamPairModel" (281 : Nat) ({ cls := "StreamPairModel", name := "known", desc := "(I)V" } : Jvm.MethodName)) ∈ lw_tbl := List.mem_of_getElem? (i := 1597) (by decide +kernel)
theorem wd_1599 : (Jvm.Cond.instanceMethod ({ cls := "StreamPairModel", name := "known", desc := "(I)V" } : Jvm.MethodName)) ∈ lw_tbl := List.mem_of_getElem? (i := 1599) (by decide +kernel)
theorem wd_1600 : (Jvm.Cond.code ({ cls := "StreamPairModel", name := "known", desc := "(I)V" } : Jvm.MethodName) prog_12_method_32_code (3 : Nat) (Option.none : Option Jvm.ClassFile.FieldType)) ∈ lw_tbl := List.mem_of_getElem? (i := 1600) (by decide +kernel)
theorem wd_1601 : (Jvm.Cond.methodLink "StreamPairModel" (275 : Nat) ({ cls := "StreamPairModel", name := "follow", desc := "(I)V" } : Jvm.MethodName)) ∈ lw_tbl := List.mem_of_getElem? (i := 1601) (by decide +kernel)
theorem wd_1603 : (Jvm.Cond.instanceMethod ({ cls := "StreamPairModel", name := "follow", desc := "(I)V" } : Jvm.MethodName)) ∈ lw_tbl := List.mem_of_getElem? (i := 1603) (by decide +kernel)
theorem wd_1604 : (Jvm.Cond.code ({ cls := "StreamPairModel", name := "follow", desc := "(I)V" } : Jvm.MethodName) prog_12_method_31_code (2 : Nat) (Option.none : Option Jvm.ClassFile.FieldType)) ∈ lw_tbl := List.mem_of_getElem? (i := 1604) (by decide +kernel)
theorem wd_1605 : (Jvm.Cond.methodLink "StreamPairModel" (311 : Nat) ({ cls := "StreamPairModel", name := "called", desc := "(I)V" } : Jvm.MethodName)) ∈ lw_tbl := List.mem_of_getElem? (i := 1605) (by decide +kernel)
theorem wd_1607 : (Jvm.Cond.instanceMethod ({ cls := "StreamPairModel", name := "called", desc := "(I)V" } : Jvm.MethodName)) ∈ lw_tbl := List.mem_of_getElem? (i := 1607) (by decide +kernel)
theorem wd_1608 : (Jvm.Cond.code ({ cls := "StreamPairModel", name := "called", desc := "(I)V" } : Jvm.MethodName) prog_12_method_34_code (4 : Nat) (Option.none : Option Jvm.ClassFile.FieldType)) ∈ lw_tbl := List.mem_of_getElem? (i := 1608) (by decide +kernel)
theorem wd_1609 : (Jvm.Cond.methodLink "StreamPairModel" (284 : Nat) ({ cls := "StreamPairModel", name := "measured", desc := "(II)V" } : Jvm.MethodName)) ∈ lw_tbl := List.mem_of_getElem? (i := 1609) (by decide +kernel)
theorem wd_1611 : (Jvm.Cond.instanceMethod ({ cls := "StreamPairModel", name := "measured", desc := "(II)V" } : Jvm.MethodName)) ∈ lw_tbl := List.mem_of_getElem? (i := 1611) (by decide +kernel)
theorem wd_1612 : (Jvm.Cond.code ({ cls := "StreamPairModel", name := "measured", desc := "(II)V" } : Jvm.MethodName) prog_12_method_27_code (6 : Nat) (Option.none : Option Jvm.ClassFile.FieldType)) ∈ lw_tbl := List.mem_of_getElem? (i := 1612) (by decide +kernel)
theorem wd_1613 : (Jvm.Cond.constantLong "StreamPairModel" (230 : Nat) (3 : Int64)) ∈ lw_tbl := List.mem_of_getElem? (i := 1613) (by decide +kernel)
theorem wd_1614 : (Jvm.Cond.constantLong "StreamPairModel" (232 : Nat) (4 : Int64)) ∈ lw_tbl := List.mem_of_getElem? (i := 1614) (by decide +kernel)
theorem wd_1615 : (Jvm.Cond.constantLong "StreamPairModel" (234 : Nat) (7 : Int64)) ∈ lw_tbl := List.mem_of_getElem? (i := 1615) (by decide +kernel)
theorem wd_1616 : (Jvm.Cond.constantLong "StreamPairModel" (236 : Nat) (8 : Int64)) ∈ lw_tbl := List.mem_of_getElem? (i := 1616) (by decide +kernel)
theorem wd_1617 : (Jvm.Cond.constantLong "StreamPairModel" (238 : Nat) (200 : Int64)) ∈ lw_tbl := List.mem_of_getElem? (i := 1617) (by decide +kernel)
theorem wd_1618 : (Jvm.Cond.constantLong "StreamPairModel" (240 : Nat) (60000 : Int64)) ∈ lw_tbl := List.mem_of_getElem? (i := 1618) (by decide +kernel)
theorem wd_1619 : (Jvm.Cond.methodLink "StreamPairModel" (314 : Nat) ({ cls := "StreamPairModel", name := "admitted", desc := "(I)Z" } : Jvm.MethodName)) ∈ lw_tbl := List.mem_of_getElem? (i := 1619) (by decide +kernel)
theorem wd_1621 : (Jvm.Cond.instanceMethod ({ cls := "StreamPairModel", name := "admitted", desc := "(I)Z" } : Jvm.MethodName)) ∈ lw_tbl := List.mem_of_getElem? (i := 1621) (by decide +kernel)
theorem wd_1622 : (Jvm.Cond.code ({ cls := "StreamPairModel", name := "admitted", desc := "(I)Z" } : Jvm.MethodName) prog_12_method_37_code (3 : Nat) (Option.some Jvm.ClassFile.FieldType.boolean)) ∈ lw_tbl := List.mem_of_getElem? (i := 1622) (by decide +kernel)
theorem wd_1623 : (Jvm.Cond.methodLink "StreamPairModel" (293 : Nat) ({ cls := "StreamPairModel", name := "fits", desc := "(I)Z" } : Jvm.MethodName)) ∈ lw_tbl := List.mem_of_getElem? (i := 1623) (by decide +kernel)
theorem wd_1625 : (Jvm.Cond.instanceMethod ({ cls := "StreamPairModel", name := "fits", desc := "(I)Z" } : Jvm.MethodName)) ∈ lw_tbl := List.mem_of_getElem? (i := 1625) (by decide +kernel)
theorem wd_1626 : (Jvm.Cond.code ({ cls := "StreamPairModel", name := "fits", desc := "(I)Z" } : Jvm.MethodName) prog_12_method_36_code (3 : Nat) (Option.some Jvm.ClassFile.FieldType.boolean)) ∈ lw_tbl := List.mem_of_getElem? (i := 1626) (by decide +kernel)
theorem wd_1627 : (Jvm.Cond.methodLink "StreamPairModel" (290 : Nat) ({ cls := "StreamPairModel", name := "inside", desc := "(II)Z" } : Jvm.MethodName)) ∈ lw_tbl := List.mem_of_getElem? (i := 1627) (by decide +kernel)
theorem wd_1629 : (Jvm.Cond.instanceMethod ({ cls := "StreamPairModel", name := "inside", desc := "(II)Z" } : Jvm.MethodName)) ∈ lw_tbl := List.mem_of_getElem? (i := 1629) (by decide +kernel)
theorem wd_1630 : (Jvm.Cond.code ({ cls := "StreamPairModel", name := "inside", desc := "(II)Z" } : Jvm.MethodName) prog_12_method_35_code (3 : Nat) (Option.some Jvm.ClassFile.FieldType.boolean)) ∈ lw_tbl := List.mem_of_getElem? (i := 1630) (by decide +kernel)
theorem wd_1631 : (Jvm.Cond.constantLong "StreamPairModel" (296 : Nat) (4000 : Int64)) ∈ lw_tbl := List.mem_of_getElem? (i := 1631) (by decide +kernel)
theorem wd_1632 : (Jvm.Cond.methodLink "StreamPairModel" (317 : Nat) ({ cls := "StreamPairModel", name := "acknowledged", desc := "(I)Z" } : Jvm.MethodName)) ∈ lw_tbl := List.mem_of_getElem? (i := 1632) (by decide +kernel)
theorem wd_1634 : (Jvm.Cond.instanceMethod ({ cls := "StreamPairModel", name := "acknowledged", desc := "(I)Z" } : Jvm.MethodName)) ∈ lw_tbl := List.mem_of_getElem? (i := 1634) (by decide +kernel)
theorem wd_1635 : (Jvm.Cond.code ({ cls := "StreamPairModel", name := "acknowledged", desc := "(I)Z" } : Jvm.MethodName) prog_12_method_40_code (2 : Nat) (Option.some Jvm.ClassFile.FieldType.boolean)) ∈ lw_tbl := List.mem_of_getElem? (i := 1635) (by decide +kernel)
theorem wd_1636 : (Jvm.Cond.methodLink "StreamPairModel" (299 : Nat) ({ cls := "StreamPairModel", name := "grown", desc := "(I)V" } : Jvm.MethodName)) ∈ lw_tbl := List.mem_of_getElem? (i := 1636) (by decide +kernel)
theorem wd_1638 : (Jvm.Cond.instanceMethod ({ cls := "StreamPairModel", name := "grown", desc := "(I)V" } : Jvm.MethodName)) ∈ lw_tbl := List.mem_of_getElem? (i := 1638) (by decide +kernel)
theorem wd_1639 : (Jvm.Cond.code ({ cls := "StreamPairModel", name := "grown", desc := "(I)V" } : Jvm.MethodName) prog_12_method_38_code (4 : Nat) (Option.none : Option Jvm.ClassFile.FieldType)) ∈ lw_tbl := List.mem_of_getElem? (i := 1639) (by decide +kernel)
theorem wd_1640 : (Jvm.Cond.methodLink "StreamPairModel" (302 : Nat) ({ cls := "StreamPairModel", name := "again", desc := "(I)V" } : Jvm.MethodName)) ∈ lw_tbl := List.mem_of_getElem? (i := 1640) (by decide +kernel)
theorem wd_1642 : (Jvm.Cond.instanceMethod ({ cls := "StreamPairModel", name := "again", desc := "(I)V" } : Jvm.MethodName)) ∈ lw_tbl := List.mem_of_getElem? (i := 1642) (by decide +kernel)
theorem wd_1643 : (Jvm.Cond.code ({ cls := "StreamPairModel", name := "again", desc := "(I)V" } : Jvm.MethodName) prog_12_method_39_code (5 : Nat) (Option.none : Option Jvm.ClassFile.FieldType)) ∈ lw_tbl := List.mem_of_getElem? (i := 1643) (by decide +kernel)
theorem wd_1644 : (Jvm.Cond.methodLink "StreamPairModel" (320 : Nat) ({ cls := "StreamPairModel", name := "received", desc := "(I)V" } : Jvm.MethodName)) ∈ lw_tbl := List.mem_of_getElem? (i := 1644) (by decide +kernel)
theorem wd_1646 : (Jvm.Cond.instanceMethod ({ cls := "StreamPairModel", name := "received", desc := "(I)V" } : Jvm.MethodName)) ∈ lw_tbl := List.mem_of_getElem? (i := 1646) (by decide +kernel)
theorem wd_1647 : (Jvm.Cond.code ({ cls := "StreamPairModel", name := "received", desc := "(I)V" } : Jvm.MethodName) prog_12_method_41_code (4 : Nat) (Option.none : Option Jvm.ClassFile.FieldType)) ∈ lw_tbl := List.mem_of_getElem? (i := 1647) (by decide +kernel)
theorem wd_1648 : (Jvm.Cond.methodLink "StreamPairLaw" (118 : Nat) ({ cls := "StreamPairModel", name := "drop", desc := "(I)I" } : Jvm.MethodName)) ∈ lw_tbl := List.mem_of_getElem? (i := 1648) (by decide +kernel)
theorem wd_1649 : (Jvm.Cond.instanceMethod ({ cls := "StreamPairModel", name := "drop", desc := "(I)I" } : Jvm.MethodName)) ∈ lw_tbl := List.mem_of_getElem? (i := 1649) (by decide +kernel)
theorem wd_1650 : (Jvm.Cond.selects "StreamPairModel" ({ cls := "StreamPairModel", name := "drop", desc := "(I)I" } : Jvm.MethodName) ({ cls := "StreamPairModel", name := "drop", desc := "(I)I" } : Jvm.MethodName)) ∈ lw_tbl := List.mem_of_getElem? (i := 1650) (by decide +kernel)
theorem wd_1651 : (Jvm.Cond.code ({ cls := "StreamPairModel", name := "drop", desc := "(I)I" } : Jvm.MethodName) prog_12_method_56_code (2 : Nat) (Option.some Jvm.ClassFile.FieldType.int)) ∈ lw_tbl := List.mem_of_getElem? (i := 1651) (by decide +kernel)
theorem wd_1652 : (Jvm.Cond.methodLink "StreamPairLaw" (121 : Nat) ({ cls := "StreamPairModel", name := "copy", desc := "(I)I" } : Jvm.MethodName)) ∈ lw_tbl := List.mem_of_getElem? (i := 1652) (by decide +kernel)
theorem wd_1653 : (Jvm.Cond.instanceMethod ({ cls := "StreamPairModel", name := "copy", desc := "(I)I" } : Jvm.MethodName)) ∈ lw_tbl := List.mem_of_getElem? (i := 1653) (by decide +kernel)
theorem wd_1654 : (Jvm.Cond.selects "StreamPairModel" ({ cls := "StreamPairModel", name := "copy", desc := "(I)I" } : Jvm.MethodName) ({ cls := "StreamPairModel", name := "copy", desc := "(I)I" } : Jvm.MethodName)) ∈ lw_tbl := List.mem_of_getElem? (i := 1654) (by decide +kernel)
theorem wd_1655 : (Jvm.Cond.code ({ cls := "StreamPairModel", name := "copy", desc := "(I)I" } : Jvm.MethodName) prog_12_method_57_code (5 : Nat) (Option.some Jvm.ClassFile.FieldType.int)) ∈ lw_tbl := List.mem_of_getElem? (i := 1655) (by decide +kernel)
theorem wd_1656 : (Jvm.Cond.methodLink "StreamPairLaw" (125 : Nat) ({ cls := "StreamPairModel", name := "flip", desc := "(IIIZ)I" } : Jvm.MethodName)) ∈ lw_tbl := List.mem_of_getElem? (i := 1656) (by decide +kernel)
theorem wd_1657 : (Jvm.Cond.instanceMethod ({ cls := "StreamPairModel", name := "flip", desc := "(IIIZ)I" } : Jvm.MethodName)) ∈ lw_tbl := List.mem_of_getElem? (i := 1657) (by decide +kernel)
theorem wd_1658 : (Jvm.Cond.selects "StreamPairModel" ({ cls := "StreamPairModel", name := "flip", desc := "(IIIZ)I" } : Jvm.MethodName) ({ cls := "StreamPairModel", name := "flip", desc := "(IIIZ)I" } : Jvm.MethodName)) ∈ lw_tbl := List.mem_of_getElem? (i := 1658) (by decide +kernel)
theorem wd_1659 : (Jvm.Cond.code ({ cls := "StreamPairModel", name := "flip", desc := "(IIIZ)I" } : Jvm.MethodName) prog_12_method_58_code (6 : Nat) (Option.some Jvm.ClassFile.FieldType.int)) ∈ lw_tbl := List.mem_of_getElem? (i := 1659) (by decide +kernel)
theorem wd_1660 : (Jvm.Cond.methodLink "StreamPairLaw" (128 : Nat) ({ cls := "StreamPairModel", name := "inject", desc := "(I)I" } : Jvm.MethodName)) ∈ lw_tbl := List.mem_of_getElem? (i := 1660) (by decide +kernel)
theorem wd_1661 : (Jvm.Cond.instanceMethod ({ cls := "StreamPairModel", name := "inject", desc := "(I)I" } : Jvm.MethodName)) ∈ lw_tbl := List.mem_of_getElem? (i := 1661) (by decide +kernel)
theorem wd_1662 : (Jvm.Cond.selects "StreamPairModel" ({ cls := "StreamPairModel", name := "inject", desc := "(I)I" } : Jvm.MethodName) ({ cls := "StreamPairModel", name := "inject", desc := "(I)I" } : Jvm.MethodName)) ∈ lw_tbl := List.mem_of_getElem? (i := 1662) (by decide +kernel)
theorem wd_1663 : (Jvm.Cond.code ({ cls := "StreamPairModel", name := "inject", desc := "(I)I" } : Jvm.MethodName) prog_12_method_59_code (4 : Nat) (Option.some Jvm.ClassFile.FieldType.int)) ∈ lw_tbl := List.mem_of_getElem? (i := 1663) (by decide +kernel)
theorem wd_1664 : (Jvm.Cond.methodLink "StreamPairLaw" (131 : Nat) ({ cls := "StreamPairModel", name := "seen", desc := "(II)I" } : Jvm.MethodName)) ∈ lw_tbl := List.mem_of_getElem? (i := 1664) (by decide +kernel)
theorem wd_1665 : (Jvm.Cond.instanceMethod ({ cls := "StreamPairModel", name := "seen", desc := "(II)I" } : Jvm.MethodName)) ∈ lw_tbl := List.mem_of_getElem? (i := 1665) (by decide +kernel)
theorem wd_1666 : (Jvm.Cond.selects "StreamPairModel" ({ cls := "StreamPairModel", name := "seen", desc := "(II)I" } : Jvm.MethodName) ({ cls := "StreamPairModel", name := "seen", desc := "(II)I" } : Jvm.MethodName)) ∈ lw_tbl := List.mem_of_getElem? (i := 1666) (by decide +kernel)
theorem wd_1667 : (Jvm.Cond.code ({ cls := "StreamPairModel", name := "seen", desc := "(II)I" } : Jvm.MethodName) prog_12_method_60_code (4 : Nat) (Option.some Jvm.ClassFile.FieldType.int)) ∈ lw_tbl := List.mem_of_getElem? (i := 1667) (by decide +kernel)
theorem wd_1668 : (Jvm.Cond.methodLink "StreamPairLaw" (134 : Nat) ({ cls := "StreamPairModel", name := "about", desc := "(II)I" } : Jvm.MethodName)) ∈ lw_tbl := List.mem_of_getElem? (i := 1668) (by decide +kernel)
theorem wd_1669 : (Jvm.Cond.instanceMethod ({ cls := "StreamPairModel", name := "about", desc := "(II)I" } : Jvm.MethodName)) ∈ lw_tbl := List.mem_of_getElem? (i := 1669) (by decide +kernel)
theorem wd_1670 : (Jvm.Cond.selects "StreamPairModel" ({ cls := "StreamPairModel", name := "about", desc := "(II)I" } : Jvm.MethodName) ({ cls := "StreamPairModel", name := "about", desc := "(II)I" } : Jvm.MethodName)) ∈ lw_tbl := List.mem_of_getElem? (i := 1670) (by decide +kernel)
theorem wd_1671 : (Jvm.Cond.code ({ cls := "StreamPairModel", name := "about", desc := "(II)I" } : Jvm.MethodName) prog_12_method_63_code (3 : Nat) (Option.some Jvm.ClassFile.FieldType.int)) ∈ lw_tbl := List.mem_of_getElem? (i := 1671) (by decide +kernel)
theorem wd_1672 : (Jvm.Cond.methodLink "StreamPairModel" (350 : Nat) ({ cls := "StreamPairModel", name := "waiting", desc := "(I)I" } : Jvm.MethodName)) ∈ lw_tbl := List.mem_of_getElem? (i := 1672) (by decide +kernel)
theorem wd_1674 : (Jvm.Cond.instanceMethod ({ cls := "StreamPairModel", name := "waiting", desc := "(I)I" } : Jvm.MethodName)) ∈ lw_tbl := List.mem_of_getElem? (i := 1674) (by decide +kernel)
theorem wd_1675 : (Jvm.Cond.code ({ cls := "StreamPairModel", name := "waiting", desc := "(I)I" } : Jvm.MethodName) prog_12_method_61_code (3 : Nat) (Option.some Jvm.ClassFile.FieldType.int)) ∈ lw_tbl := List.mem_of_getElem? (i := 1675) (by decide +kernel)
theorem wd_1676 : (Jvm.Cond.methodLink "StreamPairModel" (353 : Nat) ({ cls := "StreamPairModel", name := "keptBytes", desc := "(I)I" } : Jvm.MethodName)) ∈ lw_tbl := List.mem_of_getElem? (i := 1676) (by decide +kernel)
theorem wd_1678 : (Jvm.Cond.instanceMethod ({ cls := "StreamPairModel", name := "keptBytes", desc := "(I)I" } : Jvm.MethodName)) ∈ lw_tbl := List.mem_of_getElem? (i := 1678) (by decide +kernel)
theorem wd_1679 : (Jvm.Cond.code ({ cls := "StreamPairModel", name := "keptBytes", desc := "(I)I" } : Jvm.MethodName) prog_12_method_62_code (4 : Nat) (Option.some Jvm.ClassFile.FieldType.int)) ∈ lw_tbl := List.mem_of_getElem? (i := 1679) (by decide +kernel)
theorem wd_1680 : (Jvm.Cond.methodLink "StreamPairLaw" (138 : Nat) ({ cls := "StreamPairModel", name := "count", desc := "(I)I" } : Jvm.MethodName)) ∈ lw_tbl := List.mem_of_getElem? (i := 1680) (by decide +kernel)
theorem wd_1681 : (Jvm.Cond.instanceMethod ({ cls := "StreamPairModel", name := "count", desc := "(I)I" } : Jvm.MethodName)) ∈ lw_tbl := List.mem_of_getElem? (i := 1681) (by decide +kernel)
theorem wd_1682 : (Jvm.Cond.selects "StreamPairModel" ({ cls := "StreamPairModel", name := "count", desc := "(I)I" } : Jvm.MethodName) ({ cls := "StreamPairModel", name := "count", desc := "(I)I" } : Jvm.MethodName)) ∈ lw_tbl := List.mem_of_getElem? (i := 1682) (by decide +kernel)
theorem wd_1683 : (Jvm.Cond.code ({ cls := "StreamPairModel", name := "count", desc := "(I)I" } : Jvm.MethodName) prog_12_method_64_code (2 : Nat) (Option.some Jvm.ClassFile.FieldType.int)) ∈ lw_tbl := List.mem_of_getElem? (i := 1683) (by decide +kernel)
theorem wd_1684 : (Jvm.Cond.constantLong "StreamPairModel" (356 : Nat) (2147483647 : Int64)) ∈ lw_tbl := List.mem_of_getElem? (i := 1684) (by decide +kernel)
theorem wd_1685 : (Jvm.Cond.sameMethod "java/lang/Throwable" "java/lang/Throwable" "fillInStackTrace" "(I)Ljava/lang/Throwable;") ∈ lw_tbl := List.mem_of_getElem? (i := 1685) (by decide +kernel)
theorem wd_1686 : (Jvm.Cond.castable "StreamPair$Segment" "StreamPair$Segment") ∈ lw_tbl := List.mem_of_getElem? (i := 1686) (by decide +kernel)
theorem wd_1687 : (Jvm.Cond.sameMethod "[Ljava/lang/Object;" "java/lang/Object" "getClass" "()Ljava/lang/Class;") ∈ lw_tbl := List.mem_of_getElem? (i := 1687) (by decide +kernel)
theorem wd_1688 : (Jvm.Cond.selects "[Ljava/lang/Object;" ({ cls := "java/lang/Object", name := "getClass", desc := "()Ljava/lang/Class;" } : Jvm.MethodName) ({ cls := "java/lang/Object", name := "getClass", desc := "()Ljava/lang/Class;" } : Jvm.MethodName)) ∈ lw_tbl := List.mem_of_getElem? (i := 1688) (by decide +kernel)
theorem wd_1689 : (Jvm.Cond.declares ({ cls := "java/lang/Object", name := "getClass", desc := "()Ljava/lang/Class;" } : Jvm.MethodName)) ∈ lw_tbl := List.mem_of_getElem? (i := 1689) (by decide +kernel)
theorem wd_1690 : (Jvm.Cond.castable "StreamPair" "java/lang/Object") ∈ lw_tbl := List.mem_of_getElem? (i := 1690) (by decide +kernel)
theorem wd_1691 : (Jvm.Cond.castable "StreamPair$Tape" "java/lang/Object") ∈ lw_tbl := List.mem_of_getElem? (i := 1691) (by decide +kernel)
theorem wd_1692 : (Jvm.Cond.castable "StreamPair$Clock" "java/lang/Object") ∈ lw_tbl := List.mem_of_getElem? (i := 1692) (by decide +kernel)
theorem wd_1693 : (Jvm.Cond.castable "StreamPair$Network" "java/lang/Object") ∈ lw_tbl := List.mem_of_getElem? (i := 1693) (by decide +kernel)
theorem wd_1694 : (Jvm.Cond.castable "StreamPair$End" "java/lang/Object") ∈ lw_tbl := List.mem_of_getElem? (i := 1694) (by decide +kernel)
theorem wd_1695 : (Jvm.Cond.castable "StreamPair$Supply" "java/lang/Object") ∈ lw_tbl := List.mem_of_getElem? (i := 1695) (by decide +kernel)
theorem wd_1696 : (Jvm.Cond.castable "StreamPair$Arrivals" "java/lang/Object") ∈ lw_tbl := List.mem_of_getElem? (i := 1696) (by decide +kernel)
theorem wd_1697 : (Jvm.Cond.castable "StreamPair$Pace" "java/lang/Object") ∈ lw_tbl := List.mem_of_getElem? (i := 1697) (by decide +kernel)
theorem wd_1698 : (Jvm.Cond.castable "StreamPair$Crowd" "java/lang/Object") ∈ lw_tbl := List.mem_of_getElem? (i := 1698) (by decide +kernel)
theorem wd_1699 : (Jvm.Cond.castable "StreamPairModel" "java/lang/Object") ∈ lw_tbl := List.mem_of_getElem? (i := 1699) (by decide +kernel)
theorem wd_1700 : (Jvm.Cond.castable "StreamPair$Segment" "java/lang/Object") ∈ lw_tbl := List.mem_of_getElem? (i := 1700) (by decide +kernel)
theorem wd_1701 : (Jvm.Cond.castable "java/lang/String" "java/lang/Object") ∈ lw_tbl := List.mem_of_getElem? (i := 1701) (by decide +kernel)
end
section
/-! the words that hold in every method, and the combinators of the decompiled methods -/
def gt : List Cond := lw_tbl.filter goodWord
theorem gi {w : Cond} (h : w ∈ lw_tbl) (hg : goodWord w = true) : w ∈ gt := List.mem_filter.mpr ⟨h, hg⟩
theorem gt_good {c0 : Cond} {y : MethodName} {b : ByteArray} {n : Nat} {r : Option FieldType} (h : Cond.code y b n r ∈ lw_tbl) : GoodIn (c0 :: gt) (Cond.code y b n r :: gt) := by
  intro w hw
  rcases List.mem_cons.mp hw with rfl | hw
  · exact ⟨List.mem_cons_of_mem _ (gi h rfl), Or.inl rfl⟩
  · exact ⟨List.mem_cons_of_mem _ hw, good_of_word (List.mem_filter.mp hw).2⟩
/-- a check that the walk needs: the method is only described where it holds -/
def gd {β : Type} (c : Prop) [Decidable c] (x : Option β) : Option β := if c then x else none
/-- a value gets a name -/
def bd {α β : Type} (v : α) (k : α → Option β) : Option β := k v
/-- a call -/
def bc {α β : Type} (c : Option α) (k : α → Option β) : Option β := match c with
  | none => none
  | some x => k x
/-- a loop, by fuel -/
def lp {α β : Type} (F : (α → Option β) → α → Option β) : Nat → α → Option β
  | 0, _ => none
  | n + 1, a => F (lp F n) a
def fuel : Nat := 10000000
theorem gd_s {β : Type} {c : Prop} [Decidable c] {x : Option β} {R : β} (h : gd c x = some R) : c ∧ x = some R := by
  unfold gd at h
  split at h
  · exact ⟨by assumption, h⟩
  · cases h
theorem bc_s {α β : Type} {c : Option α} {k : α → Option β} {R : β} (h : bc c k = some R) : ∃ x, c = some x ∧ k x = some R := by
  cases c with
  | none => cases h
  | some x => exact ⟨x, rfl, h⟩
theorem lp_s {α β : Type} {F : (α → Option β) → α → Option β} {P : α → β → Prop} (hF : ∀ rec : α → Option β, (∀ a R, rec a = some R → P a R) → ∀ a R, F rec a = some R → P a R) : ∀ (n : Nat) (a : α) (R : β), lp F n a = some R → P a R
  | 0, _, _, h => by cases h
  | n + 1, a, R, h => hF (lp F n) (lp_s hF n) a R h
abbrev inb (i : Int32) (n : Nat) : Prop := ¬ (i < 0 ∨ n ≤ i.toNatClampNeg)
end
section
/-! names of the classes (printed by gen_world.py) -/
def cn_M : String := "StreamPairModel"
def fd_M : u_T := fun k => match k with
  | 0 => ("StreamPairModel", "thrown", "I", false)
  | 1 => ("StreamPairModel", "tape", "[B", true)
  | 2 => ("StreamPairModel", "tapes", "I", false)
  | 3 => ("StreamPairModel", "time", "J", false)
  | 4 => ("StreamPairModel", "connections", "I", false)
  | 5 => ("StreamPairModel", "lost", "I", false)
  | 6 => ("StreamPairModel", "slots", "[B", true)
  | 7 => ("StreamPairModel", "lengths", "[I", true)
  | 8 => ("StreamPairModel", "goals", "[I", true)
  | 9 => ("StreamPairModel", "way", "[I", true)
  | 10 => ("StreamPairModel", "ways", "I", false)
  | 11 => ("StreamPairModel", "taken", "[Z", true)
  | 12 => ("StreamPairModel", "room", "[I", true)
  | 13 => ("StreamPairModel", "mss", "[I", true)
  | 14 => ("StreamPairModel", "state", "[I", true)
  | 15 => ("StreamPairModel", "iss", "[I", true)
  | 16 => ("StreamPairModel", "una", "[I", true)
  | 17 => ("StreamPairModel", "nxt", "[I", true)
  | 18 => ("StreamPairModel", "max", "[I", true)
  | 19 => ("StreamPairModel", "far", "[I", true)
  | 20 => ("StreamPairModel", "wl1", "[I", true)
  | 21 => ("StreamPairModel", "wl2", "[I", true)
  | 22 => ("StreamPairModel", "segment", "[I", true)
  | 23 => ("StreamPairModel", "rcv", "[I", true)
  | 24 => ("StreamPairModel", "edge", "[I", true)
  | 25 => ("StreamPairModel", "cwnd", "[I", true)
  | 26 => ("StreamPairModel", "thresh", "[I", true)
  | 27 => ("StreamPairModel", "same", "[I", true)
  | 28 => ("StreamPairModel", "rto", "[I", true)
  | 29 => ("StreamPairModel", "tries", "[I", true)
  | 30 => ("StreamPairModel", "srtt", "[I", true)
  | 31 => ("StreamPairModel", "var", "[I", true)
  | 32 => ("StreamPairModel", "timed", "[I", true)
  | 33 => ("StreamPairModel", "sent", "[I", true)
  | 34 => ("StreamPairModel", "dropped", "[I", true)
  | 35 => ("StreamPairModel", "fate", "[I", true)
  | 36 => ("StreamPairModel", "unread", "[I", true)
  | 37 => ("StreamPairModel", "given", "[I", true)
  | 38 => ("StreamPairModel", "due", "[J", true)
  | 39 => ("StreamPairModel", "timedAt", "[J", true)
  | 40 => ("StreamPairModel", "timing", "[Z", true)
  | 41 => ("StreamPairModel", "closed", "[Z", true)
  | 42 => ("StreamPairModel", "finTaken", "[Z", true)
  | 43 => ("StreamPairModel", "gift", "[B", true)
  | 44 => ("StreamPairModel", "ring", "[B", true)
  | 45 => ("StreamPairModel", "kept", "[Z", true)
  | 46 => ("StreamPairModel", "seq", "I", false)
  | 47 => ("StreamPairModel", "ack", "I", false)
  | 48 => ("StreamPairModel", "flags", "I", false)
  | 49 => ("StreamPairModel", "window", "I", false)
  | 50 => ("StreamPairModel", "dataAt", "I", false)
  | 51 => ("StreamPairModel", "dataSize", "I", false)
  | 52 => ("StreamPairModel", "slot", "I", false)
  | _ => ("StreamPairModel", "told", "I", false)
def ft_M : Nat → FieldType := fun k => match k with
  | 0 => .int
  | 1 => .array .byte
  | 2 => .int
  | 3 => .long
  | 4 => .int
  | 5 => .int
  | 6 => .array .byte
  | 7 => .array .int
  | 8 => .array .int
  | 9 => .array .int
  | 10 => .int
  | 11 => .array .boolean
  | 12 => .array .int
  | 13 => .array .int
  | 14 => .array .int
  | 15 => .array .int
  | 16 => .array .int
  | 17 => .array .int
  | 18 => .array .int
  | 19 => .array .int
  | 20 => .array .int
  | 21 => .array .int
  | 22 => .array .int
  | 23 => .array .int
  | 24 => .array .int
  | 25 => .array .int
  | 26 => .array .int
  | 27 => .array .int
  | 28 => .array .int
  | 29 => .array .int
  | 30 => .array .int
  | 31 => .array .int
  | 32 => .array .int
  | 33 => .array .int
  | 34 => .array .int
  | 35 => .array .int
  | 36 => .array .int
  | 37 => .array .int
  | 38 => .array .long
  | 39 => .array .long
  | 40 => .array .boolean
  | 41 => .array .boolean
  | 42 => .array .boolean
  | 43 => .array .byte
  | 44 => .array .byte
  | 45 => .array .boolean
  | 46 => .int
  | 47 => .int
  | 48 => .int
  | 49 => .int
  | 50 => .int
  | 51 => .int
  | 52 => .int
  | _ => .int
theorem fn_M : ∀ a, a < 54 → ∀ b, b < 54 → a ≠ b → (fd_M a).2.1 ≠ (fd_M b).2.1 := by decide +kernel
theorem fo_M : ∀ k, k < 54 → parseFieldDescriptor (fd_M k).2.2.1 = some (ft_M k) := by decide +kernel
theorem fi_M : ∀ w ∈ u_ws cn_M fd_M 54, w ∈ gt := by
  have h : u_ws cn_M fd_M 54 = [1306, 1308, 1310, 1312, 1314, 1316, 1318, 1320, 1322, 1324, 1326, 1328, 1330, 1332, 1334, 1336, 1338, 1340, 1342, 1344, 1346, 1348, 1350, 1352, 1354, 1356, 1358, 1360, 1362, 1364, 1366, 1368, 1370, 1372, 1374, 1376, 1378, 1380, 1382, 1384, 1386, 1388, 1390, 1392, 1394, 1396, 1398, 1400, 1402, 1404, 1406, 1408, 1410, 1412].filterMap (fun i => lw_tbl[i]?) ∧ (u_ws cn_M fd_M 54).all goodWord = true := by decide +kernel
  intro w hw
  have h2 := List.all_eq_true.mp h.2 w hw
  rw [h.1] at hw
  obtain ⟨i, -, hi⟩ := List.mem_filterMap.mp hw
  exact gi (List.mem_of_getElem? hi) h2
def cn_P : String := "StreamPair"
def fd_P : u_T := fun k => match k with
  | 0 => ("StreamPair", "tape", "LStreamPair$Tape;", true)
  | 1 => ("StreamPair", "clock", "LStreamPair$Clock;", true)
  | 2 => ("StreamPair", "network", "LStreamPair$Network;", true)
  | 3 => ("StreamPair", "opener", "LStreamPair$End;", true)
  | 4 => ("StreamPair", "waiter", "LStreamPair$End;", true)
  | _ => ("StreamPair", "connections", "I", false)
def ft_P : Nat → FieldType := fun k => match k with
  | 0 => .object "StreamPair$Tape"
  | 1 => .object "StreamPair$Clock"
  | 2 => .object "StreamPair$Network"
  | 3 => .object "StreamPair$End"
  | 4 => .object "StreamPair$End"
  | _ => .int
theorem fn_P : ∀ a, a < 6 → ∀ b, b < 6 → a ≠ b → (fd_P a).2.1 ≠ (fd_P b).2.1 := by decide +kernel
theorem fo_P : ∀ k, k < 6 → parseFieldDescriptor (fd_P k).2.2.1 = some (ft_P k) := by decide +kernel
theorem fi_P : ∀ w ∈ u_ws cn_P fd_P 6, w ∈ gt := by
  have h : u_ws cn_P fd_P 6 = [405, 407, 409, 411, 413, 415].filterMap (fun i => lw_tbl[i]?) ∧ (u_ws cn_P fd_P 6).all goodWord = true := by decide +kernel
  intro w hw
  have h2 := List.all_eq_true.mp h.2 w hw
  rw [h.1] at hw
  obtain ⟨i, -, hi⟩ := List.mem_filterMap.mp hw
  exact gi (List.mem_of_getElem? hi) h2
def cn_T : String := "StreamPair$Tape"
def fd_T : u_T := fun k => match k with
  | 0 => ("StreamPair$Tape", "bytes", "[B", false)
  | _ => ("StreamPair$Tape", "length", "I", false)
def ft_T : Nat → FieldType := fun k => match k with
  | 0 => .array .byte
  | _ => .int
theorem fn_T : ∀ a, a < 2 → ∀ b, b < 2 → a ≠ b → (fd_T a).2.1 ≠ (fd_T b).2.1 := by decide +kernel
theorem fo_T : ∀ k, k < 2 → parseFieldDescriptor (fd_T k).2.2.1 = some (ft_T k) := by decide +kernel
theorem fi_T : ∀ w ∈ u_ws cn_T fd_T 2, w ∈ gt := by
  have h : u_ws cn_T fd_T 2 = [124, 126].filterMap (fun i => lw_tbl[i]?) ∧ (u_ws cn_T fd_T 2).all goodWord = true := by decide +kernel
  intro w hw
  have h2 := List.all_eq_true.mp h.2 w hw
  rw [h.1] at hw
  obtain ⟨i, -, hi⟩ := List.mem_filterMap.mp hw
  exact gi (List.mem_of_getElem? hi) h2
def cn_C : String := "StreamPair$Clock"
def fd_C : u_T := fun k => match k with
  | _ => ("StreamPair$Clock", "time", "J", false)
def ft_C : Nat → FieldType := fun k => match k with
  | _ => .long
theorem fn_C : ∀ a, a < 1 → ∀ b, b < 1 → a ≠ b → (fd_C a).2.1 ≠ (fd_C b).2.1 := by decide +kernel
theorem fo_C : ∀ k, k < 1 → parseFieldDescriptor (fd_C k).2.2.1 = some (ft_C k) := by decide +kernel
theorem fi_C : ∀ w ∈ u_ws cn_C fd_C 1, w ∈ gt := by
  have h : u_ws cn_C fd_C 1 = [138].filterMap (fun i => lw_tbl[i]?) ∧ (u_ws cn_C fd_C 1).all goodWord = true := by decide +kernel
  intro w hw
  have h2 := List.all_eq_true.mp h.2 w hw
  rw [h.1] at hw
  obtain ⟨i, -, hi⟩ := List.mem_filterMap.mp hw
  exact gi (List.mem_of_getElem? hi) h2
def cn_N : String := "StreamPair$Network"
def fd_N : u_T := fun k => match k with
  | 0 => ("StreamPair$Network", "row", "Ljava/util/ArrayList;", true)
  | 1 => ("StreamPair$Network", "spare", "Ljava/util/ArrayList;", true)
  | _ => ("StreamPair$Network", "lost", "I", false)
def ft_N : Nat → FieldType := fun k => match k with
  | 0 => .object "java/util/ArrayList"
  | 1 => .object "java/util/ArrayList"
  | _ => .int
theorem fn_N : ∀ a, a < 3 → ∀ b, b < 3 → a ≠ b → (fd_N a).2.1 ≠ (fd_N b).2.1 := by decide +kernel
theorem fo_N : ∀ k, k < 3 → parseFieldDescriptor (fd_N k).2.2.1 = some (ft_N k) := by decide +kernel
theorem fi_N : ∀ w ∈ u_ws cn_N fd_N 3, w ∈ gt := by
  have h : u_ws cn_N fd_N 3 = [179, 181, 183].filterMap (fun i => lw_tbl[i]?) ∧ (u_ws cn_N fd_N 3).all goodWord = true := by decide +kernel
  intro w hw
  have h2 := List.all_eq_true.mp h.2 w hw
  rw [h.1] at hw
  obtain ⟨i, -, hi⟩ := List.mem_filterMap.mp hw
  exact gi (List.mem_of_getElem? hi) h2
def cn_A : String := "java/util/ArrayList"
def fd_A : u_T := fun k => match k with
  | 0 => ("java/util/ArrayList", "elementData", "[Ljava/lang/Object;", false)
  | 1 => ("java/util/ArrayList", "size", "I", false)
  | _ => ("java/util/AbstractList", "modCount", "I", false)
def ft_A : Nat → FieldType := fun k => match k with
  | 0 => .array (.object "java/lang/Object")
  | 1 => .int
  | _ => .int
theorem fn_A : ∀ a, a < 3 → ∀ b, b < 3 → a ≠ b → (fd_A a).2.1 ≠ (fd_A b).2.1 := by decide +kernel
theorem fo_A : ∀ k, k < 3 → parseFieldDescriptor (fd_A k).2.2.1 = some (ft_A k) := by decide +kernel
theorem fi_A : ∀ w ∈ u_ws cn_A fd_A 3, w ∈ gt := by
  have h : u_ws cn_A fd_A 3 = [166, 168, 170].filterMap (fun i => lw_tbl[i]?) ∧ (u_ws cn_A fd_A 3).all goodWord = true := by decide +kernel
  intro w hw
  have h2 := List.all_eq_true.mp h.2 w hw
  rw [h.1] at hw
  obtain ⟨i, -, hi⟩ := List.mem_filterMap.mp hw
  exact gi (List.mem_of_getElem? hi) h2
def cn_E : String := "StreamPair$End"
def fd_E : u_T := fun k => match k with
  | 0 => ("StreamPair$End", "index", "I", true)
  | 1 => ("StreamPair$End", "clock", "LStreamPair$Clock;", true)
  | 2 => ("StreamPair$End", "network", "LStreamPair$Network;", true)
  | 3 => ("StreamPair$End", "supply", "LStreamPair$Supply;", true)
  | 4 => ("StreamPair$End", "arrivals", "LStreamPair$Arrivals;", true)
  | 5 => ("StreamPair$End", "pace", "LStreamPair$Pace;", true)
  | 6 => ("StreamPair$End", "crowd", "LStreamPair$Crowd;", true)
  | 7 => ("StreamPair$End", "mss", "I", false)
  | 8 => ("StreamPair$End", "state", "I", false)
  | 9 => ("StreamPair$End", "ending", "I", false)
  | 10 => ("StreamPair$End", "sent", "I", false)
  | 11 => ("StreamPair$End", "refused", "I", false)
  | 12 => ("StreamPair$End", "port", "I", false)
  | _ => ("StreamPair$End", "otherPort", "I", false)
def ft_E : Nat → FieldType := fun k => match k with
  | 0 => .int
  | 1 => .object "StreamPair$Clock"
  | 2 => .object "StreamPair$Network"
  | 3 => .object "StreamPair$Supply"
  | 4 => .object "StreamPair$Arrivals"
  | 5 => .object "StreamPair$Pace"
  | 6 => .object "StreamPair$Crowd"
  | 7 => .int
  | 8 => .int
  | 9 => .int
  | 10 => .int
  | 11 => .int
  | 12 => .int
  | _ => .int
theorem fn_E : ∀ a, a < 14 → ∀ b, b < 14 → a ≠ b → (fd_E a).2.1 ≠ (fd_E b).2.1 := by decide +kernel
theorem fo_E : ∀ k, k < 14 → parseFieldDescriptor (fd_E k).2.2.1 = some (ft_E k) := by decide +kernel
theorem fi_E : ∀ w ∈ u_ws cn_E fd_E 14, w ∈ gt := by
  have h : u_ws cn_E fd_E 14 = [370, 372, 374, 376, 378, 380, 382, 384, 386, 388, 390, 392, 394, 396].filterMap (fun i => lw_tbl[i]?) ∧ (u_ws cn_E fd_E 14).all goodWord = true := by decide +kernel
  intro w hw
  have h2 := List.all_eq_true.mp h.2 w hw
  rw [h.1] at hw
  obtain ⟨i, -, hi⟩ := List.mem_filterMap.mp hw
  exact gi (List.mem_of_getElem? hi) h2
def cn_U : String := "StreamPair$Supply"
def fd_U : u_T := fun k => match k with
  | 0 => ("StreamPair$Supply", "bytes", "[B", false)
  | 1 => ("StreamPair$Supply", "start", "I", false)
  | 2 => ("StreamPair$Supply", "waiting", "I", false)
  | 3 => ("StreamPair$Supply", "iss", "I", false)
  | 4 => ("StreamPair$Supply", "una", "I", false)
  | 5 => ("StreamPair$Supply", "nxt", "I", false)
  | 6 => ("StreamPair$Supply", "max", "I", false)
  | 7 => ("StreamPair$Supply", "fin", "I", false)
  | 8 => ("StreamPair$Supply", "closed", "Z", false)
  | 9 => ("StreamPair$Supply", "far", "I", false)
  | 10 => ("StreamPair$Supply", "wl1", "I", false)
  | _ => ("StreamPair$Supply", "wl2", "I", false)
def ft_U : Nat → FieldType := fun k => match k with
  | 0 => .array .byte
  | 1 => .int
  | 2 => .int
  | 3 => .int
  | 4 => .int
  | 5 => .int
  | 6 => .int
  | 7 => .int
  | 8 => .boolean
  | 9 => .int
  | 10 => .int
  | _ => .int
theorem fn_U : ∀ a, a < 12 → ∀ b, b < 12 → a ≠ b → (fd_U a).2.1 ≠ (fd_U b).2.1 := by decide +kernel
theorem fo_U : ∀ k, k < 12 → parseFieldDescriptor (fd_U k).2.2.1 = some (ft_U k) := by decide +kernel
theorem fi_U : ∀ w ∈ u_ws cn_U fd_U 12, w ∈ gt := by
  have h : u_ws cn_U fd_U 12 = [219, 221, 223, 225, 227, 229, 231, 233, 235, 237, 239, 241].filterMap (fun i => lw_tbl[i]?) ∧ (u_ws cn_U fd_U 12).all goodWord = true := by decide +kernel
  intro w hw
  have h2 := List.all_eq_true.mp h.2 w hw
  rw [h.1] at hw
  obtain ⟨i, -, hi⟩ := List.mem_filterMap.mp hw
  exact gi (List.mem_of_getElem? hi) h2
def cn_V : String := "StreamPair$Arrivals"
def fd_V : u_T := fun k => match k with
  | 0 => ("StreamPair$Arrivals", "room", "I", false)
  | 1 => ("StreamPair$Arrivals", "rcv", "I", false)
  | 2 => ("StreamPair$Arrivals", "edge", "I", false)
  | 3 => ("StreamPair$Arrivals", "finTaken", "Z", false)
  | 4 => ("StreamPair$Arrivals", "unread", "I", false)
  | 5 => ("StreamPair$Arrivals", "kept", "I", false)
  | 6 => ("StreamPair$Arrivals", "ring", "[S", false)
  | _ => ("StreamPair$Arrivals", "firstUnread", "I", false)
def ft_V : Nat → FieldType := fun k => match k with
  | 0 => .int
  | 1 => .int
  | 2 => .int
  | 3 => .boolean
  | 4 => .int
  | 5 => .int
  | 6 => .array .short
  | _ => .int
theorem fn_V : ∀ a, a < 8 → ∀ b, b < 8 → a ≠ b → (fd_V a).2.1 ≠ (fd_V b).2.1 := by decide +kernel
theorem fo_V : ∀ k, k < 8 → parseFieldDescriptor (fd_V k).2.2.1 = some (ft_V k) := by decide +kernel
theorem fi_V : ∀ w ∈ u_ws cn_V fd_V 8, w ∈ gt := by
  have h : u_ws cn_V fd_V 8 = [265, 267, 269, 271, 273, 275, 277, 279].filterMap (fun i => lw_tbl[i]?) ∧ (u_ws cn_V fd_V 8).all goodWord = true := by decide +kernel
  intro w hw
  have h2 := List.all_eq_true.mp h.2 w hw
  rw [h.1] at hw
  obtain ⟨i, -, hi⟩ := List.mem_filterMap.mp hw
  exact gi (List.mem_of_getElem? hi) h2
def cn_Z : String := "StreamPair$Pace"
def fd_Z : u_T := fun k => match k with
  | 0 => ("StreamPair$Pace", "rto", "I", false)
  | 1 => ("StreamPair$Pace", "tries", "I", false)
  | 2 => ("StreamPair$Pace", "runs", "Z", false)
  | 3 => ("StreamPair$Pace", "due", "J", false)
  | 4 => ("StreamPair$Pace", "srtt", "J", false)
  | 5 => ("StreamPair$Pace", "variation", "J", false)
  | 6 => ("StreamPair$Pace", "timed", "Z", false)
  | 7 => ("StreamPair$Pace", "timedNumber", "I", false)
  | _ => ("StreamPair$Pace", "timedAt", "J", false)
def ft_Z : Nat → FieldType := fun k => match k with
  | 0 => .int
  | 1 => .int
  | 2 => .boolean
  | 3 => .long
  | 4 => .long
  | 5 => .long
  | 6 => .boolean
  | 7 => .int
  | _ => .long
theorem fn_Z : ∀ a, a < 9 → ∀ b, b < 9 → a ≠ b → (fd_Z a).2.1 ≠ (fd_Z b).2.1 := by decide +kernel
theorem fo_Z : ∀ k, k < 9 → parseFieldDescriptor (fd_Z k).2.2.1 = some (ft_Z k) := by decide +kernel
theorem fi_Z : ∀ w ∈ u_ws cn_Z fd_Z 9, w ∈ gt := by
  have h : u_ws cn_Z fd_Z 9 = [306, 308, 310, 312, 314, 316, 318, 320, 322].filterMap (fun i => lw_tbl[i]?) ∧ (u_ws cn_Z fd_Z 9).all goodWord = true := by decide +kernel
  intro w hw
  have h2 := List.all_eq_true.mp h.2 w hw
  rw [h.1] at hw
  obtain ⟨i, -, hi⟩ := List.mem_filterMap.mp hw
  exact gi (List.mem_of_getElem? hi) h2
def cn_O : String := "StreamPair$Crowd"
def fd_O : u_T := fun k => match k with
  | 0 => ("StreamPair$Crowd", "segment", "I", false)
  | 1 => ("StreamPair$Crowd", "cwnd", "I", false)
  | 2 => ("StreamPair$Crowd", "thresh", "I", false)
  | _ => ("StreamPair$Crowd", "same", "I", false)
def ft_O : Nat → FieldType := fun k => match k with
  | 0 => .int
  | 1 => .int
  | 2 => .int
  | _ => .int
theorem fn_O : ∀ a, a < 4 → ∀ b, b < 4 → a ≠ b → (fd_O a).2.1 ≠ (fd_O b).2.1 := by decide +kernel
theorem fo_O : ∀ k, k < 4 → parseFieldDescriptor (fd_O k).2.2.1 = some (ft_O k) := by decide +kernel
theorem fi_O : ∀ w ∈ u_ws cn_O fd_O 4, w ∈ gt := by
  have h : u_ws cn_O fd_O 4 = [340, 342, 344, 346].filterMap (fun i => lw_tbl[i]?) ∧ (u_ws cn_O fd_O 4).all goodWord = true := by decide +kernel
  intro w hw
  have h2 := List.all_eq_true.mp h.2 w hw
  rw [h.1] at hw
  obtain ⟨i, -, hi⟩ := List.mem_filterMap.mp hw
  exact gi (List.mem_of_getElem? hi) h2
def cn_G : String := "StreamPair$Segment"
def fd_G : u_T := fun k => match k with
  | 0 => ("StreamPair$Segment", "bytes", "[B", false)
  | 1 => ("StreamPair$Segment", "length", "I", false)
  | _ => ("StreamPair$Segment", "to", "I", false)
def ft_G : Nat → FieldType := fun k => match k with
  | 0 => .array .byte
  | 1 => .int
  | _ => .int
theorem fn_G : ∀ a, a < 3 → ∀ b, b < 3 → a ≠ b → (fd_G a).2.1 ≠ (fd_G b).2.1 := by decide +kernel
theorem fo_G : ∀ k, k < 3 → parseFieldDescriptor (fd_G k).2.2.1 = some (ft_G k) := by decide +kernel
theorem fi_G : ∀ w ∈ u_ws cn_G fd_G 3, w ∈ gt := by
  have h : u_ws cn_G fd_G 3 = [592, 594, 596].filterMap (fun i => lw_tbl[i]?) ∧ (u_ws cn_G fd_G 3).all goodWord = true := by decide +kernel
  intro w hw
  have h2 := List.all_eq_true.mp h.2 w hw
  rw [h.1] at hw
  obtain ⟨i, -, hi⟩ := List.mem_filterMap.mp hw
  exact gi (List.mem_of_getElem? hi) h2
abbrev cls : List vw_C := [(cn_M, fd_M, 54), (cn_P, fd_P, 6), (cn_T, fd_T, 2), (cn_C, fd_C, 1), (cn_N, fd_N, 3), (cn_A, fd_A, 3), (cn_E, fd_E, 14), (cn_U, fd_U, 12), (cn_V, fd_V, 8), (cn_Z, fd_Z, 9), (cn_O, fd_O, 4), (cn_G, fd_G, 3)]
abbrev tys (tc : Nat → ClassId) : List (ClassId × FieldType) := [(tc 0, .int), (tc 1, .byte), (tc 2, .boolean), (tc 3, .long), (tc 4, .short), (tc 5, .object "java/lang/Object")]
/-- the reference's fields: 0 an int, 1 a long, 10 + r the array at offset r -/
def rk : Nat → Nat := fun k => match k with
  | 0 => 0
  | 1 => 11
  | 2 => 0
  | 3 => 1
  | 4 => 0
  | 5 => 0
  | 6 => 12
  | 7 => 13
  | 8 => 14
  | 9 => 15
  | 10 => 0
  | 11 => 16
  | 12 => 17
  | 13 => 18
  | 14 => 19
  | 15 => 20
  | 16 => 21
  | 17 => 22
  | 18 => 23
  | 19 => 24
  | 20 => 25
  | 21 => 26
  | 22 => 27
  | 23 => 28
  | 24 => 29
  | 25 => 30
  | 26 => 31
  | 27 => 32
  | 28 => 33
  | 29 => 34
  | 30 => 35
  | 31 => 36
  | 32 => 37
  | 33 => 38
  | 34 => 39
  | 35 => 40
  | 36 => 41
  | 37 => 42
  | 38 => 43
  | 39 => 44
  | 40 => 45
  | 41 => 46
  | 42 => 47
  | 43 => 48
  | 44 => 49
  | 45 => 50
  | 46 => 0
  | 47 => 0
  | 48 => 0
  | 49 => 0
  | 50 => 0
  | 51 => 0
  | 52 => 0
  | _ => 0
/-- the reference's arrays by offset: type (0 int, 1 byte, 2 boolean, 3 long) and length -/
def rt : Nat → Nat := fun r => match r with
  | 1 => 1
  | 2 => 1
  | 6 => 2
  | 33 => 3
  | 34 => 3
  | 35 => 2
  | 36 => 2
  | 37 => 2
  | 38 => 1
  | 39 => 1
  | 40 => 2
  | _ => 0
def rn : Nat → Nat := fun r => match r with
  | 1 => 65536
  | 2 => 761292
  | 3 => 513
  | 4 => 513
  | 5 => 512
  | 6 => 513
  | 38 => 163840
  | 39 => 131072
  | 40 => 131072
  | _ => 2
theorem rk_hi : ∀ k, k < 54 → rk k ≠ 0 → rk k ≠ 1 → 11 ≤ rk k ∧ rk k < 51 := by decide +kernel
end
section
/-! THE REFERENCE'S WORLD: one object at o, its forty arrays at o + 1 .. o + 40; what they hold is (ints, longs) by offset and place -/
abbrev RS : Type := (Nat → Nat → Int32) × (Nat → Nat → Int64)
def si (ρ : RS) (a k : Nat) (x : Int32) : RS := (fun b j => if b = a ∧ j = k then x else ρ.1 b j, ρ.2)
def sl (ρ : RS) (a k : Nat) (x : Int64) : RS := (ρ.1, fun b j => if b = a ∧ j = k then x else ρ.2 b j)
def rv (o : Nat) (ρ : RS) (k : Nat) : Value := if rk k = 0 then .int (ρ.1 0 k) else if rk k = 1 then .long (ρ.2 0 k) else .ref (o + (rk k - 10))
def rf (o : Nat) (ρ : RS) : List Value := (List.range 54).map (rv o ρ)
def ra (tc : Nat → ClassId) (ρ : RS) (r : Nat) : va_E := if rt r = 3 then .inl (tc 3, rn r, .inr (.inl (ρ.2 r))) else .inl (tc (rt r), rn r, .inl (ρ.1 r))
def RW (D : va_G) (tc : Nat → ClassId) (o : Nat) (ρ : RS) (H : Heap) : Prop := va_at D cls (o, .inr (0, rf o ρ)) H ∧ ∀ r, 1 ≤ r → r < 41 → va_at D cls (o + r, ra tc ρ r) H
def rreg (o : Nat) : Nat → Prop := fun q => o ≤ q ∧ q < o + 41
def RWS (D : va_G) (tc : Nat → ClassId) (o : Nat) (s : State) (ρ : RS) (H : Heap) (locs : List Loc) : Prop := RW D tc o ρ H ∧ va_S (rreg o) s.heap H locs ∧ H.size = s.heap.size
theorem rf_at (o : Nat) (ρ : RS) {k : Nat} (hk : k < 54) : (rf o ρ)[k]? = some (rv o ρ k) := by
  simp [rf, hk]
theorem rf_V (o : Nat) (ρ : RS) {k : Nat} (hk : k < 54) : vp_V (rf o ρ) k = rv o ρ k := by
  simp [vp_V, rf, hk]
theorem rf_arr (o : Nat) (ρ : RS) {r i : Nat} (hr : 1 ≤ r) (x : Int32) : rf o (si ρ r i x) = rf o ρ := by
  unfold rf
  refine List.map_congr_left fun k _ => ?_
  unfold rv
  have h : (si ρ r i x).1 0 k = ρ.1 0 k := by
    simp only [si]
    rw [if_neg (by omega)]
  rw [h]; rfl
theorem rf_arrL (o : Nat) (ρ : RS) {r i : Nat} (hr : 1 ≤ r) (x : Int64) : rf o (sl ρ r i x) = rf o ρ := by
  unfold rf
  refine List.map_congr_left fun k _ => ?_
  unfold rv
  have h : (sl ρ r i x).2 0 k = ρ.2 0 k := by
    simp only [sl]
    rw [if_neg (by omega)]
  rw [h]; rfl
theorem si_other (ρ : RS) {a b k : Nat} (h : b ≠ a) (x : Int32) : (si ρ a k x).1 b = ρ.1 b := by
  funext j
  simp only [si]
  rw [if_neg (fun z => h z.1)]
theorem sl_other (ρ : RS) {a b k : Nat} (h : b ≠ a) (x : Int64) : (sl ρ a k x).2 b = ρ.2 b := by
  funext j
  simp only [sl]
  rw [if_neg (fun z => h z.1)]
theorem ra_other (tc : Nat → ClassId) (ρ : RS) {a r k : Nat} (h : r ≠ a) (x : Int32) : ra tc (si ρ a k x) r = ra tc ρ r := by
  unfold ra
  rw [si_other ρ h]; rfl
theorem ra_otherL (tc : Nat → ClassId) (ρ : RS) {a r k : Nat} (h : r ≠ a) (x : Int64) : ra tc (sl ρ a k x) r = ra tc ρ r := by
  unfold ra
  rw [sl_other ρ h]; rfl
theorem RWS.arr {D : va_G} {tc : Nat → ClassId} {o : Nat} {s : State} {ρ ρ' : RS} {H H1 : Heap} {locs : List Loc} {r k : Nat} (h : RWS D tc o s ρ H locs) (hr : 1 ≤ r ∧ r < 41) (hob : rf o ρ' = rf o ρ) (hoth : ∀ q, q ≠ r → ra tc ρ' q = ra tc ρ q)
    (he : va_at D cls (o + r, ra tc ρ' r) H1) (z : H1.size = H.size) (oq : ∀ q : Nat, q ≠ o + r → H1[q]? = H[q]?) : RWS D tc o s ρ' H1 (locs ++ [⟨o + r, k⟩]) := by
  refine ⟨⟨?_, fun q h1 h2 => ?_⟩, h.2.1.put z oq ⟨by omega, by omega⟩, z.trans h.2.2⟩
  · rw [hob]
    exact h.1.1.kept (oq o (by omega))
  · by_cases hq : q = r
    · rw [hq]; exact he
    · rw [hoth q hq]
      exact (h.1.2 q h1 h2).kept (oq (o + q) (by omega))
section RM
variable {p : Program} {l : Launch} {e : Env} {R : Room} {s : State} {m : MethodId} {args : Array Value} {below : List Frame} {meth : Method} {c : Code} {H : Heap} {locs : List Loc} {cells slots : Nat} {Q : State → Prop}
variable {cc : ByteArray} {pc nL : Nat} {ls : Array Slot} {rest st0 : List Value} {D : va_G} {tc : Nat → ClassId} {o : Nat} {ρ : RS} {own : String} {β : Type} {B : β} {ret : Option FieldType}
/-- what a walk over this world stands on -/
abbrev RC (p : Program) (m : MethodId) (c : Code) (cc : ByteArray) (nL : Nat) (s : State) (args : Array Value) (own : String) (meth : Method) (ret : Option FieldType) (D : va_G) (tc : Nat → ClassId) : Prop :=
  CallFix p m c cc nL s args gt own ∧ va_K D cls (tys tc) s ∧ meth.sig.returnType = ret ∧ meth.locks = false
theorem rm_get (S : RC p m c cc nL s args own meth ret D tc) (hW : RWS D tc o s ρ H locs) (k : Nat) (hk : k < 54) {index : Nat} (hlink : Cond.fieldLink own index cn_M (fd_M k).2.1 (fd_M k).2.2.1 ∈ lw_tbl) (hT : (fd_M k).1 = cn_M) (hdg : decode cc pc = .ok (.getfield index, 3))
    (kk : W p l e R s m args below meth c H locs cells slots Q (F0 m (pc + 3) ls (rv o ρ k :: rest))) : W p l e R s m args below meth c H locs cells slots Q (F0 m pc ls (.ref o :: rest)) := by
  obtain ⟨⟨hx, hb, -, hown, hts⟩, hK, -⟩ := S
  refine va_get (D := D) (cl := cls) (ci := 0) (C := cn_M) (T := fd_M) (N := 54) (ws := [(o, .inr (0, rf o ρ))]) (ref := cn_M) hx hb hts fi_M hown hK (fun j q hj => ?_) 0 rfl rfl k hk (hts _ (gi hlink rfl)) (fun x h => by rw [hT] at h; exact h) (rf_at o ρ hk) hdg kk
  cases j with
  | zero => cases hj; exact hW.1.1
  | succ j => cases hj
theorem rm_geti (S : RC p m c cc nL s args own meth ret D tc) (hW : RWS D tc o s ρ H locs) (k : Nat) {index : Nat} (hlink : Cond.fieldLink own index cn_M (fd_M k).2.1 (fd_M k).2.2.1 ∈ lw_tbl) (hk : k < 54 ∧ (fd_M k).1 = cn_M ∧ rk k = 0) (hdg : decode cc pc = .ok (.getfield index, 3))
    {K : Int32 → Option β} (h : bd (ρ.1 0 k) K = some B) (kk : ∀ x, K x = some B → W p l e R s m args below meth c H locs cells slots Q (F0 m (pc + 3) ls (.int x :: rest))) : W p l e R s m args below meth c H locs cells slots Q (F0 m pc ls (.ref o :: rest)) := by
  refine rm_get S hW k hk.1 hlink hk.2.1 hdg ?_
  have h1 : rv o ρ k = .int (ρ.1 0 k) := by unfold rv; rw [if_pos hk.2.2]
  rw [h1]
  exact kk _ h
theorem rm_getl (S : RC p m c cc nL s args own meth ret D tc) (hW : RWS D tc o s ρ H locs) (k : Nat) {index : Nat} (hlink : Cond.fieldLink own index cn_M (fd_M k).2.1 (fd_M k).2.2.1 ∈ lw_tbl) (hk : k < 54 ∧ (fd_M k).1 = cn_M ∧ rk k = 1) (hdg : decode cc pc = .ok (.getfield index, 3))
    {K : Int64 → Option β} (h : bd (ρ.2 0 k) K = some B) (kk : ∀ x, K x = some B → W p l e R s m args below meth c H locs cells slots Q (F0 m (pc + 3) ls (.long x :: rest))) : W p l e R s m args below meth c H locs cells slots Q (F0 m pc ls (.ref o :: rest)) := by
  refine rm_get S hW k hk.1 hlink hk.2.1 hdg ?_
  have h1 : rv o ρ k = .long (ρ.2 0 k) := by unfold rv; rw [if_neg (by rw [hk.2.2]; decide), if_pos hk.2.2]
  rw [h1]
  exact kk _ h
theorem rm_geta (S : RC p m c cc nL s args own meth ret D tc) (hW : RWS D tc o s ρ H locs) (k r : Nat) {index : Nat} (hlink : Cond.fieldLink own index cn_M (fd_M k).2.1 (fd_M k).2.2.1 ∈ lw_tbl) (hk : k < 54 ∧ (fd_M k).1 = cn_M ∧ rk k = 10 + r ∧ 1 ≤ r) (hdg : decode cc pc = .ok (.getfield index, 3))
    (kk : W p l e R s m args below meth c H locs cells slots Q (F0 m (pc + 3) ls (.ref (o + r) :: rest))) : W p l e R s m args below meth c H locs cells slots Q (F0 m pc ls (.ref o :: rest)) := by
  refine rm_get S hW k hk.1 hlink hk.2.1 hdg ?_
  have h1 : rv o ρ k = .ref (o + r) := by unfold rv; rw [if_neg (by omega), if_neg (by omega)]; congr 2; omega
  rw [h1]
  exact kk
theorem rm_put {ρ' : RS} {v : Value} (S : RC p m c cc nL s args own meth ret D tc) (hW : RWS D tc o s ρ H locs) (k : Nat) (hk : k < 54) {index : Nat} (hlink : Cond.fieldLink own index cn_M (fd_M k).2.1 (fd_M k).2.2.1 ∈ lw_tbl) (hT : (fd_M k).1 = cn_M) (hfin : (fd_M k).2.2.2 = false) {ty : FieldType} (hd : parseFieldDescriptor (fd_M k).2.2.1 = some ty) (hn : narrow ty v = v) (hfit : fits ty v = true)
    (hv : rv o ρ' k = v) (ho : ∀ j, j < 54 → j ≠ k → rv o ρ' j = rv o ρ j) (hoth : ∀ q, 1 ≤ q → ra tc ρ' q = ra tc ρ q) (hdg : decode cc pc = .ok (.putfield index, 3))
    (kk : ∀ (H1 : Heap) (locs1 : List Loc), RWS D tc o s ρ' H1 locs1 → W p l e R s m args below meth c H1 locs1 cells slots Q (F0 m (pc + 3) ls rest)) : W p l e R s m args below meth c H locs cells slots Q (F0 m pc ls (v :: .ref o :: rest)) := by
  obtain ⟨⟨hx, hb, -, hown, hts⟩, hK, -⟩ := S
  have hap := va_apart (own := own) (ci := 0) hts fi_M ft_M fo_M fn_M hK rfl
  obtain ⟨r, h1, cell, q1, q2, q3, q4⟩ := hW.1.1
  have hr : r = (cn_M, fd_M, 54) := Option.some.inj (h1.symm.trans rfl)
  subst hr
  obtain ⟨hS, hfc, kC, hkC, hkind⟩ := hK.1 0 _ rfl
  obtain ⟨cf, kf, fi, f, hi, hsl⟩ := hS k hk
  have hlay := hts _ (fi_M _ (u_in_lay hk))
  unfold u_lay at hlay
  rw [if_neg (by rw [hfin]; decide)] at hlay
  have hst := (u_facts hfc hkC (u_lays hts fi_M hk) hi).1
  have h6 := u_store hfc hkC hkind hlay hi hd hn hfit
  refine W.putK hx hb (f := f) ⟨hown, hts _ (gi hlink rfl), ⟨_, _, _, by rw [← hT]; exact hi⟩, hst⟩ (by rw [q2]; exact h6) q1 q3 (by rw [hsl]; exact k2_hasslot (q4 k hk)) rfl rfl hdg fun H' e1 e2 e3 => ?_
  rw [hsl] at e1 ⊢
  refine kk H' _ ⟨⟨⟨_, rfl, t_OB.to (V := updV (vp_V (rf o ρ)) k v) ⟨_, e1, q2, q3, t_set q4 hap hk v⟩ (fun j hj => ?_)⟩, fun q g1 g2 => ?_⟩, hW.2.1.put e2 e3 ⟨by omega, by omega⟩, e2.trans hW.2.2⟩
  · rw [rf_V o ρ' hj]
    unfold updV
    split
    · rename_i hjk; rw [hjk, hv]
    · rename_i hjk; rw [ho j hj hjk, rf_V o ρ hj]
  · rw [hoth q g1]
    exact (hW.1.2 q g1 g2).kept (e3 (o + q) (by show o + q ≠ o; omega))
theorem rm_puti (S : RC p m c cc nL s args own meth ret D tc) (hW : RWS D tc o s ρ H locs) (k : Nat) {index : Nat} (hlink : Cond.fieldLink own index cn_M (fd_M k).2.1 (fd_M k).2.2.1 ∈ lw_tbl) (hk : k < 54 ∧ (fd_M k).1 = cn_M ∧ rk k = 0 ∧ (fd_M k).2.2.2 = false ∧ (fd_M k).2.2.1 = "I") (hdg : decode cc pc = .ok (.putfield index, 3))
    {x : Int32} {K : RS → Option β} (h : bd (si ρ 0 k x) K = some B) (kk : ∀ ρ' (H1 : Heap) (locs1 : List Loc), K ρ' = some B → RWS D tc o s ρ' H1 locs1 → W p l e R s m args below meth c H1 locs1 cells slots Q (F0 m (pc + 3) ls rest)) : W p l e R s m args below meth c H locs cells slots Q (F0 m pc ls (.int x :: .ref o :: rest)) := by
  obtain ⟨h1, h2, h3, h4, h5⟩ := hk
  refine rm_put (ρ' := si ρ 0 k x) (ty := .int) S hW k h1 hlink h2 h4 (by rw [h5]; rfl) rfl rfl ?_ ?_ ?_ hdg (fun H1 locs1 hW1 => kk _ H1 locs1 h hW1)
  · unfold rv; rw [if_pos h3]; simp [si]
  · intro j _ hjk
    unfold rv
    have z : (si ρ 0 k x).1 0 j = ρ.1 0 j := by simp [si, hjk]
    rw [z]; rfl
  · intro q hq
    exact ra_other tc ρ (by omega) x
theorem rm_putl (S : RC p m c cc nL s args own meth ret D tc) (hW : RWS D tc o s ρ H locs) (k : Nat) {index : Nat} (hlink : Cond.fieldLink own index cn_M (fd_M k).2.1 (fd_M k).2.2.1 ∈ lw_tbl) (hk : k < 54 ∧ (fd_M k).1 = cn_M ∧ rk k = 1 ∧ (fd_M k).2.2.2 = false ∧ (fd_M k).2.2.1 = "J") (hdg : decode cc pc = .ok (.putfield index, 3))
    {x : Int64} {K : RS → Option β} (h : bd (sl ρ 0 k x) K = some B) (kk : ∀ ρ' (H1 : Heap) (locs1 : List Loc), K ρ' = some B → RWS D tc o s ρ' H1 locs1 → W p l e R s m args below meth c H1 locs1 cells slots Q (F0 m (pc + 3) ls rest)) : W p l e R s m args below meth c H locs cells slots Q (F0 m pc ls (.long x :: .ref o :: rest)) := by
  obtain ⟨h1, h2, h3, h4, h5⟩ := hk
  refine rm_put (ρ' := sl ρ 0 k x) (ty := .long) S hW k h1 hlink h2 h4 (by rw [h5]; rfl) rfl rfl ?_ ?_ ?_ hdg (fun H1 locs1 hW1 => kk _ H1 locs1 h hW1)
  · unfold rv; rw [if_neg (by rw [h3]; decide), if_pos h3]; simp [sl]
  · intro j _ hjk
    unfold rv
    have z : (sl ρ 0 k x).2 0 j = ρ.2 0 j := by simp [sl, hjk]
    rw [z]; rfl
  · intro q hq
    exact ra_otherL tc ρ (by omega) x
theorem ra_i (tc : Nat → ClassId) (ρ : RS) {r t : Nat} (h : rt r = t) (h3 : t ≠ 3) : ra tc ρ r = .inl (tc t, rn r, .inl (ρ.1 r)) := by
  unfold ra; rw [if_neg (by omega), h]
theorem ra_l (tc : Nat → ClassId) (ρ : RS) {r : Nat} (h : rt r = 3) : ra tc ρ r = .inl (tc 3, rn r, .inr (.inl (ρ.2 r))) := by
  unfold ra; rw [if_pos h]
theorem rm_one {a : Nat} {e : va_E} (h : va_at D cls (a, e) H) : va_P D cls [(a, e)] H := fun j q hj => by
  cases j with
  | zero => cases hj; exact h
  | succ j => cases hj
theorem rm_iald (S : RC p m c cc nL s args own meth ret D tc) (hW : RWS D tc o s ρ H locs) (r n : Nat) (hr : 1 ≤ r ∧ r < 41 ∧ rt r = 0 ∧ rn r = n) {i : Int32} (hdg : decode cc pc = .ok (.iaload, 1))
    {K : Int32 → Option β} (h : gd (inb i n) (bd (ρ.1 r i.toNatClampNeg) K) = some B) (kk : ∀ x, K x = some B → W p l e R s m args below meth c H locs cells slots Q (F0 m (pc + 1) ls (.int x :: rest))) : W p l e R s m args below meth c H locs cells slots Q (F0 m pc ls (.int i :: .ref (o + r) :: rest)) := by
  obtain ⟨h1, h2, h3, h4⟩ := hr
  obtain ⟨g1, g2⟩ := gd_s h
  have hP := rm_one (hW.1.2 r h1 h2)
  rw [ra_i tc ρ h3 (by decide), h4] at hP
  exact va_iald S.1.1 S.1.2.1 S.2.1 hP 0 0 rfl rfl g1 hdg (kk _ g2)
theorem rm_bald (S : RC p m c cc nL s args own meth ret D tc) (hW : RWS D tc o s ρ H locs) (r n : Nat) (hr : 1 ≤ r ∧ r < 41 ∧ rt r = 1 ∧ rn r = n) {i : Int32} (hdg : decode cc pc = .ok (.baload, 1))
    {K : Int32 → Option β} (h : gd (inb i n) (bd (ρ.1 r i.toNatClampNeg) K) = some B) (kk : ∀ x, K x = some B → W p l e R s m args below meth c H locs cells slots Q (F0 m (pc + 1) ls (.int x :: rest))) : W p l e R s m args below meth c H locs cells slots Q (F0 m pc ls (.int i :: .ref (o + r) :: rest)) := by
  obtain ⟨h1, h2, h3, h4⟩ := hr
  obtain ⟨g1, g2⟩ := gd_s h
  have hP := rm_one (hW.1.2 r h1 h2)
  rw [ra_i tc ρ h3 (by decide), h4] at hP
  exact va_bald S.1.1 S.1.2.1 S.2.1 hP 0 1 rfl rfl g1 hdg (kk _ g2)
theorem rm_zald (S : RC p m c cc nL s args own meth ret D tc) (hW : RWS D tc o s ρ H locs) (r n : Nat) (hr : 1 ≤ r ∧ r < 41 ∧ rt r = 2 ∧ rn r = n) {i : Int32} (hdg : decode cc pc = .ok (.baload, 1))
    {K : Int32 → Option β} (h : gd (inb i n) (bd (ρ.1 r i.toNatClampNeg) K) = some B) (kk : ∀ x, K x = some B → W p l e R s m args below meth c H locs cells slots Q (F0 m (pc + 1) ls (.int x :: rest))) : W p l e R s m args below meth c H locs cells slots Q (F0 m pc ls (.int i :: .ref (o + r) :: rest)) := by
  obtain ⟨h1, h2, h3, h4⟩ := hr
  obtain ⟨g1, g2⟩ := gd_s h
  have hP := rm_one (hW.1.2 r h1 h2)
  rw [ra_i tc ρ h3 (by decide), h4] at hP
  exact va_zald S.1.1 S.1.2.1 S.2.1 hP 0 2 rfl rfl g1 hdg (kk _ g2)
theorem rm_lald (S : RC p m c cc nL s args own meth ret D tc) (hW : RWS D tc o s ρ H locs) (r n : Nat) (hr : 1 ≤ r ∧ r < 41 ∧ rt r = 3 ∧ rn r = n) {i : Int32} (hdg : decode cc pc = .ok (.laload, 1))
    {K : Int64 → Option β} (h : gd (inb i n) (bd (ρ.2 r i.toNatClampNeg) K) = some B) (kk : ∀ x, K x = some B → W p l e R s m args below meth c H locs cells slots Q (F0 m (pc + 1) ls (.long x :: rest))) : W p l e R s m args below meth c H locs cells slots Q (F0 m pc ls (.int i :: .ref (o + r) :: rest)) := by
  obtain ⟨h1, h2, h3, h4⟩ := hr
  obtain ⟨g1, g2⟩ := gd_s h
  have hP := rm_one (hW.1.2 r h1 h2)
  rw [ra_l tc ρ h3, h4] at hP
  exact va_lald S.1.1 S.1.2.1 S.2.1 hP 0 3 rfl rfl g1 hdg (kk _ g2)
theorem si_upd (ρ : RS) (r i : Nat) (x : Int32) : (si ρ r i x).1 r = upd (ρ.1 r) i x := by
  funext j
  simp [si, upd]
theorem sl_upd (ρ : RS) (r i : Nat) (x : Int64) : (sl ρ r i x).2 r = vp_updL (ρ.2 r) i x := by
  funext j
  simp [sl, vp_updL]
theorem rm_iast (S : RC p m c cc nL s args own meth ret D tc) (hW : RWS D tc o s ρ H locs) (r n : Nat) (hr : 1 ≤ r ∧ r < 41 ∧ rt r = 0 ∧ rn r = n) {i x : Int32} (hdg : decode cc pc = .ok (.iastore, 1))
    {K : RS → Option β} (h : gd (inb i n) (bd (si ρ r i.toNatClampNeg x) K) = some B) (kk : ∀ ρ' (H1 : Heap) (locs1 : List Loc), K ρ' = some B → RWS D tc o s ρ' H1 locs1 → W p l e R s m args below meth c H1 locs1 cells slots Q (F0 m (pc + 1) ls rest)) : W p l e R s m args below meth c H locs cells slots Q (F0 m pc ls (.int x :: .int i :: .ref (o + r) :: rest)) := by
  obtain ⟨h1, h2, h3, h4⟩ := hr
  obtain ⟨g1, g2⟩ := gd_s h
  have hc := hW.1.2 r h1 h2
  rw [ra_i tc ρ h3 (by decide), h4] at hc
  refine W.iast S.1.1 S.1.2.1 hc ((S.2.1.2 0 _ rfl).1 n (fun j => .int (ρ.1 r j))) (fun q => by cases q) (by show ¬ (i < 0 ∨ (arrV _ _ _).slots.size ≤ _); rw [arrV_size]; exact g1) rfl rfl hdg fun H1 e z oq => ?_
  refine kk _ H1 _ g2 (hW.arr ⟨h1, h2⟩ (rf_arr o ρ h1 x) (fun q hq => ra_other tc ρ hq x) ?_ z oq)
  rw [ra_i tc _ h3 (by decide), h4, si_upd]
  show H1[o + r]? = some (vp_cell _ _)
  rw [e]
  rw [vp_cell_i, vp_cell_i, arrV_store]
  congr 2
  funext q
  by_cases hq : q = i.toNatClampNeg
  · subst hq
    simp [updV, upd]
  · simp [updV, upd, hq]
theorem rm_bast (S : RC p m c cc nL s args own meth ret D tc) (hW : RWS D tc o s ρ H locs) (r n : Nat) (hr : 1 ≤ r ∧ r < 41 ∧ rt r = 1 ∧ rn r = n) {i x : Int32} (hdg : decode cc pc = .ok (.bastore, 1))
    {K : RS → Option β} (h : gd (inb i n) (bd (si ρ r i.toNatClampNeg (vp_nar .byte x)) K) = some B) (kk : ∀ ρ' (H1 : Heap) (locs1 : List Loc), K ρ' = some B → RWS D tc o s ρ' H1 locs1 → W p l e R s m args below meth c H1 locs1 cells slots Q (F0 m (pc + 1) ls rest)) : W p l e R s m args below meth c H locs cells slots Q (F0 m pc ls (.int x :: .int i :: .ref (o + r) :: rest)) := by
  obtain ⟨h1, h2, h3, h4⟩ := hr
  obtain ⟨g1, g2⟩ := gd_s h
  have hc := hW.1.2 r h1 h2
  rw [ra_i tc ρ h3 (by decide), h4] at hc
  refine W.bast S.1.1 S.1.2.1 hc ((S.2.1.2 1 _ rfl).1 n (fun j => .int (ρ.1 r j))) (fun q => by cases q) (by show ¬ (i < 0 ∨ (arrV _ _ _).slots.size ≤ _); rw [arrV_size]; exact g1) rfl rfl hdg fun H1 e z oq => ?_
  refine kk _ H1 _ g2 (hW.arr ⟨h1, h2⟩ (rf_arr o ρ h1 _) (fun q hq => ra_other tc ρ hq _) ?_ z oq)
  rw [ra_i tc _ h3 (by decide), h4, si_upd]
  show H1[o + r]? = some (vp_cell _ _)
  rw [e]
  rw [vp_cell_i, vp_cell_i, arrV_store]
  congr 2
  funext q
  by_cases hq : q = i.toNatClampNeg
  · subst hq
    simp [updV, upd, vp_nar]
    try rfl
  · simp [updV, upd, hq]
theorem rm_zast (S : RC p m c cc nL s args own meth ret D tc) (hW : RWS D tc o s ρ H locs) (r n : Nat) (hr : 1 ≤ r ∧ r < 41 ∧ rt r = 2 ∧ rn r = n) {i x : Int32} (hdg : decode cc pc = .ok (.bastore, 1))
    {K : RS → Option β} (h : gd (inb i n) (bd (si ρ r i.toNatClampNeg (vp_nar .boolean x)) K) = some B) (kk : ∀ ρ' (H1 : Heap) (locs1 : List Loc), K ρ' = some B → RWS D tc o s ρ' H1 locs1 → W p l e R s m args below meth c H1 locs1 cells slots Q (F0 m (pc + 1) ls rest)) : W p l e R s m args below meth c H locs cells slots Q (F0 m pc ls (.int x :: .int i :: .ref (o + r) :: rest)) := by
  obtain ⟨h1, h2, h3, h4⟩ := hr
  obtain ⟨g1, g2⟩ := gd_s h
  have hc := hW.1.2 r h1 h2
  rw [ra_i tc ρ h3 (by decide), h4] at hc
  refine W.zast S.1.1 S.1.2.1 hc ((S.2.1.2 2 _ rfl).1 n (fun j => .int (ρ.1 r j))) (fun q => by cases q) (by show ¬ (i < 0 ∨ (arrV _ _ _).slots.size ≤ _); rw [arrV_size]; exact g1) rfl rfl hdg fun H1 e z oq => ?_
  refine kk _ H1 _ g2 (hW.arr ⟨h1, h2⟩ (rf_arr o ρ h1 _) (fun q hq => ra_other tc ρ hq _) ?_ z oq)
  rw [ra_i tc _ h3 (by decide), h4, si_upd]
  show H1[o + r]? = some (vp_cell _ _)
  rw [e]
  rw [vp_cell_i, vp_cell_i, arrV_store]
  congr 2
  funext q
  by_cases hq : q = i.toNatClampNeg
  · subst hq
    simp [updV, upd, vp_nar]
    try rfl
  · simp [updV, upd, hq]
theorem rm_last (S : RC p m c cc nL s args own meth ret D tc) (hW : RWS D tc o s ρ H locs) (r n : Nat) (hr : 1 ≤ r ∧ r < 41 ∧ rt r = 3 ∧ rn r = n) {i : Int32} {x : Int64} (hdg : decode cc pc = .ok (.lastore, 1))
    {K : RS → Option β} (h : gd (inb i n) (bd (sl ρ r i.toNatClampNeg x) K) = some B) (kk : ∀ ρ' (H1 : Heap) (locs1 : List Loc), K ρ' = some B → RWS D tc o s ρ' H1 locs1 → W p l e R s m args below meth c H1 locs1 cells slots Q (F0 m (pc + 1) ls rest)) : W p l e R s m args below meth c H locs cells slots Q (F0 m pc ls (.long x :: .int i :: .ref (o + r) :: rest)) := by
  obtain ⟨h1, h2, h3, h4⟩ := hr
  obtain ⟨g1, g2⟩ := gd_s h
  have hc := hW.1.2 r h1 h2
  rw [ra_l tc ρ h3, h4] at hc
  refine W.last S.1.1 S.1.2.1 hc ((S.2.1.2 3 _ rfl).1 n (fun j => .long (ρ.2 r j))) (fun q => by cases q) (by show ¬ (i < 0 ∨ (arrV _ _ _).slots.size ≤ _); rw [arrV_size]; exact g1) rfl rfl hdg fun H1 e z oq => ?_
  refine kk _ H1 _ g2 (hW.arr ⟨h1, h2⟩ (rf_arrL o ρ h1 x) (fun q hq => ra_otherL tc ρ hq x) ?_ z oq)
  rw [ra_l tc _ h3, h4, sl_upd]
  show H1[o + r]? = some (vp_cell _ _)
  rw [e]
  rw [vp_cell_l, vp_cell_l, arrV_store]
  congr 2
  funext q
  by_cases hq : q = i.toNatClampNeg
  · subst hq
    simp [updV, vp_updL]
  · simp [updV, vp_updL, hq]
/-- how a method of the reference ends -/
def RQ (D : va_G) (tc : Nat → ClassId) (o : Nat) (res : Option Value) (ρ' : RS) : Array Value → State → Outcome → State → Prop := fun _ st oc t => oc = .returned res ∧ RW D tc o ρ' t.heap ∧ t.heap.size = st.heap.size ∧ ∀ q : Nat, ¬ rreg o q → t.heap[q]? = st.heap[q]?
def RP (D : va_G) (tc : Nat → ClassId) (o : Nat) (ρ : RS) : State → Prop := fun U => RW D tc o ρ U.heap ∧ va_K D cls (tys tc) U
/-- a method of the reference at one start: it answers res, and the world is ρ' -/
def RMet (l : Launch) (D : va_G) (tc : Nat → ClassId) (o : Nat) (y : MethodName) (bytes : ByteArray) (maxL : Nat) (ret : Option FieldType) (fr lo : Nat) (As : List Value) (ρ : RS) (res : Option Value) (ρ' : RS) : Prop :=
  Met l y (Cond.code y bytes maxL ret :: gt) { frames := fr, cells := 0, slots := 0, locals := lo } (va_Pc As (RP D tc o ρ)) (RQ D tc o res ρ') 0 0 (rreg o)
theorem RWS.end_ {t : State} (h : RWS D tc o s ρ H locs) (ht : t.heap = H) : RW D tc o ρ t.heap ∧ t.heap.size = s.heap.size ∧ ∀ q : Nat, ¬ rreg o q → t.heap[q]? = s.heap[q]? := by
  refine ⟨by rw [ht]; exact h.1, by rw [ht]; exact h.2.2, fun q hq => ?_⟩
  rw [ht]
  by_cases hl : q < s.heap.size
  · exact h.2.1.2.1 q hl hq
  · rw [Array.getElem?_eq_none (by rw [h.2.2]; omega), Array.getElem?_eq_none (by omega)]
theorem rm_iret {B : Int32 × RS} (S : RC p m c cc nL s args own meth (some .int) D tc) (hW : RWS D tc o s ρ H locs) {x : Int32} (hdg : decode cc pc = .ok (.ireturn, 1)) (h : some (x, ρ) = some B) :
    W p l e R s m args below meth c H locs 0 0 (MQ below (RQ D tc o (some (.int B.1)) B.2) args s 0 0 (rreg o)) (F0 m pc ls [.int x]) := by
  cases h
  exact W.iret S.1.1 S.1.2.1 S.2.2.1 (fun t ht _ => ⟨rfl, hW.end_ ht⟩) hW.2.1.2.2 hdg S.2.2.2
theorem rm_zret {B : Int32 × RS} (S : RC p m c cc nL s args own meth (some .boolean) D tc) (hW : RWS D tc o s ρ H locs) {x : Int32} (hdg : decode cc pc = .ok (.ireturn, 1)) (h : gd (x = 0 ∨ x = 1) (some (x, ρ)) = some B) :
    W p l e R s m args below meth c H locs 0 0 (MQ below (RQ D tc o (some (.int B.1)) B.2) args s 0 0 (rreg o)) (F0 m pc ls [.int x]) := by
  obtain ⟨h1, h2⟩ := gd_s h
  cases h2
  exact W.zret S.1.1 S.1.2.1 S.2.2.1 (by rcases h1 with h1 | h1 <;> rw [h1] <;> decide) (fun t ht _ => ⟨rfl, hW.end_ ht⟩) hW.2.1.2.2 hdg S.2.2.2
theorem rm_lret {B : Int64 × RS} (S : RC p m c cc nL s args own meth (some .long) D tc) (hW : RWS D tc o s ρ H locs) {x : Int64} (hdg : decode cc pc = .ok (.lreturn, 1)) (h : some (x, ρ) = some B) :
    W p l e R s m args below meth c H locs 0 0 (MQ below (RQ D tc o (some (.long B.1)) B.2) args s 0 0 (rreg o)) (F0 m pc ls [.long x]) := by
  cases h
  exact W.lret S.1.1 S.1.2.1 S.2.2.1 (fun t ht _ => ⟨rfl, hW.end_ ht⟩) hW.2.1.2.2 hdg S.2.2.2
theorem rm_vret {B : RS} (S : RC p m c cc nL s args own meth none D tc) (hW : RWS D tc o s ρ H locs) (hdg : decode cc pc = .ok (.return_, 1)) (h : some ρ = some B) :
    W p l e R s m args below meth c H locs 0 0 (MQ below (RQ D tc o none B) args s 0 0 (rreg o)) (F0 m pc ls []) := by
  cases h
  exact W.vret S.1.1 S.1.2.1 S.2.2.1 (fun t ht _ => ⟨rfl, hW.end_ ht⟩) hW.2.1.2.2 hdg S.2.2.2
/-- what a call needs to know of the callee, once for all -/
def Calee (y : MethodName) (bytes : ByteArray) (maxL : Nat) (ret : Option FieldType) (n : Nat) : Prop := Cond.code y bytes maxL ret ∈ lw_tbl ∧ Cond.initialized y.cls ∈ lw_tbl ∧ (y.cls ≠ "java/lang/invoke/MethodHandle" ∧ y.cls ≠ "java/lang/invoke/VarHandle") ∧ (parseMethodDescriptor y.desc).map (fun d => d.parameters.length) = some n
theorem gt_good' {y : MethodName} {b : ByteArray} {n : Nat} {r : Option FieldType} (h : Cond.code y b n r ∈ lw_tbl) : GoodIn gt (Cond.code y b n r :: gt) := by
  intro w hw
  rcases List.mem_cons.mp hw with rfl | hw
  · exact ⟨gi h rfl, Or.inl rfl⟩
  · exact ⟨hw, good_of_word (List.mem_filter.mp hw).2⟩
theorem rm_callB {y : MethodName} {bytes : ByteArray} {maxL fr lo mc ms n idx : Nat} {ret' : Option FieldType} (S : CallFix p m c cc nL s args gt own) (q : Calee y bytes maxL ret' n) (hlink : Cond.methodLink own idx y ∈ lw_tbl) (hR : fr + 1 ≤ R.frames ∧ 8 + (maxL + 11) + lo ≤ R.locals) :
    CallB R s args own idx y bytes maxL ret' (Cond.code y bytes maxL ret' :: gt) { frames := fr, cells := mc, slots := ms, locals := lo } mc ms n := by
  obtain ⟨q1, q2, q3, q4⟩ := q
  refine ⟨rfl, rfl, hR.1, hR.2, pay_in S.2.2.2.2 (gt_good' q1), List.mem_cons_self, S.2.2.2.2 _ (gi q1 rfl), S.2.2.2.2 _ (gi q2 rfl), q3, fun sig h => ?_, S.2.2.2.2 _ (gi hlink rfl)⟩
  rw [h] at q4
  exact (Option.some.inj q4).symm
theorem RP.blind {As : List Value} : FrameBlind (va_Pc As (RP D tc o ρ)) := fun a U g mk q => by
  obtain ⟨q0, q1, q2⟩ := q
  exact ⟨q0, q1, va_K.moved (u := U) (U := U.calling g mk a) (Vm.Alike.refl U.vm) q2⟩
theorem rm_goon {res : Option Value} {ρ' : RS} {a : Array Value} (hr : va_Run p l e R s m args below meth c H locs 0 0 0 0 (F0 m pc ls st0) rest (RQ D tc o res ρ' a) (rreg o)) (hW : RWS D tc o s ρ H locs)
    (kk : ∀ (H1 : Heap) (locs1 : List Loc), RWS D tc o s ρ' H1 locs1 → W p l e R s m args below meth c H1 locs1 0 0 Q (F0 m (pc + 3) ls (res.toList ++ rest))) : W p l e R s m args below meth c H locs 0 0 Q (F0 m pc ls st0) := by
  intro T hT X
  obtain ⟨v, st₀, t, T', L, h0, X', hL, e1, e2, ⟨hv, hRW, hz, hk⟩, st⟩ := hr T hT X
  cases hv
  rw [h0] at hz hk
  obtain ⟨hS1, hS2, hS3⟩ := hW.2.1
  obtain ⟨t2, a1, b1⟩ := kk T'.heap (locs ++ L) ⟨by rw [e1]; exact hRW, ⟨by rw [e1, hz]; exact hS1, fun q h1 h2 => by rw [e1, hk q h2]; exact hS2 q h1 h2, fun q hq => by
      rcases List.mem_append.mp hq with h | h
      · exact hS3 q h
      · exact hL q h⟩, by rw [e1, hz]; exact hW.2.2⟩ T' rfl X'
  exact ⟨t2, st t2 a1, b1⟩
theorem rm_callV {y : MethodName} {bytes : ByteArray} {maxL fr lo n idx : Nat} {ret' : Option FieldType} {As : List Value} {res : Option Value} {ρ' : RS} (S : RC p m c cc nL s args own meth ret D tc) (hW : RWS D tc o s ρ H locs) (hM : RMet l D tc o y bytes maxL ret' fr lo (.ref o :: As) ρ res ρ') (q : Calee y bytes maxL ret' n) (hin : Cond.instanceMethod y ∈ lw_tbl) (hsel : Cond.selects cn_M y y ∈ lw_tbl)
    (hlink : Cond.methodLink own idx y ∈ lw_tbl) (hR : fr + 1 ≤ R.frames ∧ 8 + (maxL + 11) + lo ≤ R.locals) (hl : ls.size = nL) (hn : As.length = n) (hst : st0 = As.reverse ++ .ref o :: rest) (hrm : (rest.map fun v => v.category).sum ≤ 8) (hdg : decode cc pc = .ok (.invokevirtual idx, 3))
    (kk : ∀ (H1 : Heap) (locs1 : List Loc), RWS D tc o s ρ' H1 locs1 → W p l e R s m args below meth c H1 locs1 0 0 Q (F0 m (pc + 3) ls (res.toList ++ rest))) : W p l e R s m args below meth c H locs 0 0 Q (F0 m pc ls st0) := by
  refine rm_goon (va_runV (C := cn_M) (As := As) (rest := rest) S.1 hM ⟨rm_callB S.1 q hlink hR, S.1.2.2.2.2 _ (gi hin rfl), S.1.2.2.2.2 _ (gi hsel rfl)⟩ ⟨RP.blind, va_recv S.2.1 (rm_one hW.1.1) (ci := 0) (q0 := 0) rfl rfl, fun U hU hWa => ⟨rfl, by rw [hU]; exact hW.1, va_K.moved hWa.alike S.2.1⟩⟩ rfl hn hl hst (lv_room hrm) hdg ⟨Nat.zero_le _, Nat.zero_le _⟩) hW kk
theorem rm_callS {y : MethodName} {bytes : ByteArray} {maxL fr lo n idx : Nat} {ret' : Option FieldType} {As : List Value} {res : Option Value} {ρ' : RS} (S : RC p m c cc nL s args own meth ret D tc) (hW : RWS D tc o s ρ H locs) (hM : RMet l D tc o y bytes maxL ret' fr lo As ρ res ρ') (q : Calee y bytes maxL ret' n) (hsta : Cond.static y ∈ lw_tbl)
    (hlink : Cond.methodLink own idx y ∈ lw_tbl) (hR : fr + 1 ≤ R.frames ∧ 8 + (maxL + 11) + lo ≤ R.locals) (hl : ls.size = nL) (hn : As.length = n) (hst : st0 = As.reverse ++ rest) (hrm : (rest.map fun v => v.category).sum ≤ 8) (hdg : decode cc pc = .ok (.invokestatic idx, 3))
    (kk : ∀ (H1 : Heap) (locs1 : List Loc), RWS D tc o s ρ' H1 locs1 → W p l e R s m args below meth c H1 locs1 0 0 Q (F0 m (pc + 3) ls (res.toList ++ rest))) : W p l e R s m args below meth c H locs 0 0 Q (F0 m pc ls st0) := by
  refine rm_goon (va_runS (As := As) (rest := rest) S.1 hM ⟨rm_callB S.1 q hlink hR, S.1.2.2.2.2 _ (gi hsta rfl)⟩ ⟨RP.blind, fun U hU hWa => ⟨rfl, by rw [hU]; exact hW.1, va_K.moved hWa.alike S.2.1⟩⟩ rfl hn hl hst (lv_room hrm) hdg ⟨Nat.zero_le _, Nat.zero_le _⟩) hW kk
end RM
end
