-- ===== PART A: goes FIRST, ahead of the names: the tables' words, and 'selects' of the private methods out of them =====
/-- a private method of a class that the tables say can be made, by its rows of tables_1 -/
def lw_okq (q : MethodName × Nat) : Prop := (q.1.cls ≠ "java/lang/invoke/MethodHandle" ∧ q.1.cls ≠ "java/lang/invoke/VarHandle") ∧ Cond.instantiable q.1.cls q.2 ∈ tables_1 ∧ Cond.privateMethod q.1 ∈ tables_1 ∧ Cond.instanceMethod q.1 ∈ tables_1
theorem lw_p0 : lw_okq (⟨"SharedAir", "readPairs", "(I)I"⟩, 9) := ⟨⟨by decide +kernel, by decide +kernel⟩, List.mem_of_getElem? (i := 20) (by decide +kernel), List.mem_of_getElem? (i := 435) (by decide +kernel), List.mem_of_getElem? (i := 436) (by decide +kernel)⟩
theorem lw_p1 : lw_okq (⟨"SharedAir$Air", "startStation", "(I[I)V"⟩, 13) := ⟨⟨by decide +kernel, by decide +kernel⟩, List.mem_of_getElem? (i := 28) (by decide +kernel), List.mem_of_getElem? (i := 474) (by decide +kernel), List.mem_of_getElem? (i := 475) (by decide +kernel)⟩
theorem lw_p2 : lw_okq (⟨"SharedAir", "comesFromEntry", "(III)Z"⟩, 9) := ⟨⟨by decide +kernel, by decide +kernel⟩, List.mem_of_getElem? (i := 20) (by decide +kernel), List.mem_of_getElem? (i := 510) (by decide +kernel), List.mem_of_getElem? (i := 511) (by decide +kernel)⟩
theorem lw_p3 : lw_okq (⟨"SharedAir$Air", "runningSpans", "()I"⟩, 13) := ⟨⟨by decide +kernel, by decide +kernel⟩, List.mem_of_getElem? (i := 28) (by decide +kernel), List.mem_of_getElem? (i := 548) (by decide +kernel), List.mem_of_getElem? (i := 549) (by decide +kernel)⟩
theorem lw_p4 : lw_okq (⟨"SharedAir$Air", "beginOf", "(I)V"⟩, 13) := ⟨⟨by decide +kernel, by decide +kernel⟩, List.mem_of_getElem? (i := 28) (by decide +kernel), List.mem_of_getElem? (i := 556) (by decide +kernel), List.mem_of_getElem? (i := 557) (by decide +kernel)⟩
theorem lw_p5 : lw_okq (⟨"SharedAir$Air", "beginExchange", "(II)V"⟩, 13) := ⟨⟨by decide +kernel, by decide +kernel⟩, List.mem_of_getElem? (i := 28) (by decide +kernel), List.mem_of_getElem? (i := 564) (by decide +kernel), List.mem_of_getElem? (i := 565) (by decide +kernel)⟩
theorem lw_p6 : lw_okq (⟨"SharedAir$Air", "failFirst", "(II)V"⟩, 13) := ⟨⟨by decide +kernel, by decide +kernel⟩, List.mem_of_getElem? (i := 28) (by decide +kernel), List.mem_of_getElem? (i := 583) (by decide +kernel), List.mem_of_getElem? (i := 584) (by decide +kernel)⟩
theorem lw_p7 : lw_okq (⟨"SharedAir$Air", "senders", "()I"⟩, 13) := ⟨⟨by decide +kernel, by decide +kernel⟩, List.mem_of_getElem? (i := 28) (by decide +kernel), List.mem_of_getElem? (i := 603) (by decide +kernel), List.mem_of_getElem? (i := 604) (by decide +kernel)⟩
theorem lw_p8 : lw_okq (⟨"SharedAir$Air", "clearOnes", "()I"⟩, 13) := ⟨⟨by decide +kernel, by decide +kernel⟩, List.mem_of_getElem? (i := 28) (by decide +kernel), List.mem_of_getElem? (i := 611) (by decide +kernel), List.mem_of_getElem? (i := 612) (by decide +kernel)⟩
theorem lw_p9 : lw_okq (⟨"SharedAir$Air", "sendsNow", "(I)Z"⟩, 13) := ⟨⟨by decide +kernel, by decide +kernel⟩, List.mem_of_getElem? (i := 28) (by decide +kernel), List.mem_of_getElem? (i := 621) (by decide +kernel), List.mem_of_getElem? (i := 622) (by decide +kernel)⟩
theorem lw_p10 : lw_okq (⟨"SharedAir$Air", "noteSlot", "()V"⟩, 13) := ⟨⟨by decide +kernel, by decide +kernel⟩, List.mem_of_getElem? (i := 28) (by decide +kernel), List.mem_of_getElem? (i := 625) (by decide +kernel), List.mem_of_getElem? (i := 626) (by decide +kernel)⟩
theorem lw_p11 : lw_okq (⟨"SharedAir$Air", "goAsk", "(IILSharedAir$Exchange;)V"⟩, 13) := ⟨⟨by decide +kernel, by decide +kernel⟩, List.mem_of_getElem? (i := 28) (by decide +kernel), List.mem_of_getElem? (i := 633) (by decide +kernel), List.mem_of_getElem? (i := 634) (by decide +kernel)⟩
theorem lw_p12 : lw_okq (⟨"SharedAir$Air", "isClear", "(II)Z"⟩, 13) := ⟨⟨by decide +kernel, by decide +kernel⟩, List.mem_of_getElem? (i := 28) (by decide +kernel), List.mem_of_getElem? (i := 637) (by decide +kernel), List.mem_of_getElem? (i := 638) (by decide +kernel)⟩
theorem lw_p13 : lw_okq (⟨"SharedAir$Air", "spread", "(IIIII)V"⟩, 13) := ⟨⟨by decide +kernel, by decide +kernel⟩, List.mem_of_getElem? (i := 28) (by decide +kernel), List.mem_of_getElem? (i := 641) (by decide +kernel), List.mem_of_getElem? (i := 642) (by decide +kernel)⟩
theorem lw_p14 : lw_okq (⟨"SharedAir$Air", "goGrant", "(IILSharedAir$Exchange;)V"⟩, 13) := ⟨⟨by decide +kernel, by decide +kernel⟩, List.mem_of_getElem? (i := 28) (by decide +kernel), List.mem_of_getElem? (i := 649) (by decide +kernel), List.mem_of_getElem? (i := 650) (by decide +kernel)⟩
theorem lw_p15 : lw_okq (⟨"SharedAir$Air", "failExchange", "(ILSharedAir$Exchange;)V"⟩, 13) := ⟨⟨by decide +kernel, by decide +kernel⟩, List.mem_of_getElem? (i := 28) (by decide +kernel), List.mem_of_getElem? (i := 658) (by decide +kernel), List.mem_of_getElem? (i := 659) (by decide +kernel)⟩
def lw_privs_1 : List (MethodName × Nat) := [(⟨"SharedAir", "readPairs", "(I)I"⟩, 9), (⟨"SharedAir$Air", "startStation", "(I[I)V"⟩, 13), (⟨"SharedAir", "comesFromEntry", "(III)Z"⟩, 9), (⟨"SharedAir$Air", "runningSpans", "()I"⟩, 13), (⟨"SharedAir$Air", "beginOf", "(I)V"⟩, 13), (⟨"SharedAir$Air", "beginExchange", "(II)V"⟩, 13), (⟨"SharedAir$Air", "failFirst", "(II)V"⟩, 13), (⟨"SharedAir$Air", "senders", "()I"⟩, 13), (⟨"SharedAir$Air", "clearOnes", "()I"⟩, 13), (⟨"SharedAir$Air", "sendsNow", "(I)Z"⟩, 13), (⟨"SharedAir$Air", "noteSlot", "()V"⟩, 13), (⟨"SharedAir$Air", "goAsk", "(IILSharedAir$Exchange;)V"⟩, 13), (⟨"SharedAir$Air", "isClear", "(II)Z"⟩, 13), (⟨"SharedAir$Air", "spread", "(IIIII)V"⟩, 13), (⟨"SharedAir$Air", "goGrant", "(IILSharedAir$Exchange;)V"⟩, 13), (⟨"SharedAir$Air", "failExchange", "(ILSharedAir$Exchange;)V"⟩, 13)]
theorem lw_r1 : ∀ q ∈ lw_privs_1, lw_okq q := List.forall_mem_cons.mpr ⟨lw_p0, List.forall_mem_cons.mpr ⟨lw_p1, List.forall_mem_cons.mpr ⟨lw_p2, List.forall_mem_cons.mpr ⟨lw_p3, List.forall_mem_cons.mpr ⟨lw_p4, List.forall_mem_cons.mpr ⟨lw_p5, List.forall_mem_cons.mpr ⟨lw_p6, List.forall_mem_cons.mpr ⟨lw_p7, List.forall_mem_cons.mpr ⟨lw_p8, List.forall_mem_cons.mpr ⟨lw_p9, List.forall_mem_cons.mpr ⟨lw_p10, List.forall_mem_cons.mpr ⟨lw_p11, List.forall_mem_cons.mpr ⟨lw_p12, List.forall_mem_cons.mpr ⟨lw_p13, List.forall_mem_cons.mpr ⟨lw_p14, List.forall_mem_cons.mpr ⟨lw_p15, fun _ h => absurd h List.not_mem_nil⟩⟩⟩⟩⟩⟩⟩⟩⟩⟩⟩⟩⟩⟩⟩⟩
theorem lw_p16 : lw_okq (⟨"SharedAir$Air", "goData", "(IILSharedAir$Exchange;)V"⟩, 13) := ⟨⟨by decide +kernel, by decide +kernel⟩, List.mem_of_getElem? (i := 28) (by decide +kernel), List.mem_of_getElem? (i := 662) (by decide +kernel), List.mem_of_getElem? (i := 663) (by decide +kernel)⟩
theorem lw_p17 : lw_okq (⟨"SharedAir$Air", "goAnswer", "(IILSharedAir$Exchange;)V"⟩, 13) := ⟨⟨by decide +kernel, by decide +kernel⟩, List.mem_of_getElem? (i := 28) (by decide +kernel), List.mem_of_getElem? (i := 672) (by decide +kernel), List.mem_of_getElem? (i := 673) (by decide +kernel)⟩
theorem lw_p18 : lw_okq (⟨"SharedAir$Air", "deliver", "(ILSharedAir$Exchange;)V"⟩, 13) := ⟨⟨by decide +kernel, by decide +kernel⟩, List.mem_of_getElem? (i := 28) (by decide +kernel), List.mem_of_getElem? (i := 676) (by decide +kernel), List.mem_of_getElem? (i := 677) (by decide +kernel)⟩
theorem lw_p19 : lw_okq (⟨"SharedAir$Air", "settle", "(I)V"⟩, 13) := ⟨⟨by decide +kernel, by decide +kernel⟩, List.mem_of_getElem? (i := 28) (by decide +kernel), List.mem_of_getElem? (i := 685) (by decide +kernel), List.mem_of_getElem? (i := 686) (by decide +kernel)⟩
theorem lw_p20 : lw_okq (⟨"SharedAir", "isStation", "(I)Z"⟩, 9) := ⟨⟨by decide +kernel, by decide +kernel⟩, List.mem_of_getElem? (i := 20) (by decide +kernel), List.mem_of_getElem? (i := 721) (by decide +kernel), List.mem_of_getElem? (i := 722) (by decide +kernel)⟩
theorem lw_p21 : lw_okq (⟨"SharedAir", "slotsTillDelivered", "(II)I"⟩, 9) := ⟨⟨by decide +kernel, by decide +kernel⟩, List.mem_of_getElem? (i := 20) (by decide +kernel), List.mem_of_getElem? (i := 812) (by decide +kernel), List.mem_of_getElem? (i := 813) (by decide +kernel)⟩
theorem lw_p22 : lw_okq (⟨"SharedAir", "faultInDay", "()I"⟩, 9) := ⟨⟨by decide +kernel, by decide +kernel⟩, List.mem_of_getElem? (i := 20) (by decide +kernel), List.mem_of_getElem? (i := 824) (by decide +kernel), List.mem_of_getElem? (i := 825) (by decide +kernel)⟩
theorem lw_p23 : lw_okq (⟨"SharedAir", "faultInAct", "(I)I"⟩, 9) := ⟨⟨by decide +kernel, by decide +kernel⟩, List.mem_of_getElem? (i := 20) (by decide +kernel), List.mem_of_getElem? (i := 828) (by decide +kernel), List.mem_of_getElem? (i := 829) (by decide +kernel)⟩
theorem lw_p24 : lw_okq (⟨"SharedAir", "actLength", "(I)I"⟩, 9) := ⟨⟨by decide +kernel, by decide +kernel⟩, List.mem_of_getElem? (i := 20) (by decide +kernel), List.mem_of_getElem? (i := 833) (by decide +kernel), List.mem_of_getElem? (i := 834) (by decide +kernel)⟩
theorem lw_p25 : lw_okq (⟨"SharedAir", "doAct", "(I)Z"⟩, 9) := ⟨⟨by decide +kernel, by decide +kernel⟩, List.mem_of_getElem? (i := 20) (by decide +kernel), List.mem_of_getElem? (i := 837) (by decide +kernel), List.mem_of_getElem? (i := 838) (by decide +kernel)⟩
theorem lw_p26 : lw_okq (⟨"SharedAir", "offerDrawn", "()V"⟩, 9) := ⟨⟨by decide +kernel, by decide +kernel⟩, List.mem_of_getElem? (i := 20) (by decide +kernel), List.mem_of_getElem? (i := 854) (by decide +kernel), List.mem_of_getElem? (i := 855) (by decide +kernel)⟩
theorem lw_p27 : lw_okq (⟨"java/lang/Throwable", "fillInStackTrace", "(I)Ljava/lang/Throwable;"⟩, 6) := ⟨⟨by decide +kernel, by decide +kernel⟩, List.mem_of_getElem? (i := 914) (by decide +kernel), List.mem_of_getElem? (i := 912) (by decide +kernel), List.mem_of_getElem? (i := 913) (by decide +kernel)⟩
theorem lw_p28 : lw_okq (⟨"SharedAirModel", "begin", "()V"⟩, 21) := ⟨⟨by decide +kernel, by decide +kernel⟩, List.mem_of_getElem? (i := 977) (by decide +kernel), List.mem_of_getElem? (i := 1069) (by decide +kernel), List.mem_of_getElem? (i := 1070) (by decide +kernel)⟩
theorem lw_p29 : lw_okq (⟨"SharedAirModel", "oneOf", "(CI)I"⟩, 21) := ⟨⟨by decide +kernel, by decide +kernel⟩, List.mem_of_getElem? (i := 977) (by decide +kernel), List.mem_of_getElem? (i := 1073) (by decide +kernel), List.mem_of_getElem? (i := 1074) (by decide +kernel)⟩
theorem lw_p30 : lw_okq (⟨"SharedAirModel", "fine", "()Z"⟩, 21) := ⟨⟨by decide +kernel, by decide +kernel⟩, List.mem_of_getElem? (i := 977) (by decide +kernel), List.mem_of_getElem? (i := 1077) (by decide +kernel), List.mem_of_getElem? (i := 1078) (by decide +kernel)⟩
theorem lw_p31 : lw_okq (⟨"SharedAirModel", "here", "()I"⟩, 21) := ⟨⟨by decide +kernel, by decide +kernel⟩, List.mem_of_getElem? (i := 977) (by decide +kernel), List.mem_of_getElem? (i := 1081) (by decide +kernel), List.mem_of_getElem? (i := 1082) (by decide +kernel)⟩
def lw_privs_2 : List (MethodName × Nat) := [(⟨"SharedAir$Air", "goData", "(IILSharedAir$Exchange;)V"⟩, 13), (⟨"SharedAir$Air", "goAnswer", "(IILSharedAir$Exchange;)V"⟩, 13), (⟨"SharedAir$Air", "deliver", "(ILSharedAir$Exchange;)V"⟩, 13), (⟨"SharedAir$Air", "settle", "(I)V"⟩, 13), (⟨"SharedAir", "isStation", "(I)Z"⟩, 9), (⟨"SharedAir", "slotsTillDelivered", "(II)I"⟩, 9), (⟨"SharedAir", "faultInDay", "()I"⟩, 9), (⟨"SharedAir", "faultInAct", "(I)I"⟩, 9), (⟨"SharedAir", "actLength", "(I)I"⟩, 9), (⟨"SharedAir", "doAct", "(I)Z"⟩, 9), (⟨"SharedAir", "offerDrawn", "()V"⟩, 9), (⟨"java/lang/Throwable", "fillInStackTrace", "(I)Ljava/lang/Throwable;"⟩, 6), (⟨"SharedAirModel", "begin", "()V"⟩, 21), (⟨"SharedAirModel", "oneOf", "(CI)I"⟩, 21), (⟨"SharedAirModel", "fine", "()Z"⟩, 21), (⟨"SharedAirModel", "here", "()I"⟩, 21)]
theorem lw_r2 : ∀ q ∈ lw_privs_2, lw_okq q := List.forall_mem_cons.mpr ⟨lw_p16, List.forall_mem_cons.mpr ⟨lw_p17, List.forall_mem_cons.mpr ⟨lw_p18, List.forall_mem_cons.mpr ⟨lw_p19, List.forall_mem_cons.mpr ⟨lw_p20, List.forall_mem_cons.mpr ⟨lw_p21, List.forall_mem_cons.mpr ⟨lw_p22, List.forall_mem_cons.mpr ⟨lw_p23, List.forall_mem_cons.mpr ⟨lw_p24, List.forall_mem_cons.mpr ⟨lw_p25, List.forall_mem_cons.mpr ⟨lw_p26, List.forall_mem_cons.mpr ⟨lw_p27, List.forall_mem_cons.mpr ⟨lw_p28, List.forall_mem_cons.mpr ⟨lw_p29, List.forall_mem_cons.mpr ⟨lw_p30, List.forall_mem_cons.mpr ⟨lw_p31, fun _ h => absurd h List.not_mem_nil⟩⟩⟩⟩⟩⟩⟩⟩⟩⟩⟩⟩⟩⟩⟩⟩
theorem lw_p32 : lw_okq (⟨"SharedAirModel", "fault", "(I)V"⟩, 21) := ⟨⟨by decide +kernel, by decide +kernel⟩, List.mem_of_getElem? (i := 977) (by decide +kernel), List.mem_of_getElem? (i := 1085) (by decide +kernel), List.mem_of_getElem? (i := 1086) (by decide +kernel)⟩
theorem lw_p33 : lw_okq (⟨"SharedAirModel", "readPair", "(I)I"⟩, 21) := ⟨⟨by decide +kernel, by decide +kernel⟩, List.mem_of_getElem? (i := 977) (by decide +kernel), List.mem_of_getElem? (i := 1089) (by decide +kernel), List.mem_of_getElem? (i := 1090) (by decide +kernel)⟩
theorem lw_p34 : lw_okq (⟨"SharedAirModel", "wasRight", "()Z"⟩, 21) := ⟨⟨by decide +kernel, by decide +kernel⟩, List.mem_of_getElem? (i := 977) (by decide +kernel), List.mem_of_getElem? (i := 1093) (by decide +kernel), List.mem_of_getElem? (i := 1094) (by decide +kernel)⟩
theorem lw_p35 : lw_okq (⟨"SharedAirModel", "change", "()V"⟩, 21) := ⟨⟨by decide +kernel, by decide +kernel⟩, List.mem_of_getElem? (i := 977) (by decide +kernel), List.mem_of_getElem? (i := 1097) (by decide +kernel), List.mem_of_getElem? (i := 1098) (by decide +kernel)⟩
theorem lw_p36 : lw_okq (⟨"SharedAirModel", "note", "()V"⟩, 21) := ⟨⟨by decide +kernel, by decide +kernel⟩, List.mem_of_getElem? (i := 977) (by decide +kernel), List.mem_of_getElem? (i := 1101) (by decide +kernel), List.mem_of_getElem? (i := 1102) (by decide +kernel)⟩
theorem lw_p37 : lw_okq (⟨"SharedAirModel", "lost", "()I"⟩, 21) := ⟨⟨by decide +kernel, by decide +kernel⟩, List.mem_of_getElem? (i := 977) (by decide +kernel), List.mem_of_getElem? (i := 1119) (by decide +kernel), List.mem_of_getElem? (i := 1120) (by decide +kernel)⟩
theorem lw_p38 : lw_okq (⟨"SharedAirModel", "goesOn", "()Z"⟩, 21) := ⟨⟨by decide +kernel, by decide +kernel⟩, List.mem_of_getElem? (i := 977) (by decide +kernel), List.mem_of_getElem? (i := 1130) (by decide +kernel), List.mem_of_getElem? (i := 1131) (by decide +kernel)⟩
theorem lw_p39 : lw_okq (⟨"SharedAirModel", "hears", "(II)Z"⟩, 21) := ⟨⟨by decide +kernel, by decide +kernel⟩, List.mem_of_getElem? (i := 977) (by decide +kernel), List.mem_of_getElem? (i := 1137) (by decide +kernel), List.mem_of_getElem? (i := 1138) (by decide +kernel)⟩
theorem lw_p40 : lw_okq (⟨"SharedAirModel", "quality", "(II)I"⟩, 21) := ⟨⟨by decide +kernel, by decide +kernel⟩, List.mem_of_getElem? (i := 977) (by decide +kernel), List.mem_of_getElem? (i := 1141) (by decide +kernel), List.mem_of_getElem? (i := 1142) (by decide +kernel)⟩
theorem lw_p41 : lw_okq (⟨"SharedAirModel", "put", "(IIIII)V"⟩, 21) := ⟨⟨by decide +kernel, by decide +kernel⟩, List.mem_of_getElem? (i := 977) (by decide +kernel), List.mem_of_getElem? (i := 1145) (by decide +kernel), List.mem_of_getElem? (i := 1146) (by decide +kernel)⟩
theorem lw_p42 : lw_okq (⟨"SharedAirModel", "refusesOffer", "(IIII)I"⟩, 21) := ⟨⟨by decide +kernel, by decide +kernel⟩, List.mem_of_getElem? (i := 977) (by decide +kernel), List.mem_of_getElem? (i := 1156) (by decide +kernel), List.mem_of_getElem? (i := 1157) (by decide +kernel)⟩
theorem lw_p43 : lw_okq (⟨"SharedAirModel", "isStation", "(I)Z"⟩, 21) := ⟨⟨by decide +kernel, by decide +kernel⟩, List.mem_of_getElem? (i := 977) (by decide +kernel), List.mem_of_getElem? (i := 1160) (by decide +kernel), List.mem_of_getElem? (i := 1161) (by decide +kernel)⟩
theorem lw_p44 : lw_okq (⟨"SharedAirModel", "goSlots", "(I)V"⟩, 21) := ⟨⟨by decide +kernel, by decide +kernel⟩, List.mem_of_getElem? (i := 977) (by decide +kernel), List.mem_of_getElem? (i := 1168) (by decide +kernel), List.mem_of_getElem? (i := 1169) (by decide +kernel)⟩
theorem lw_p45 : lw_okq (⟨"SharedAirModel", "slot", "()V"⟩, 21) := ⟨⟨by decide +kernel, by decide +kernel⟩, List.mem_of_getElem? (i := 977) (by decide +kernel), List.mem_of_getElem? (i := 1172) (by decide +kernel), List.mem_of_getElem? (i := 1173) (by decide +kernel)⟩
theorem lw_p46 : lw_okq (⟨"SharedAirModel", "stepBegin", "()V"⟩, 21) := ⟨⟨by decide +kernel, by decide +kernel⟩, List.mem_of_getElem? (i := 977) (by decide +kernel), List.mem_of_getElem? (i := 1176) (by decide +kernel), List.mem_of_getElem? (i := 1177) (by decide +kernel)⟩
theorem lw_p47 : lw_okq (⟨"SharedAirModel", "isFree", "(I)Z"⟩, 21) := ⟨⟨by decide +kernel, by decide +kernel⟩, List.mem_of_getElem? (i := 977) (by decide +kernel), List.mem_of_getElem? (i := 1180) (by decide +kernel), List.mem_of_getElem? (i := 1181) (by decide +kernel)⟩
def lw_privs_3 : List (MethodName × Nat) := [(⟨"SharedAirModel", "fault", "(I)V"⟩, 21), (⟨"SharedAirModel", "readPair", "(I)I"⟩, 21), (⟨"SharedAirModel", "wasRight", "()Z"⟩, 21), (⟨"SharedAirModel", "change", "()V"⟩, 21), (⟨"SharedAirModel", "note", "()V"⟩, 21), (⟨"SharedAirModel", "lost", "()I"⟩, 21), (⟨"SharedAirModel", "goesOn", "()Z"⟩, 21), (⟨"SharedAirModel", "hears", "(II)Z"⟩, 21), (⟨"SharedAirModel", "quality", "(II)I"⟩, 21), (⟨"SharedAirModel", "put", "(IIIII)V"⟩, 21), (⟨"SharedAirModel", "refusesOffer", "(IIII)I"⟩, 21), (⟨"SharedAirModel", "isStation", "(I)Z"⟩, 21), (⟨"SharedAirModel", "goSlots", "(I)V"⟩, 21), (⟨"SharedAirModel", "slot", "()V"⟩, 21), (⟨"SharedAirModel", "stepBegin", "()V"⟩, 21), (⟨"SharedAirModel", "isFree", "(I)Z"⟩, 21)]
theorem lw_r3 : ∀ q ∈ lw_privs_3, lw_okq q := List.forall_mem_cons.mpr ⟨lw_p32, List.forall_mem_cons.mpr ⟨lw_p33, List.forall_mem_cons.mpr ⟨lw_p34, List.forall_mem_cons.mpr ⟨lw_p35, List.forall_mem_cons.mpr ⟨lw_p36, List.forall_mem_cons.mpr ⟨lw_p37, List.forall_mem_cons.mpr ⟨lw_p38, List.forall_mem_cons.mpr ⟨lw_p39, List.forall_mem_cons.mpr ⟨lw_p40, List.forall_mem_cons.mpr ⟨lw_p41, List.forall_mem_cons.mpr ⟨lw_p42, List.forall_mem_cons.mpr ⟨lw_p43, List.forall_mem_cons.mpr ⟨lw_p44, List.forall_mem_cons.mpr ⟨lw_p45, List.forall_mem_cons.mpr ⟨lw_p46, List.forall_mem_cons.mpr ⟨lw_p47, fun _ h => absurd h List.not_mem_nil⟩⟩⟩⟩⟩⟩⟩⟩⟩⟩⟩⟩⟩⟩⟩⟩
theorem lw_p48 : lw_okq (⟨"SharedAirModel", "isReady", "(II)Z"⟩, 21) := ⟨⟨by decide +kernel, by decide +kernel⟩, List.mem_of_getElem? (i := 977) (by decide +kernel), List.mem_of_getElem? (i := 1187) (by decide +kernel), List.mem_of_getElem? (i := 1188) (by decide +kernel)⟩
theorem lw_p49 : lw_okq (⟨"SharedAirModel", "begins", "(II)V"⟩, 21) := ⟨⟨by decide +kernel, by decide +kernel⟩, List.mem_of_getElem? (i := 977) (by decide +kernel), List.mem_of_getElem? (i := 1191) (by decide +kernel), List.mem_of_getElem? (i := 1192) (by decide +kernel)⟩
theorem lw_p50 : lw_okq (⟨"SharedAirModel", "had", "(III)V"⟩, 21) := ⟨⟨by decide +kernel, by decide +kernel⟩, List.mem_of_getElem? (i := 977) (by decide +kernel), List.mem_of_getElem? (i := 1198) (by decide +kernel), List.mem_of_getElem? (i := 1199) (by decide +kernel)⟩
theorem lw_p51 : lw_okq (⟨"SharedAirModel", "fails", "(II)V"⟩, 21) := ⟨⟨by decide +kernel, by decide +kernel⟩, List.mem_of_getElem? (i := 977) (by decide +kernel), List.mem_of_getElem? (i := 1202) (by decide +kernel), List.mem_of_getElem? (i := 1203) (by decide +kernel)⟩
theorem lw_p52 : lw_okq (⟨"SharedAirModel", "isLost", "(III)V"⟩, 21) := ⟨⟨by decide +kernel, by decide +kernel⟩, List.mem_of_getElem? (i := 977) (by decide +kernel), List.mem_of_getElem? (i := 1206) (by decide +kernel), List.mem_of_getElem? (i := 1207) (by decide +kernel)⟩
theorem lw_p53 : lw_okq (⟨"SharedAirModel", "leaves", "(III)V"⟩, 21) := ⟨⟨by decide +kernel, by decide +kernel⟩, List.mem_of_getElem? (i := 977) (by decide +kernel), List.mem_of_getElem? (i := 1210) (by decide +kernel), List.mem_of_getElem? (i := 1211) (by decide +kernel)⟩
theorem lw_p54 : lw_okq (⟨"SharedAirModel", "drawsCount", "(II)V"⟩, 21) := ⟨⟨by decide +kernel, by decide +kernel⟩, List.mem_of_getElem? (i := 977) (by decide +kernel), List.mem_of_getElem? (i := 1215) (by decide +kernel), List.mem_of_getElem? (i := 1216) (by decide +kernel)⟩
theorem lw_p55 : lw_okq (⟨"SharedAirModel", "draw", "(I)I"⟩, 21) := ⟨⟨by decide +kernel, by decide +kernel⟩, List.mem_of_getElem? (i := 977) (by decide +kernel), List.mem_of_getElem? (i := 1219) (by decide +kernel), List.mem_of_getElem? (i := 1220) (by decide +kernel)⟩
theorem lw_p56 : lw_okq (⟨"SharedAirModel", "stepSend", "()V"⟩, 21) := ⟨⟨by decide +kernel, by decide +kernel⟩, List.mem_of_getElem? (i := 977) (by decide +kernel), List.mem_of_getElem? (i := 1224) (by decide +kernel), List.mem_of_getElem? (i := 1225) (by decide +kernel)⟩
theorem lw_p57 : lw_okq (⟨"SharedAirModel", "isClear", "(II)Z"⟩, 21) := ⟨⟨by decide +kernel, by decide +kernel⟩, List.mem_of_getElem? (i := 977) (by decide +kernel), List.mem_of_getElem? (i := 1228) (by decide +kernel), List.mem_of_getElem? (i := 1229) (by decide +kernel)⟩
theorem lw_p58 : lw_okq (⟨"SharedAirModel", "hearsOthers", "(II)Z"⟩, 21) := ⟨⟨by decide +kernel, by decide +kernel⟩, List.mem_of_getElem? (i := 977) (by decide +kernel), List.mem_of_getElem? (i := 1232) (by decide +kernel), List.mem_of_getElem? (i := 1233) (by decide +kernel)⟩
theorem lw_p59 : lw_okq (⟨"SharedAirModel", "stepHeld", "()V"⟩, 21) := ⟨⟨by decide +kernel, by decide +kernel⟩, List.mem_of_getElem? (i := 977) (by decide +kernel), List.mem_of_getElem? (i := 1236) (by decide +kernel), List.mem_of_getElem? (i := 1237) (by decide +kernel)⟩
theorem lw_p60 : lw_okq (⟨"SharedAirModel", "waiting", "(I)I"⟩, 21) := ⟨⟨by decide +kernel, by decide +kernel⟩, List.mem_of_getElem? (i := 977) (by decide +kernel), List.mem_of_getElem? (i := 1240) (by decide +kernel), List.mem_of_getElem? (i := 1241) (by decide +kernel)⟩
theorem lw_p61 : lw_okq (⟨"SharedAirModel", "stepSender", "(I)V"⟩, 21) := ⟨⟨by decide +kernel, by decide +kernel⟩, List.mem_of_getElem? (i := 977) (by decide +kernel), List.mem_of_getElem? (i := 1244) (by decide +kernel), List.mem_of_getElem? (i := 1245) (by decide +kernel)⟩
theorem lw_p62 : lw_okq (⟨"SharedAirModel", "owes", "(III)V"⟩, 21) := ⟨⟨by decide +kernel, by decide +kernel⟩, List.mem_of_getElem? (i := 977) (by decide +kernel), List.mem_of_getElem? (i := 1248) (by decide +kernel), List.mem_of_getElem? (i := 1249) (by decide +kernel)⟩
theorem lw_p63 : lw_okq (⟨"SharedAirModel", "spans", "(IIII)V"⟩, 21) := ⟨⟨by decide +kernel, by decide +kernel⟩, List.mem_of_getElem? (i := 977) (by decide +kernel), List.mem_of_getElem? (i := 1252) (by decide +kernel), List.mem_of_getElem? (i := 1253) (by decide +kernel)⟩
def lw_privs_4 : List (MethodName × Nat) := [(⟨"SharedAirModel", "isReady", "(II)Z"⟩, 21), (⟨"SharedAirModel", "begins", "(II)V"⟩, 21), (⟨"SharedAirModel", "had", "(III)V"⟩, 21), (⟨"SharedAirModel", "fails", "(II)V"⟩, 21), (⟨"SharedAirModel", "isLost", "(III)V"⟩, 21), (⟨"SharedAirModel", "leaves", "(III)V"⟩, 21), (⟨"SharedAirModel", "drawsCount", "(II)V"⟩, 21), (⟨"SharedAirModel", "draw", "(I)I"⟩, 21), (⟨"SharedAirModel", "stepSend", "()V"⟩, 21), (⟨"SharedAirModel", "isClear", "(II)Z"⟩, 21), (⟨"SharedAirModel", "hearsOthers", "(II)Z"⟩, 21), (⟨"SharedAirModel", "stepHeld", "()V"⟩, 21), (⟨"SharedAirModel", "waiting", "(I)I"⟩, 21), (⟨"SharedAirModel", "stepSender", "(I)V"⟩, 21), (⟨"SharedAirModel", "owes", "(III)V"⟩, 21), (⟨"SharedAirModel", "spans", "(IIII)V"⟩, 21)]
theorem lw_r4 : ∀ q ∈ lw_privs_4, lw_okq q := List.forall_mem_cons.mpr ⟨lw_p48, List.forall_mem_cons.mpr ⟨lw_p49, List.forall_mem_cons.mpr ⟨lw_p50, List.forall_mem_cons.mpr ⟨lw_p51, List.forall_mem_cons.mpr ⟨lw_p52, List.forall_mem_cons.mpr ⟨lw_p53, List.forall_mem_cons.mpr ⟨lw_p54, List.forall_mem_cons.mpr ⟨lw_p55, List.forall_mem_cons.mpr ⟨lw_p56, List.forall_mem_cons.mpr ⟨lw_p57, List.forall_mem_cons.mpr ⟨lw_p58, List.forall_mem_cons.mpr ⟨lw_p59, List.forall_mem_cons.mpr ⟨lw_p60, List.forall_mem_cons.mpr ⟨lw_p61, List.forall_mem_cons.mpr ⟨lw_p62, List.forall_mem_cons.mpr ⟨lw_p63, fun _ h => absurd h List.not_mem_nil⟩⟩⟩⟩⟩⟩⟩⟩⟩⟩⟩⟩⟩⟩⟩⟩
theorem lw_p64 : lw_okq (⟨"SharedAirModel", "sendsIt", "(III)Z"⟩, 21) := ⟨⟨by decide +kernel, by decide +kernel⟩, List.mem_of_getElem? (i := 977) (by decide +kernel), List.mem_of_getElem? (i := 1256) (by decide +kernel), List.mem_of_getElem? (i := 1257) (by decide +kernel)⟩
theorem lw_p65 : lw_okq (⟨"SharedAirModel", "failsBy", "(IZ)V"⟩, 21) := ⟨⟨by decide +kernel, by decide +kernel⟩, List.mem_of_getElem? (i := 977) (by decide +kernel), List.mem_of_getElem? (i := 1260) (by decide +kernel), List.mem_of_getElem? (i := 1261) (by decide +kernel)⟩
theorem lw_p66 : lw_okq (⟨"SharedAirModel", "stepData", "(I)V"⟩, 21) := ⟨⟨by decide +kernel, by decide +kernel⟩, List.mem_of_getElem? (i := 977) (by decide +kernel), List.mem_of_getElem? (i := 1265) (by decide +kernel), List.mem_of_getElem? (i := 1266) (by decide +kernel)⟩
theorem lw_p67 : lw_okq (⟨"SharedAirModel", "delivers", "(I)V"⟩, 21) := ⟨⟨by decide +kernel, by decide +kernel⟩, List.mem_of_getElem? (i := 977) (by decide +kernel), List.mem_of_getElem? (i := 1269) (by decide +kernel), List.mem_of_getElem? (i := 1270) (by decide +kernel)⟩
theorem lw_p68 : lw_okq (⟨"SharedAirModel", "stepEnd", "()V"⟩, 21) := ⟨⟨by decide +kernel, by decide +kernel⟩, List.mem_of_getElem? (i := 977) (by decide +kernel), List.mem_of_getElem? (i := 1273) (by decide +kernel), List.mem_of_getElem? (i := 1274) (by decide +kernel)⟩
theorem lw_p69 : lw_okq (⟨"SharedAirModel", "tell", "(J)V"⟩, 21) := ⟨⟨by decide +kernel, by decide +kernel⟩, List.mem_of_getElem? (i := 977) (by decide +kernel), List.mem_of_getElem? (i := 1277) (by decide +kernel), List.mem_of_getElem? (i := 1278) (by decide +kernel)⟩
theorem lw_p70 : lw_okq (⟨"SharedAirModel", "drawAll", "()I"⟩, 21) := ⟨⟨by decide +kernel, by decide +kernel⟩, List.mem_of_getElem? (i := 977) (by decide +kernel), List.mem_of_getElem? (i := 1285) (by decide +kernel), List.mem_of_getElem? (i := 1286) (by decide +kernel)⟩
theorem lw_p71 : lw_okq (⟨"SharedAirModel", "heardBy", "(I)I"⟩, 21) := ⟨⟨by decide +kernel, by decide +kernel⟩, List.mem_of_getElem? (i := 977) (by decide +kernel), List.mem_of_getElem? (i := 1293) (by decide +kernel), List.mem_of_getElem? (i := 1294) (by decide +kernel)⟩
theorem lw_p72 : lw_okq (⟨"SharedAirModel", "placesOf", "(I)I"⟩, 21) := ⟨⟨by decide +kernel, by decide +kernel⟩, List.mem_of_getElem? (i := 977) (by decide +kernel), List.mem_of_getElem? (i := 1309) (by decide +kernel), List.mem_of_getElem? (i := 1310) (by decide +kernel)⟩
theorem lw_p73 : lw_okq (⟨"SharedAirModel", "layAside", "()V"⟩, 21) := ⟨⟨by decide +kernel, by decide +kernel⟩, List.mem_of_getElem? (i := 977) (by decide +kernel), List.mem_of_getElem? (i := 1378) (by decide +kernel), List.mem_of_getElem? (i := 1379) (by decide +kernel)⟩
theorem lw_p74 : lw_okq (⟨"SharedAirModel", "allWaiting", "()I"⟩, 21) := ⟨⟨by decide +kernel, by decide +kernel⟩, List.mem_of_getElem? (i := 977) (by decide +kernel), List.mem_of_getElem? (i := 1382) (by decide +kernel), List.mem_of_getElem? (i := 1383) (by decide +kernel)⟩
theorem lw_p75 : lw_okq (⟨"SharedAirModel", "comesBack", "()V"⟩, 21) := ⟨⟨by decide +kernel, by decide +kernel⟩, List.mem_of_getElem? (i := 977) (by decide +kernel), List.mem_of_getElem? (i := 1386) (by decide +kernel), List.mem_of_getElem? (i := 1387) (by decide +kernel)⟩
theorem lw_p76 : lw_okq (⟨"SharedAirModel", "isQuiet", "()Z"⟩, 21) := ⟨⟨by decide +kernel, by decide +kernel⟩, List.mem_of_getElem? (i := 977) (by decide +kernel), List.mem_of_getElem? (i := 1394) (by decide +kernel), List.mem_of_getElem? (i := 1395) (by decide +kernel)⟩
theorem lw_p77 : lw_okq (⟨"SharedAirModel", "takes", "(II)I"⟩, 21) := ⟨⟨by decide +kernel, by decide +kernel⟩, List.mem_of_getElem? (i := 977) (by decide +kernel), List.mem_of_getElem? (i := 1406) (by decide +kernel), List.mem_of_getElem? (i := 1407) (by decide +kernel)⟩
theorem lw_p78 : lw_okq (⟨"SharedAirModel", "readAct", "(I)V"⟩, 21) := ⟨⟨by decide +kernel, by decide +kernel⟩, List.mem_of_getElem? (i := 977) (by decide +kernel), List.mem_of_getElem? (i := 1414) (by decide +kernel), List.mem_of_getElem? (i := 1415) (by decide +kernel)⟩
theorem lw_p79 : lw_okq (⟨"SharedAirModel", "twoDigits", "()I"⟩, 21) := ⟨⟨by decide +kernel, by decide +kernel⟩, List.mem_of_getElem? (i := 977) (by decide +kernel), List.mem_of_getElem? (i := 1418) (by decide +kernel), List.mem_of_getElem? (i := 1419) (by decide +kernel)⟩
def lw_privs_5 : List (MethodName × Nat) := [(⟨"SharedAirModel", "sendsIt", "(III)Z"⟩, 21), (⟨"SharedAirModel", "failsBy", "(IZ)V"⟩, 21), (⟨"SharedAirModel", "stepData", "(I)V"⟩, 21), (⟨"SharedAirModel", "delivers", "(I)V"⟩, 21), (⟨"SharedAirModel", "stepEnd", "()V"⟩, 21), (⟨"SharedAirModel", "tell", "(J)V"⟩, 21), (⟨"SharedAirModel", "drawAll", "()I"⟩, 21), (⟨"SharedAirModel", "heardBy", "(I)I"⟩, 21), (⟨"SharedAirModel", "placesOf", "(I)I"⟩, 21), (⟨"SharedAirModel", "layAside", "()V"⟩, 21), (⟨"SharedAirModel", "allWaiting", "()I"⟩, 21), (⟨"SharedAirModel", "comesBack", "()V"⟩, 21), (⟨"SharedAirModel", "isQuiet", "()Z"⟩, 21), (⟨"SharedAirModel", "takes", "(II)I"⟩, 21), (⟨"SharedAirModel", "readAct", "(I)V"⟩, 21), (⟨"SharedAirModel", "twoDigits", "()I"⟩, 21)]
theorem lw_r5 : ∀ q ∈ lw_privs_5, lw_okq q := List.forall_mem_cons.mpr ⟨lw_p64, List.forall_mem_cons.mpr ⟨lw_p65, List.forall_mem_cons.mpr ⟨lw_p66, List.forall_mem_cons.mpr ⟨lw_p67, List.forall_mem_cons.mpr ⟨lw_p68, List.forall_mem_cons.mpr ⟨lw_p69, List.forall_mem_cons.mpr ⟨lw_p70, List.forall_mem_cons.mpr ⟨lw_p71, List.forall_mem_cons.mpr ⟨lw_p72, List.forall_mem_cons.mpr ⟨lw_p73, List.forall_mem_cons.mpr ⟨lw_p74, List.forall_mem_cons.mpr ⟨lw_p75, List.forall_mem_cons.mpr ⟨lw_p76, List.forall_mem_cons.mpr ⟨lw_p77, List.forall_mem_cons.mpr ⟨lw_p78, List.forall_mem_cons.mpr ⟨lw_p79, fun _ h => absurd h List.not_mem_nil⟩⟩⟩⟩⟩⟩⟩⟩⟩⟩⟩⟩⟩⟩⟩⟩
theorem lw_p80 : lw_okq (⟨"SharedAirModel", "act", "(I)Z"⟩, 21) := ⟨⟨by decide +kernel, by decide +kernel⟩, List.mem_of_getElem? (i := 977) (by decide +kernel), List.mem_of_getElem? (i := 1422) (by decide +kernel), List.mem_of_getElem? (i := 1423) (by decide +kernel)⟩
theorem lw_p81 : lw_okq (⟨"SharedAirModel", "drawBeside", "(I)I"⟩, 21) := ⟨⟨by decide +kernel, by decide +kernel⟩, List.mem_of_getElem? (i := 977) (by decide +kernel), List.mem_of_getElem? (i := 1434) (by decide +kernel), List.mem_of_getElem? (i := 1435) (by decide +kernel)⟩
theorem lw_p82 : lw_okq (⟨"SharedAirModel", "exchanges", "()I"⟩, 21) := ⟨⟨by decide +kernel, by decide +kernel⟩, List.mem_of_getElem? (i := 977) (by decide +kernel), List.mem_of_getElem? (i := 1450) (by decide +kernel), List.mem_of_getElem? (i := 1451) (by decide +kernel)⟩
def lw_privs_6 : List (MethodName × Nat) := [(⟨"SharedAirModel", "act", "(I)Z"⟩, 21), (⟨"SharedAirModel", "drawBeside", "(I)I"⟩, 21), (⟨"SharedAirModel", "exchanges", "()I"⟩, 21)]
theorem lw_r6 : ∀ q ∈ lw_privs_6, lw_okq q := List.forall_mem_cons.mpr ⟨lw_p80, List.forall_mem_cons.mpr ⟨lw_p81, List.forall_mem_cons.mpr ⟨lw_p82, fun _ h => absurd h List.not_mem_nil⟩⟩⟩
def lw_privs : List (MethodName × Nat) := lw_privs_1 ++ (lw_privs_2 ++ (lw_privs_3 ++ (lw_privs_4 ++ (lw_privs_5 ++ (lw_privs_6)))))
def lw_tbl : List Cond := k2_sels lw_privs ++ tables_1
theorem lw_privs_ok : ∀ q ∈ lw_privs, lw_okq q := by
  show ∀ q ∈ lw_privs_1 ++ (lw_privs_2 ++ (lw_privs_3 ++ (lw_privs_4 ++ (lw_privs_5 ++ (lw_privs_6))))), lw_okq q
  exact List.forall_mem_append.mpr ⟨lw_r1, List.forall_mem_append.mpr ⟨lw_r2, List.forall_mem_append.mpr ⟨lw_r3, List.forall_mem_append.mpr ⟨lw_r4, List.forall_mem_append.mpr ⟨lw_r5, lw_r6⟩⟩⟩⟩⟩
def RX0 : String := "SharedAir$Air"
def RX1 : String := "SharedAir$Dice"
def RX2 : String := "SharedAir$Exchange"
def RX3 : String := "SharedAir$Had"
def RX4 : String := "SharedAir$Numbers"
def RX5 : String := "SharedAir$Past"
def RX6 : String := "SharedAir$Queue"
def RX7 : String := "SharedAir$Signs"
def RX8 : String := "SharedAir$Station"
def RX9 : String := "SharedAir"
def RX10 : String := "SharedAirModel"
def RL : String := "SharedAirLaw"
def TX0 : u_T := fun k => match k with
  | 0 => ("SharedAir$Air", "settings", "[I", true)
  | 1 => ("SharedAir$Air", "dice", "LSharedAir$Dice;", true)
  | 2 => ("SharedAir$Air", "stations", "[LSharedAir$Station;", true)
  | 3 => ("SharedAir$Air", "many", "I", false)
  | 4 => ("SharedAir$Air", "time", "I", false)
  | 5 => ("SharedAir$Air", "sending", "I", false)
  | 6 => ("SharedAir$Air", "clear", "I", false)
  | 7 => ("SharedAir$Air", "ran", "I", false)
  | 8 => ("SharedAir$Air", "beginning", "I", false)
  | 9 => ("SharedAir$Air", "slotsOne", "I", false)
  | 10 => ("SharedAir$Air", "slotsNone", "I", false)
  | 11 => ("SharedAir$Air", "slotsMore", "I", false)
  | _ => ("SharedAir$Air", "markedCame", "Z", false)
def TX1 : u_T := fun k => match k with
  | _ => ("SharedAir$Dice", "seed", "I", false)
def TX2 : u_T := fun k => match k with
  | 0 => ("SharedAir$Exchange", "goesOn", "Z", false)
  | 1 => ("SharedAir$Exchange", "with", "I", false)
  | 2 => ("SharedAir$Exchange", "ofRank", "I", false)
  | 3 => ("SharedAir$Exchange", "frames", "I", false)
  | 4 => ("SharedAir$Exchange", "places", "I", false)
  | 5 => ("SharedAir$Exchange", "step", "I", false)
  | 6 => ("SharedAir$Exchange", "left", "I", false)
  | 7 => ("SharedAir$Exchange", "whole", "I", false)
  | 8 => ("SharedAir$Exchange", "end", "I", false)
  | 9 => ("SharedAir$Exchange", "failure", "I", false)
  | 10 => ("SharedAir$Exchange", "frameNow", "I", false)
  | 11 => ("SharedAir$Exchange", "placesNow", "I", false)
  | _ => ("SharedAir$Exchange", "brokenNow", "Z", false)
def TX3 : u_T := fun k => match k with
  | 0 => ("SharedAir$Had", "tallies", "[I", true)
  | 1 => ("SharedAir$Had", "spoiltBy", "[I", true)
  | 2 => ("SharedAir$Had", "dataPlaces", "I", false)
  | 3 => ("SharedAir$Had", "failure", "I", false)
  | 4 => ("SharedAir$Had", "failureSlot", "I", false)
  | 5 => ("SharedAir$Had", "failureWith", "I", false)
  | 6 => ("SharedAir$Had", "heldBySpan", "I", false)
  | 7 => ("SharedAir$Had", "heldByHearing", "I", false)
  | _ => ("SharedAir$Had", "heldElse", "I", false)
def TX4 : u_T := fun k => match k with
  | 0 => ("SharedAir$Numbers", "numbers", "[J", true)
  | _ => ("SharedAir$Numbers", "length", "I", false)
def TX5 : u_T := fun k => match k with
  | 0 => ("SharedAir$Past", "airs", "[LSharedAir$Air;", true)
  | 1 => ("SharedAir$Past", "size", "I", false)
  | _ => ("SharedAir$Past", "latest", "I", false)
def TX6 : u_T := fun k => match k with
  | 0 => ("SharedAir$Queue", "frames", "[I", true)
  | 1 => ("SharedAir$Queue", "size", "I", false)
  | 2 => ("SharedAir$Queue", "window", "I", false)
  | _ => ("SharedAir$Queue", "count", "I", false)
def TX7 : u_T := fun k => match k with
  | 0 => ("SharedAir$Signs", "signs", "[I", true)
  | _ => ("SharedAir$Signs", "length", "I", false)
def TX8 : u_T := fun k => match k with
  | 0 => ("SharedAir$Station", "queues", "[LSharedAir$Queue;", true)
  | 1 => ("SharedAir$Station", "exchange", "LSharedAir$Exchange;", true)
  | 2 => ("SharedAir$Station", "had", "LSharedAir$Had;", true)
  | 3 => ("SharedAir$Station", "qualities", "[I", true)
  | 4 => ("SharedAir$Station", "rates", "[I", true)
  | 5 => ("SharedAir$Station", "lucks", "[I", true)
  | 6 => ("SharedAir$Station", "hears", "I", false)
  | 7 => ("SharedAir$Station", "still", "I", false)
  | 8 => ("SharedAir$Station", "span", "I", false)
  | 9 => ("SharedAir$Station", "spanBy", "I", false)
  | 10 => ("SharedAir$Station", "spanStep", "I", false)
  | 11 => ("SharedAir$Station", "owesTo", "I", false)
  | _ => ("SharedAir$Station", "owes", "I", false)
def TX9 : u_T := fun k => match k with
  | 0 => ("SharedAir", "air", "LSharedAir$Air;", true)
  | 1 => ("SharedAir", "trial", "LSharedAir$Air;", true)
  | 2 => ("SharedAir", "yearDice", "LSharedAir$Dice;", true)
  | 3 => ("SharedAir", "past", "LSharedAir$Past;", true)
  | 4 => ("SharedAir", "kept", "[LSharedAir$Air;", true)
  | 5 => ("SharedAir", "isKept", "[Z", true)
  | 6 => ("SharedAir", "text", "LSharedAir$Signs;", true)
  | 7 => ("SharedAir", "told", "LSharedAir$Numbers;", true)
  | _ => ("SharedAir", "pairs", "[I", true)
def TX10 : u_T := fun k => match k with
  | 0 => ("SharedAirModel", "now", "[I", true)
  | 1 => ("SharedAirModel", "text", "[B", true)
  | 2 => ("SharedAirModel", "typed", "I", false)
  | 3 => ("SharedAirModel", "row", "[J", true)
  | 4 => ("SharedAirModel", "rowMany", "I", false)
  | 5 => ("SharedAirModel", "thrown", "I", false)
  | 6 => ("SharedAirModel", "length", "I", false)
  | 7 => ("SharedAirModel", "at", "I", false)
  | 8 => ("SharedAirModel", "wrong", "I", false)
  | 9 => ("SharedAirModel", "told", "[I", true)
  | 10 => ("SharedAirModel", "owesThen", "[I", true)
  | 11 => ("SharedAirModel", "whatThen", "[I", true)
  | 12 => ("SharedAirModel", "sends", "I", false)
  | 13 => ("SharedAirModel", "aside", "[I", true)
  | 14 => ("SharedAirModel", "acts", "[I", true)
  | 15 => ("SharedAirModel", "undos", "[I", true)
  | 16 => ("SharedAirModel", "was", "[I", true)
  | 17 => ("SharedAirModel", "undoMany", "I", false)
  | 18 => ("SharedAirModel", "drawn", "I", false)
  | 19 => ("SharedAirModel", "kept", "[I", true)
  | _ => ("SharedAirModel", "isKept", "[Z", true)
def tyX0 : Nat → FieldType := fun k => match k with
  | 0 => .array .int
  | 1 => .object "SharedAir$Dice"
  | 2 => .array (.object "SharedAir$Station")
  | 3 => .int
  | 4 => .int
  | 5 => .int
  | 6 => .int
  | 7 => .int
  | 8 => .int
  | 9 => .int
  | 10 => .int
  | 11 => .int
  | _ => .boolean
def tyX1 : Nat → FieldType := fun k => match k with
  | _ => .int
def tyX2 : Nat → FieldType := fun k => match k with
  | 0 => .boolean
  | 1 => .int
  | 2 => .int
  | 3 => .int
  | 4 => .int
  | 5 => .int
  | 6 => .int
  | 7 => .int
  | 8 => .int
  | 9 => .int
  | 10 => .int
  | 11 => .int
  | _ => .boolean
def tyX3 : Nat → FieldType := fun k => match k with
  | 0 => .array .int
  | 1 => .array .int
  | 2 => .int
  | 3 => .int
  | 4 => .int
  | 5 => .int
  | 6 => .int
  | 7 => .int
  | _ => .int
def tyX4 : Nat → FieldType := fun k => match k with
  | 0 => .array .long
  | _ => .int
def tyX5 : Nat → FieldType := fun k => match k with
  | 0 => .array (.object "SharedAir$Air")
  | 1 => .int
  | _ => .int
def tyX6 : Nat → FieldType := fun k => match k with
  | 0 => .array .int
  | 1 => .int
  | 2 => .int
  | _ => .int
def tyX7 : Nat → FieldType := fun k => match k with
  | 0 => .array .int
  | _ => .int
def tyX8 : Nat → FieldType := fun k => match k with
  | 0 => .array (.object "SharedAir$Queue")
  | 1 => .object "SharedAir$Exchange"
  | 2 => .object "SharedAir$Had"
  | 3 => .array .int
  | 4 => .array .int
  | 5 => .array .int
  | 6 => .int
  | 7 => .int
  | 8 => .int
  | 9 => .int
  | 10 => .int
  | 11 => .int
  | _ => .int
def tyX9 : Nat → FieldType := fun k => match k with
  | 0 => .object "SharedAir$Air"
  | 1 => .object "SharedAir$Air"
  | 2 => .object "SharedAir$Dice"
  | 3 => .object "SharedAir$Past"
  | 4 => .array (.object "SharedAir$Air")
  | 5 => .array .boolean
  | 6 => .object "SharedAir$Signs"
  | 7 => .object "SharedAir$Numbers"
  | _ => .array .int
def tyX10 : Nat → FieldType := fun k => match k with
  | 0 => .array .int
  | 1 => .array .byte
  | 2 => .int
  | 3 => .array .long
  | 4 => .int
  | 5 => .int
  | 6 => .int
  | 7 => .int
  | 8 => .int
  | 9 => .array .int
  | 10 => .array .int
  | 11 => .array .int
  | 12 => .int
  | 13 => .array .int
  | 14 => .array .int
  | 15 => .array .int
  | 16 => .array .int
  | 17 => .int
  | 18 => .int
  | 19 => .array .int
  | _ => .array .boolean
theorem nmX0 : ∀ a, a < 13 → ∀ b, b < 13 → a ≠ b → (TX0 a).2.1 ≠ (TX0 b).2.1 := by decide +kernel
theorem nmX1 : ∀ a, a < 1 → ∀ b, b < 1 → a ≠ b → (TX1 a).2.1 ≠ (TX1 b).2.1 := by decide +kernel
theorem nmX2 : ∀ a, a < 13 → ∀ b, b < 13 → a ≠ b → (TX2 a).2.1 ≠ (TX2 b).2.1 := by decide +kernel
theorem nmX3 : ∀ a, a < 9 → ∀ b, b < 9 → a ≠ b → (TX3 a).2.1 ≠ (TX3 b).2.1 := by decide +kernel
theorem nmX4 : ∀ a, a < 2 → ∀ b, b < 2 → a ≠ b → (TX4 a).2.1 ≠ (TX4 b).2.1 := by decide +kernel
theorem nmX5 : ∀ a, a < 3 → ∀ b, b < 3 → a ≠ b → (TX5 a).2.1 ≠ (TX5 b).2.1 := by decide +kernel
theorem nmX6 : ∀ a, a < 4 → ∀ b, b < 4 → a ≠ b → (TX6 a).2.1 ≠ (TX6 b).2.1 := by decide +kernel
theorem nmX7 : ∀ a, a < 2 → ∀ b, b < 2 → a ≠ b → (TX7 a).2.1 ≠ (TX7 b).2.1 := by decide +kernel
theorem nmX8 : ∀ a, a < 13 → ∀ b, b < 13 → a ≠ b → (TX8 a).2.1 ≠ (TX8 b).2.1 := by decide +kernel
theorem nmX9 : ∀ a, a < 9 → ∀ b, b < 9 → a ≠ b → (TX9 a).2.1 ≠ (TX9 b).2.1 := by decide +kernel
theorem nmX10 : ∀ a, a < 21 → ∀ b, b < 21 → a ≠ b → (TX10 a).2.1 ≠ (TX10 b).2.1 := by decide +kernel
theorem tyX0_ok : ∀ k, k < 13 → parseFieldDescriptor (TX0 k).2.2.1 = some (tyX0 k) := by decide +kernel
theorem tyX1_ok : ∀ k, k < 1 → parseFieldDescriptor (TX1 k).2.2.1 = some (tyX1 k) := by decide +kernel
theorem tyX2_ok : ∀ k, k < 13 → parseFieldDescriptor (TX2 k).2.2.1 = some (tyX2 k) := by decide +kernel
theorem tyX3_ok : ∀ k, k < 9 → parseFieldDescriptor (TX3 k).2.2.1 = some (tyX3 k) := by decide +kernel
theorem tyX4_ok : ∀ k, k < 2 → parseFieldDescriptor (TX4 k).2.2.1 = some (tyX4 k) := by decide +kernel
theorem tyX5_ok : ∀ k, k < 3 → parseFieldDescriptor (TX5 k).2.2.1 = some (tyX5 k) := by decide +kernel
theorem tyX6_ok : ∀ k, k < 4 → parseFieldDescriptor (TX6 k).2.2.1 = some (tyX6 k) := by decide +kernel
theorem tyX7_ok : ∀ k, k < 2 → parseFieldDescriptor (TX7 k).2.2.1 = some (tyX7 k) := by decide +kernel
theorem tyX8_ok : ∀ k, k < 13 → parseFieldDescriptor (TX8 k).2.2.1 = some (tyX8 k) := by decide +kernel
theorem tyX9_ok : ∀ k, k < 9 → parseFieldDescriptor (TX9 k).2.2.1 = some (tyX9 k) := by decide +kernel
theorem tyX10_ok : ∀ k, k < 21 → parseFieldDescriptor (TX10 k).2.2.1 = some (tyX10 k) := by decide +kernel
def RJ6 : String := "java/lang/Integer"
abbrev cX0_init : ByteArray := prog_2_method_1_code
def yX0_init : MethodName := ⟨RX0, "<init>", "()V"⟩
abbrev cX0_become : ByteArray := prog_2_method_2_code
def yX0_become : MethodName := ⟨RX0, "become", "(LSharedAir$Air;)V"⟩
abbrev cX0_startAnew : ByteArray := prog_2_method_3_code
def yX0_startAnew : MethodName := ⟨RX0, "startAnew", "(I[I)V"⟩
abbrev cX0_startStation : ByteArray := prog_2_method_4_code
def yX0_startStation : MethodName := ⟨RX0, "startStation", "(I[I)V"⟩
abbrev cX0_hear : ByteArray := prog_2_method_5_code
def yX0_hear : MethodName := ⟨RX0, "hear", "(II)Z"⟩
abbrev cX0_sumOf : ByteArray := prog_2_method_6_code
def yX0_sumOf : MethodName := ⟨RX0, "sumOf", "(I)I"⟩
abbrev cX0_waiting : ByteArray := prog_2_method_7_code
def yX0_waiting : MethodName := ⟨RX0, "waiting", "()I"⟩
abbrev cX0_exchangesOn : ByteArray := prog_2_method_8_code
def yX0_exchangesOn : MethodName := ⟨RX0, "exchangesOn", "()I"⟩
abbrev cX0_isQuiet : ByteArray := prog_2_method_9_code
def yX0_isQuiet : MethodName := ⟨RX0, "isQuiet", "()Z"⟩
abbrev cX0_emptyQueues : ByteArray := prog_2_method_10_code
def yX0_emptyQueues : MethodName := ⟨RX0, "emptyQueues", "(I)V"⟩
abbrev cX0_whyNotOffer : ByteArray := prog_2_method_11_code
def yX0_whyNotOffer : MethodName := ⟨RX0, "whyNotOffer", "(IIII)I"⟩
abbrev cX0_takeFrame : ByteArray := prog_2_method_12_code
def yX0_takeFrame : MethodName := ⟨RX0, "takeFrame", "(IIII)I"⟩
abbrev cX0_markLast : ByteArray := prog_2_method_13_code
def yX0_markLast : MethodName := ⟨RX0, "markLast", "(II)V"⟩
abbrev cX0_drawAll : ByteArray := prog_2_method_14_code
def yX0_drawAll : MethodName := ⟨RX0, "drawAll", "()I"⟩
abbrev cX0_isReady : ByteArray := prog_2_method_15_code
def yX0_isReady : MethodName := ⟨RX0, "isReady", "(II)Z"⟩
abbrev cX0_passSlot : ByteArray := prog_2_method_16_code
def yX0_passSlot : MethodName := ⟨RX0, "passSlot", "()V"⟩
abbrev cX0_runningSpans : ByteArray := prog_2_method_17_code
def yX0_runningSpans : MethodName := ⟨RX0, "runningSpans", "()I"⟩
abbrev cX0_beginOf : ByteArray := prog_2_method_18_code
def yX0_beginOf : MethodName := ⟨RX0, "beginOf", "(I)V"⟩
abbrev cX0_beginExchange : ByteArray := prog_2_method_19_code
def yX0_beginExchange : MethodName := ⟨RX0, "beginExchange", "(II)V"⟩
abbrev cX0_placesOf : ByteArray := prog_2_method_20_code
def yX0_placesOf : MethodName := ⟨RX0, "placesOf", "(LSharedAir$Station;I)I"⟩
abbrev cX0_senders : ByteArray := prog_2_method_21_code
def yX0_senders : MethodName := ⟨RX0, "senders", "()I"⟩
abbrev cX0_sendsNow : ByteArray := prog_2_method_22_code
def yX0_sendsNow : MethodName := ⟨RX0, "sendsNow", "(I)Z"⟩
abbrev cX0_isClear : ByteArray := prog_2_method_23_code
def yX0_isClear : MethodName := ⟨RX0, "isClear", "(II)Z"⟩
abbrev cX0_clearOnes : ByteArray := prog_2_method_24_code
def yX0_clearOnes : MethodName := ⟨RX0, "clearOnes", "()I"⟩
abbrev cX0_noteSlot : ByteArray := prog_2_method_25_code
def yX0_noteSlot : MethodName := ⟨RX0, "noteSlot", "()V"⟩
abbrev cX0_spread : ByteArray := prog_2_method_26_code
def yX0_spread : MethodName := ⟨RX0, "spread", "(IIIII)V"⟩
abbrev cX0_goAsk : ByteArray := prog_2_method_27_code
def yX0_goAsk : MethodName := ⟨RX0, "goAsk", "(IILSharedAir$Exchange;)V"⟩
abbrev cX0_goGrant : ByteArray := prog_2_method_28_code
def yX0_goGrant : MethodName := ⟨RX0, "goGrant", "(IILSharedAir$Exchange;)V"⟩
abbrev cX0_goData : ByteArray := prog_2_method_29_code
def yX0_goData : MethodName := ⟨RX0, "goData", "(IILSharedAir$Exchange;)V"⟩
abbrev cX0_noteSpoilt : ByteArray := prog_2_method_30_code
def yX0_noteSpoilt : MethodName := ⟨RX0, "noteSpoilt", "(LSharedAir$Had;I)V"⟩
abbrev cX0_goPlace : ByteArray := prog_2_method_31_code
def yX0_goPlace : MethodName := ⟨RX0, "goPlace", "(LSharedAir$Station;Z)V"⟩
abbrev cX0_goAnswer : ByteArray := prog_2_method_32_code
def yX0_goAnswer : MethodName := ⟨RX0, "goAnswer", "(IILSharedAir$Exchange;)V"⟩
abbrev cX0_deliver : ByteArray := prog_2_method_33_code
def yX0_deliver : MethodName := ⟨RX0, "deliver", "(ILSharedAir$Exchange;)V"⟩
abbrev cX0_failExchange : ByteArray := prog_2_method_34_code
def yX0_failExchange : MethodName := ⟨RX0, "failExchange", "(ILSharedAir$Exchange;)V"⟩
abbrev cX0_failFirst : ByteArray := prog_2_method_35_code
def yX0_failFirst : MethodName := ⟨RX0, "failFirst", "(II)V"⟩
abbrev cX0_settle : ByteArray := prog_2_method_36_code
def yX0_settle : MethodName := ⟨RX0, "settle", "(I)V"⟩
abbrev cX1_init : ByteArray := prog_3_method_1_code
def yX1_init : MethodName := ⟨RX1, "<init>", "()V"⟩
abbrev cX1_draw : ByteArray := prog_3_method_2_code
def yX1_draw : MethodName := ⟨RX1, "draw", "(I)I"⟩
abbrev cX2_init : ByteArray := prog_4_method_1_code
def yX2_init : MethodName := ⟨RX2, "<init>", "()V"⟩
abbrev cX2_become : ByteArray := prog_4_method_2_code
def yX2_become : MethodName := ⟨RX2, "become", "(LSharedAir$Exchange;)V"⟩
abbrev cX2_sends : ByteArray := prog_4_method_3_code
def yX2_sends : MethodName := ⟨RX2, "sends", "()Z"⟩
abbrev cX3_init : ByteArray := prog_5_method_1_code
def yX3_init : MethodName := ⟨RX3, "<init>", "()V"⟩
abbrev cX3_become : ByteArray := prog_5_method_2_code
def yX3_become : MethodName := ⟨RX3, "become", "(LSharedAir$Had;)V"⟩
abbrev cX3_startAnew : ByteArray := prog_5_method_3_code
def yX3_startAnew : MethodName := ⟨RX3, "startAnew", "()V"⟩
abbrev cX3_delivered : ByteArray := prog_5_method_4_code
def yX3_delivered : MethodName := ⟨RX3, "delivered", "(II)V"⟩
abbrev cX4_init : ByteArray := prog_6_method_1_code
def yX4_init : MethodName := ⟨RX4, "<init>", "()V"⟩
abbrev cX4_forget : ByteArray := prog_6_method_2_code
def yX4_forget : MethodName := ⟨RX4, "forget", "()V"⟩
abbrev cX4_add : ByteArray := prog_6_method_3_code
def yX4_add : MethodName := ⟨RX4, "add", "(J)V"⟩
abbrev cX4_tellOne : ByteArray := prog_6_method_4_code
def yX4_tellOne : MethodName := ⟨RX4, "tellOne", "(J)V"⟩
abbrev cX4_tellTwo : ByteArray := prog_6_method_5_code
def yX4_tellTwo : MethodName := ⟨RX4, "tellTwo", "(JJ)V"⟩
abbrev cX4_tellThree : ByteArray := prog_6_method_6_code
def yX4_tellThree : MethodName := ⟨RX4, "tellThree", "(JJJ)V"⟩
abbrev cX4_tellPart : ByteArray := prog_6_method_7_code
def yX4_tellPart : MethodName := ⟨RX4, "tellPart", "(JJ)V"⟩
abbrev cX5_init : ByteArray := prog_7_method_1_code
def yX5_init : MethodName := ⟨RX5, "<init>", "()V"⟩
abbrev cX5_push : ByteArray := prog_7_method_2_code
def yX5_push : MethodName := ⟨RX5, "push", "(LSharedAir$Air;)V"⟩
abbrev cX5_popInto : ByteArray := prog_7_method_3_code
def yX5_popInto : MethodName := ⟨RX5, "popInto", "(LSharedAir$Air;)Z"⟩
abbrev cX6_init : ByteArray := prog_8_method_1_code
def yX6_init : MethodName := ⟨RX6, "<init>", "()V"⟩
abbrev cX6_become : ByteArray := prog_8_method_2_code
def yX6_become : MethodName := ⟨RX6, "become", "(LSharedAir$Queue;)V"⟩
abbrev cX6_fieldOf : ByteArray := prog_8_method_3_code
def yX6_fieldOf : MethodName := ⟨RX6, "fieldOf", "(II)I"⟩
abbrev cX6_addLast : ByteArray := prog_8_method_4_code
def yX6_addLast : MethodName := ⟨RX6, "addLast", "(III)V"⟩
abbrev cX6_tryAgain : ByteArray := prog_8_method_5_code
def yX6_tryAgain : MethodName := ⟨RX6, "tryAgain", "(I)I"⟩
abbrev cX6_removeAt : ByteArray := prog_8_method_6_code
def yX6_removeAt : MethodName := ⟨RX6, "removeAt", "(I)V"⟩
abbrev cX6_alikeAtFirst : ByteArray := prog_8_method_7_code
def yX6_alikeAtFirst : MethodName := ⟨RX6, "alikeAtFirst", "(I)I"⟩
abbrev cX7_init : ByteArray := prog_9_method_1_code
def yX7_init : MethodName := ⟨RX7, "<init>", "()V"⟩
abbrev cX7_addFour : ByteArray := prog_9_method_2_code
def yX7_addFour : MethodName := ⟨RX7, "addFour", "(I)Z"⟩
abbrev cX7_cutTo : ByteArray := prog_9_method_3_code
def yX7_cutTo : MethodName := ⟨RX7, "cutTo", "(I)Z"⟩
abbrev cX7_at : ByteArray := prog_9_method_4_code
def yX7_at : MethodName := ⟨RX7, "at", "(I)I"⟩
abbrev cX7_digitAt : ByteArray := prog_9_method_5_code
def yX7_digitAt : MethodName := ⟨RX7, "digitAt", "(III)I"⟩
abbrev cX7_letterAt : ByteArray := prog_9_method_6_code
def yX7_letterAt : MethodName := ⟨RX7, "letterAt", "(II)I"⟩
abbrev cX8_init : ByteArray := prog_10_method_1_code
def yX8_init : MethodName := ⟨RX8, "<init>", "()V"⟩
abbrev cX8_become : ByteArray := prog_10_method_2_code
def yX8_become : MethodName := ⟨RX8, "become", "(LSharedAir$Station;)V"⟩
abbrev cX8_isFree : ByteArray := prog_10_method_3_code
def yX8_isFree : MethodName := ⟨RX8, "isFree", "()Z"⟩
abbrev cX8_waiting : ByteArray := prog_10_method_4_code
def yX8_waiting : MethodName := ⟨RX8, "waiting", "()I"⟩
abbrev cX8_setOwing : ByteArray := prog_10_method_5_code
def yX8_setOwing : MethodName := ⟨RX8, "setOwing", "(II)V"⟩
abbrev cX8_pays : ByteArray := prog_10_method_6_code
def yX8_pays : MethodName := ⟨RX8, "pays", "(II)Z"⟩
abbrev cX8_listen : ByteArray := prog_10_method_7_code
def yX8_listen : MethodName := ⟨RX8, "listen", "(III)V"⟩
abbrev cX9_init : ByteArray := prog_1_method_1_code
def yX9_init : MethodName := ⟨RX9, "<init>", "()V"⟩
abbrev cX9_sign : ByteArray := prog_1_method_2_code
def yX9_sign : MethodName := ⟨RX9, "sign", "(I)I"⟩
abbrev cX9_end : ByteArray := prog_1_method_3_code
def yX9_end : MethodName := ⟨RX9, "end", "(I)Z"⟩
abbrev cX9_net : ByteArray := prog_1_method_4_code
def yX9_net : MethodName := ⟨RX9, "net", "()I"⟩
abbrev cX9_sets : ByteArray := prog_1_method_5_code
def yX9_sets : MethodName := ⟨RX9, "sets", "(II)I"⟩
abbrev cX9_setting : ByteArray := prog_1_method_6_code
def yX9_setting : MethodName := ⟨RX9, "setting", "(I)I"⟩
abbrev cX9_sheet : ByteArray := prog_1_method_7_code
def yX9_sheet : MethodName := ⟨RX9, "sheet", "(IIIII)I"⟩
abbrev cX9_offers : ByteArray := prog_1_method_8_code
def yX9_offers : MethodName := ⟨RX9, "offers", "(IIII)I"⟩
abbrev cX9_slots : ByteArray := prog_1_method_9_code
def yX9_slots : MethodName := ⟨RX9, "slots", "(I)I"⟩
abbrev cX9_draws : ByteArray := prog_1_method_10_code
def yX9_draws : MethodName := ⟨RX9, "draws", "()I"⟩
abbrev cX9_station : ByteArray := prog_1_method_11_code
def yX9_station : MethodName := ⟨RX9, "station", "(II)I"⟩
abbrev cX9_rank : ByteArray := prog_1_method_12_code
def yX9_rank : MethodName := ⟨RX9, "rank", "(III)I"⟩
abbrev cX9_frame : ByteArray := prog_1_method_13_code
def yX9_frame : MethodName := ⟨RX9, "frame", "(IIII)I"⟩
abbrev cX9_exchange : ByteArray := prog_1_method_14_code
def yX9_exchange : MethodName := ⟨RX9, "exchange", "(II)I"⟩
abbrev cX9_sent : ByteArray := prog_1_method_15_code
def yX9_sent : MethodName := ⟨RX9, "sent", "()I"⟩
abbrev cX9_spanOf : ByteArray := prog_1_method_16_code
def yX9_spanOf : MethodName := ⟨RX9, "spanOf", "(I)I"⟩
abbrev cX9_rate : ByteArray := prog_1_method_17_code
def yX9_rate : MethodName := ⟨RX9, "rate", "(II)I"⟩
abbrev cX9_hidden : ByteArray := prog_1_method_18_code
def yX9_hidden : MethodName := ⟨RX9, "hidden", "()I"⟩
abbrev cX9_tally : ByteArray := prog_1_method_19_code
def yX9_tally : MethodName := ⟨RX9, "tally", "(II)I"⟩
abbrev cX9_why : ByteArray := prog_1_method_20_code
def yX9_why : MethodName := ⟨RX9, "why", "(I)I"⟩
abbrev cX9_spoilt : ByteArray := prog_1_method_21_code
def yX9_spoilt : MethodName := ⟨RX9, "spoilt", "(II)I"⟩
abbrev cX9_held : ByteArray := prog_1_method_22_code
def yX9_held : MethodName := ⟨RX9, "held", "(I)I"⟩
abbrev cX9_even : ByteArray := prog_1_method_23_code
def yX9_even : MethodName := ⟨RX9, "even", "()I"⟩
abbrev cX9_busy : ByteArray := prog_1_method_24_code
def yX9_busy : MethodName := ⟨RX9, "busy", "()I"⟩
abbrev cX9_odds : ByteArray := prog_1_method_25_code
def yX9_odds : MethodName := ⟨RX9, "odds", "(II)I"⟩
abbrev cX9_window : ByteArray := prog_1_method_26_code
def yX9_window : MethodName := ⟨RX9, "window", "(II)I"⟩
abbrev cX9_ahead : ByteArray := prog_1_method_27_code
def yX9_ahead : MethodName := ⟨RX9, "ahead", "(II)I"⟩
abbrev cX9_quiet : ByteArray := prog_1_method_28_code
def yX9_quiet : MethodName := ⟨RX9, "quiet", "()I"⟩
abbrev cX9_next : ByteArray := prog_1_method_29_code
def yX9_next : MethodName := ⟨RX9, "next", "()I"⟩
abbrev cX9_soonest : ByteArray := prog_1_method_30_code
def yX9_soonest : MethodName := ⟨RX9, "soonest", "(I)I"⟩
abbrev cX9_day : ByteArray := prog_1_method_31_code
def yX9_day : MethodName := ⟨RX9, "day", "()I"⟩
abbrev cX9_undo : ByteArray := prog_1_method_32_code
def yX9_undo : MethodName := ⟨RX9, "undo", "()I"⟩
abbrev cX9_years : ByteArray := prog_1_method_33_code
def yX9_years : MethodName := ⟨RX9, "years", "(II)I"⟩
abbrev cX9_keep : ByteArray := prog_1_method_34_code
def yX9_keep : MethodName := ⟨RX9, "keep", "(I)Z"⟩
abbrev cX9_again : ByteArray := prog_1_method_35_code
def yX9_again : MethodName := ⟨RX9, "again", "(I)Z"⟩
abbrev cX9_count : ByteArray := prog_1_method_36_code
def yX9_count : MethodName := ⟨RX9, "count", "(I)I"⟩
abbrev cX9_row : ByteArray := prog_1_method_37_code
def yX9_row : MethodName := ⟨RX9, "row", "(I)J"⟩
abbrev cX9_isStation : ByteArray := prog_1_method_38_code
def yX9_isStation : MethodName := ⟨RX9, "isStation", "(I)Z"⟩
abbrev cX9_isRank : ByteArray := prog_1_method_39_code
def yX9_isRank : MethodName := ⟨RX9, "isRank", "(I)Z"⟩
abbrev cX9_readPairs : ByteArray := prog_1_method_40_code
def yX9_readPairs : MethodName := ⟨RX9, "readPairs", "(I)I"⟩
abbrev cX9_entryOf : ByteArray := prog_1_method_41_code
def yX9_entryOf : MethodName := ⟨RX9, "entryOf", "(II)I"⟩
abbrev cX9_comesFromEntry : ByteArray := prog_1_method_42_code
def yX9_comesFromEntry : MethodName := ⟨RX9, "comesFromEntry", "(III)Z"⟩
abbrev cX9_waysAlone : ByteArray := prog_1_method_43_code
def yX9_waysAlone : MethodName := ⟨RX9, "waysAlone", "(II)J"⟩
abbrev cX9_power : ByteArray := prog_1_method_44_code
def yX9_power : MethodName := ⟨RX9, "power", "(II)J"⟩
abbrev cX9_slotsTillDelivered : ByteArray := prog_1_method_45_code
def yX9_slotsTillDelivered : MethodName := ⟨RX9, "slotsTillDelivered", "(II)I"⟩
abbrev cX9_actLength : ByteArray := prog_1_method_46_code
def yX9_actLength : MethodName := ⟨RX9, "actLength", "(I)I"⟩
abbrev cX9_faultInDay : ByteArray := prog_1_method_47_code
def yX9_faultInDay : MethodName := ⟨RX9, "faultInDay", "()I"⟩
abbrev cX9_faultInAct : ByteArray := prog_1_method_48_code
def yX9_faultInAct : MethodName := ⟨RX9, "faultInAct", "(I)I"⟩
abbrev cX9_doAct : ByteArray := prog_1_method_49_code
def yX9_doAct : MethodName := ⟨RX9, "doAct", "(I)Z"⟩
abbrev cX9_offerDrawn : ByteArray := prog_1_method_50_code
def yX9_offerDrawn : MethodName := ⟨RX9, "offerDrawn", "()V"⟩
abbrev cX10_init : ByteArray := prog_12_method_1_code
def yX10_init : MethodName := ⟨RX10, "<init>", "()V"⟩
abbrev cX10_thrown : ByteArray := prog_12_method_2_code
def yX10_thrown : MethodName := ⟨RX10, "thrown", "()I"⟩
abbrev cX10_in : ByteArray := prog_12_method_3_code
def yX10_in : MethodName := ⟨RX10, "in", "(III)Z"⟩
abbrev cX10_has : ByteArray := prog_12_method_4_code
def yX10_has : MethodName := ⟨RX10, "has", "(II)Z"⟩
abbrev cX10_lost : ByteArray := prog_12_method_5_code
def yX10_lost : MethodName := ⟨RX10, "lost", "()I"⟩
abbrev cX10_tell : ByteArray := prog_12_method_6_code
def yX10_tell : MethodName := ⟨RX10, "tell", "(J)V"⟩
abbrev cX10_common : ByteArray := prog_12_method_7_code
def yX10_common : MethodName := ⟨RX10, "common", "(II)I"⟩
abbrev cX10_commonLong : ByteArray := prog_12_method_8_code
def yX10_commonLong : MethodName := ⟨RX10, "commonLong", "(JJ)J"⟩
abbrev cX10_isStation : ByteArray := prog_12_method_9_code
def yX10_isStation : MethodName := ⟨RX10, "isStation", "(I)Z"⟩
abbrev cX10_isRank : ByteArray := prog_12_method_10_code
def yX10_isRank : MethodName := ⟨RX10, "isRank", "(I)Z"⟩
abbrev cX10_quality : ByteArray := prog_12_method_11_code
def yX10_quality : MethodName := ⟨RX10, "quality", "(II)I"⟩
abbrev cX10_hears : ByteArray := prog_12_method_12_code
def yX10_hears : MethodName := ⟨RX10, "hears", "(II)Z"⟩
abbrev cX10_at : ByteArray := prog_12_method_13_code
def yX10_at : MethodName := ⟨RX10, "at", "(II)I"⟩
abbrev cX10_frameAt : ByteArray := prog_12_method_14_code
def yX10_frameAt : MethodName := ⟨RX10, "frameAt", "(III)I"⟩
abbrev cX10_exchangeAt : ByteArray := prog_12_method_15_code
def yX10_exchangeAt : MethodName := ⟨RX10, "exchangeAt", "(I)I"⟩
abbrev cX10_draw : ByteArray := prog_12_method_16_code
def yX10_draw : MethodName := ⟨RX10, "draw", "(I)I"⟩
abbrev cX10_sign : ByteArray := prog_12_method_17_code
def yX10_sign : MethodName := ⟨RX10, "sign", "(I)I"⟩
abbrev cX10_end : ByteArray := prog_12_method_18_code
def yX10_end : MethodName := ⟨RX10, "end", "(I)Z"⟩
abbrev cX10_begin : ByteArray := prog_12_method_19_code
def yX10_begin : MethodName := ⟨RX10, "begin", "()V"⟩
abbrev cX10_here : ByteArray := prog_12_method_20_code
def yX10_here : MethodName := ⟨RX10, "here", "()I"⟩
abbrev cX10_fine : ByteArray := prog_12_method_21_code
def yX10_fine : MethodName := ⟨RX10, "fine", "()Z"⟩
abbrev cX10_fault : ByteArray := prog_12_method_22_code
def yX10_fault : MethodName := ⟨RX10, "fault", "(I)V"⟩
abbrev cX10_oneOf : ByteArray := prog_12_method_23_code
def yX10_oneOf : MethodName := ⟨RX10, "oneOf", "(CI)I"⟩
abbrev cX10_twoDigits : ByteArray := prog_12_method_24_code
def yX10_twoDigits : MethodName := ⟨RX10, "twoDigits", "()I"⟩
abbrev cX10_wasRight : ByteArray := prog_12_method_25_code
def yX10_wasRight : MethodName := ⟨RX10, "wasRight", "()Z"⟩
abbrev cX10_readPair : ByteArray := prog_12_method_26_code
def yX10_readPair : MethodName := ⟨RX10, "readPair", "(I)I"⟩
abbrev cX10_net : ByteArray := prog_12_method_27_code
def yX10_net : MethodName := ⟨RX10, "net", "()I"⟩
abbrev cX10_highOf : ByteArray := prog_12_method_28_code
def yX10_highOf : MethodName := ⟨RX10, "highOf", "(I)I"⟩
abbrev cX10_sets : ByteArray := prog_12_method_29_code
def yX10_sets : MethodName := ⟨RX10, "sets", "(II)I"⟩
abbrev cX10_setting : ByteArray := prog_12_method_30_code
def yX10_setting : MethodName := ⟨RX10, "setting", "(I)I"⟩
abbrev cX10_goesOn : ByteArray := prog_12_method_31_code
def yX10_goesOn : MethodName := ⟨RX10, "goesOn", "()Z"⟩
abbrev cX10_sheet : ByteArray := prog_12_method_32_code
def yX10_sheet : MethodName := ⟨RX10, "sheet", "(IIIII)I"⟩
abbrev cX10_put : ByteArray := prog_12_method_33_code
def yX10_put : MethodName := ⟨RX10, "put", "(IIIII)V"⟩
abbrev cX10_leaves : ByteArray := prog_12_method_34_code
def yX10_leaves : MethodName := ⟨RX10, "leaves", "(III)V"⟩
abbrev cX10_refusesOffer : ByteArray := prog_12_method_35_code
def yX10_refusesOffer : MethodName := ⟨RX10, "refusesOffer", "(IIII)I"⟩
abbrev cX10_offers : ByteArray := prog_12_method_36_code
def yX10_offers : MethodName := ⟨RX10, "offers", "(IIII)I"⟩
abbrev cX10_isFree : ByteArray := prog_12_method_37_code
def yX10_isFree : MethodName := ⟨RX10, "isFree", "(I)Z"⟩
abbrev cX10_isReady : ByteArray := prog_12_method_38_code
def yX10_isReady : MethodName := ⟨RX10, "isReady", "(II)Z"⟩
abbrev cX10_had : ByteArray := prog_12_method_39_code
def yX10_had : MethodName := ⟨RX10, "had", "(III)V"⟩
abbrev cX10_drawsCount : ByteArray := prog_12_method_40_code
def yX10_drawsCount : MethodName := ⟨RX10, "drawsCount", "(II)V"⟩
abbrev cX10_isLost : ByteArray := prog_12_method_41_code
def yX10_isLost : MethodName := ⟨RX10, "isLost", "(III)V"⟩
abbrev cX10_fails : ByteArray := prog_12_method_42_code
def yX10_fails : MethodName := ⟨RX10, "fails", "(II)V"⟩
abbrev cX10_roundedUp : ByteArray := prog_12_method_43_code
def yX10_roundedUp : MethodName := ⟨RX10, "roundedUp", "(II)I"⟩
abbrev cX10_begins : ByteArray := prog_12_method_44_code
def yX10_begins : MethodName := ⟨RX10, "begins", "(II)V"⟩
abbrev cX10_stepBegin : ByteArray := prog_12_method_45_code
def yX10_stepBegin : MethodName := ⟨RX10, "stepBegin", "()V"⟩
abbrev cX10_stepSend : ByteArray := prog_12_method_46_code
def yX10_stepSend : MethodName := ⟨RX10, "stepSend", "()V"⟩
abbrev cX10_hearsOthers : ByteArray := prog_12_method_47_code
def yX10_hearsOthers : MethodName := ⟨RX10, "hearsOthers", "(II)Z"⟩
abbrev cX10_isClear : ByteArray := prog_12_method_48_code
def yX10_isClear : MethodName := ⟨RX10, "isClear", "(II)Z"⟩
abbrev cX10_spans : ByteArray := prog_12_method_49_code
def yX10_spans : MethodName := ⟨RX10, "spans", "(IIII)V"⟩
abbrev cX10_owes : ByteArray := prog_12_method_50_code
def yX10_owes : MethodName := ⟨RX10, "owes", "(III)V"⟩
abbrev cX10_sendsIt : ByteArray := prog_12_method_51_code
def yX10_sendsIt : MethodName := ⟨RX10, "sendsIt", "(III)Z"⟩
abbrev cX10_failsBy : ByteArray := prog_12_method_52_code
def yX10_failsBy : MethodName := ⟨RX10, "failsBy", "(IZ)V"⟩
abbrev cX10_stepData : ByteArray := prog_12_method_53_code
def yX10_stepData : MethodName := ⟨RX10, "stepData", "(I)V"⟩
abbrev cX10_delivers : ByteArray := prog_12_method_54_code
def yX10_delivers : MethodName := ⟨RX10, "delivers", "(I)V"⟩
abbrev cX10_stepSender : ByteArray := prog_12_method_55_code
def yX10_stepSender : MethodName := ⟨RX10, "stepSender", "(I)V"⟩
abbrev cX10_stepEnd : ByteArray := prog_12_method_56_code
def yX10_stepEnd : MethodName := ⟨RX10, "stepEnd", "()V"⟩
abbrev cX10_stepHeld : ByteArray := prog_12_method_57_code
def yX10_stepHeld : MethodName := ⟨RX10, "stepHeld", "()V"⟩
abbrev cX10_slot : ByteArray := prog_12_method_58_code
def yX10_slot : MethodName := ⟨RX10, "slot", "()V"⟩
abbrev cX10_goSlots : ByteArray := prog_12_method_59_code
def yX10_goSlots : MethodName := ⟨RX10, "goSlots", "(I)V"⟩
abbrev cX10_slots : ByteArray := prog_12_method_60_code
def yX10_slots : MethodName := ⟨RX10, "slots", "(I)I"⟩
abbrev cX10_drawAll : ByteArray := prog_12_method_61_code
def yX10_drawAll : MethodName := ⟨RX10, "drawAll", "()I"⟩
abbrev cX10_draws : ByteArray := prog_12_method_62_code
def yX10_draws : MethodName := ⟨RX10, "draws", "()I"⟩
abbrev cX10_waiting : ByteArray := prog_12_method_63_code
def yX10_waiting : MethodName := ⟨RX10, "waiting", "(I)I"⟩
abbrev cX10_allWaiting : ByteArray := prog_12_method_64_code
def yX10_allWaiting : MethodName := ⟨RX10, "allWaiting", "()I"⟩
abbrev cX10_heardBy : ByteArray := prog_12_method_65_code
def yX10_heardBy : MethodName := ⟨RX10, "heardBy", "(I)I"⟩
abbrev cX10_station : ByteArray := prog_12_method_66_code
def yX10_station : MethodName := ⟨RX10, "station", "(II)I"⟩
abbrev cX10_rank : ByteArray := prog_12_method_67_code
def yX10_rank : MethodName := ⟨RX10, "rank", "(III)I"⟩
abbrev cX10_frame : ByteArray := prog_12_method_68_code
def yX10_frame : MethodName := ⟨RX10, "frame", "(IIII)I"⟩
abbrev cX10_exchange : ByteArray := prog_12_method_69_code
def yX10_exchange : MethodName := ⟨RX10, "exchange", "(II)I"⟩
abbrev cX10_placesOf : ByteArray := prog_12_method_70_code
def yX10_placesOf : MethodName := ⟨RX10, "placesOf", "(I)I"⟩
abbrev cX10_sent : ByteArray := prog_12_method_71_code
def yX10_sent : MethodName := ⟨RX10, "sent", "()I"⟩
abbrev cX10_spanOf : ByteArray := prog_12_method_72_code
def yX10_spanOf : MethodName := ⟨RX10, "spanOf", "(I)I"⟩
abbrev cX10_rate : ByteArray := prog_12_method_73_code
def yX10_rate : MethodName := ⟨RX10, "rate", "(II)I"⟩
abbrev cX10_hidden : ByteArray := prog_12_method_74_code
def yX10_hidden : MethodName := ⟨RX10, "hidden", "()I"⟩
abbrev cX10_tally : ByteArray := prog_12_method_75_code
def yX10_tally : MethodName := ⟨RX10, "tally", "(II)I"⟩
abbrev cX10_held : ByteArray := prog_12_method_76_code
def yX10_held : MethodName := ⟨RX10, "held", "(I)I"⟩
abbrev cX10_why : ByteArray := prog_12_method_77_code
def yX10_why : MethodName := ⟨RX10, "why", "(I)I"⟩
abbrev cX10_spoilt : ByteArray := prog_12_method_78_code
def yX10_spoilt : MethodName := ⟨RX10, "spoilt", "(II)I"⟩
abbrev cX10_even : ByteArray := prog_12_method_79_code
def yX10_even : MethodName := ⟨RX10, "even", "()I"⟩
abbrev cX10_busy : ByteArray := prog_12_method_80_code
def yX10_busy : MethodName := ⟨RX10, "busy", "()I"⟩
abbrev cX10_power : ByteArray := prog_12_method_81_code
def yX10_power : MethodName := ⟨RX10, "power", "(II)I"⟩
abbrev cX10_waysAlone : ByteArray := prog_12_method_82_code
def yX10_waysAlone : MethodName := ⟨RX10, "waysAlone", "(II)I"⟩
abbrev cX10_odds : ByteArray := prog_12_method_83_code
def yX10_odds : MethodName := ⟨RX10, "odds", "(II)I"⟩
abbrev cX10_window : ByteArray := prog_12_method_84_code
def yX10_window : MethodName := ⟨RX10, "window", "(II)I"⟩
abbrev cX10_layAside : ByteArray := prog_12_method_85_code
def yX10_layAside : MethodName := ⟨RX10, "layAside", "()V"⟩
abbrev cX10_comesBack : ByteArray := prog_12_method_86_code
def yX10_comesBack : MethodName := ⟨RX10, "comesBack", "()V"⟩
abbrev cX10_ahead : ByteArray := prog_12_method_87_code
def yX10_ahead : MethodName := ⟨RX10, "ahead", "(II)I"⟩
abbrev cX10_isQuiet : ByteArray := prog_12_method_88_code
def yX10_isQuiet : MethodName := ⟨RX10, "isQuiet", "()Z"⟩
abbrev cX10_quiet : ByteArray := prog_12_method_89_code
def yX10_quiet : MethodName := ⟨RX10, "quiet", "()I"⟩
abbrev cX10_next : ByteArray := prog_12_method_90_code
def yX10_next : MethodName := ⟨RX10, "next", "()I"⟩
abbrev cX10_takes : ByteArray := prog_12_method_91_code
def yX10_takes : MethodName := ⟨RX10, "takes", "(II)I"⟩
abbrev cX10_soonest : ByteArray := prog_12_method_92_code
def yX10_soonest : MethodName := ⟨RX10, "soonest", "(I)I"⟩
abbrev cX10_readAct : ByteArray := prog_12_method_93_code
def yX10_readAct : MethodName := ⟨RX10, "readAct", "(I)V"⟩
abbrev cX10_act : ByteArray := prog_12_method_94_code
def yX10_act : MethodName := ⟨RX10, "act", "(I)Z"⟩
abbrev cX10_day : ByteArray := prog_12_method_95_code
def yX10_day : MethodName := ⟨RX10, "day", "()I"⟩
abbrev cX10_change : ByteArray := prog_12_method_96_code
def yX10_change : MethodName := ⟨RX10, "change", "()V"⟩
abbrev cX10_note : ByteArray := prog_12_method_97_code
def yX10_note : MethodName := ⟨RX10, "note", "()V"⟩
abbrev cX10_undo : ByteArray := prog_12_method_98_code
def yX10_undo : MethodName := ⟨RX10, "undo", "()I"⟩
abbrev cX10_drawBeside : ByteArray := prog_12_method_99_code
def yX10_drawBeside : MethodName := ⟨RX10, "drawBeside", "(I)I"⟩
abbrev cX10_years : ByteArray := prog_12_method_100_code
def yX10_years : MethodName := ⟨RX10, "years", "(II)I"⟩
abbrev cX10_keep : ByteArray := prog_12_method_101_code
def yX10_keep : MethodName := ⟨RX10, "keep", "(I)Z"⟩
abbrev cX10_again : ByteArray := prog_12_method_102_code
def yX10_again : MethodName := ⟨RX10, "again", "(I)Z"⟩
abbrev cX10_exchanges : ByteArray := prog_12_method_103_code
def yX10_exchanges : MethodName := ⟨RX10, "exchanges", "()I"⟩
abbrev cX10_count : ByteArray := prog_12_method_104_code
def yX10_count : MethodName := ⟨RX10, "count", "(I)I"⟩
abbrev cX10_row : ByteArray := prog_12_method_105_code
def yX10_row : MethodName := ⟨RX10, "row", "(I)J"⟩
abbrev cJ6_bitCount_0f7a4 : ByteArray := prog_15_method_49_code
def yJ6_bitCount_0f7a4 : MethodName := ⟨RJ6, "bitCount", "(I)I"⟩
abbrev cL_setting : ByteArray := method_3_code
def yL_setting : MethodName := ⟨RL, "setting", "(LSharedAir;I[J)I"⟩
abbrev cL_station : ByteArray := method_4_code
def yL_station : MethodName := ⟨RL, "station", "(LSharedAir;II[J)I"⟩
abbrev cL_rank : ByteArray := method_5_code
def yL_rank : MethodName := ⟨RL, "rank", "(LSharedAir;III[J)I"⟩
abbrev cL_frame : ByteArray := method_6_code
def yL_frame : MethodName := ⟨RL, "frame", "(LSharedAir;IIII[J)I"⟩
abbrev cL_tally : ByteArray := method_7_code
def yL_tally : MethodName := ⟨RL, "tally", "(LSharedAir;II[J)I"⟩
abbrev cL_row : ByteArray := method_8_code
def yL_row : MethodName := ⟨RL, "row", "(LSharedAir;I[J)I"⟩
abbrev cL_law : ByteArray := code
def yL_law : MethodName := ⟨RL, "law", "([I)Z"⟩
abbrev vwCl : List vw_C := [(RX0, TX0, 13), (RX1, TX1, 1), (RX2, TX2, 13), (RX3, TX3, 9), (RX4, TX4, 2), (RX5, TX5, 3), (RX6, TX6, 4), (RX7, TX7, 2), (RX8, TX8, 13), (RX9, TX9, 9), (RX10, TX10, 21)]
def mBig : List Cond := lw_tbl.filter goodWord
theorem mB {w : Cond} (h : w ∈ lw_tbl) (g : goodWord w = true) : w ∈ mBig := List.mem_filter.mpr ⟨h, g⟩
theorem mt1 {w : Cond} (h : w ∈ tables_1_1) : w ∈ lw_tbl := List.mem_append_right _ (by unfold tables_1; exact List.mem_append_left _ h)
theorem mt2 {w : Cond} (h : w ∈ tables_1_2) : w ∈ lw_tbl := List.mem_append_right _ (by unfold tables_1; exact List.mem_append_right _ (List.mem_append_left _ h))
theorem mt3 {w : Cond} (h : w ∈ tables_1_3) : w ∈ lw_tbl := List.mem_append_right _ (by unfold tables_1; exact List.mem_append_right _ (List.mem_append_right _ (List.mem_append_left _ h)))
theorem mt4 {w : Cond} (h : w ∈ tables_1_4) : w ∈ lw_tbl := List.mem_append_right _ (by unfold tables_1; exact List.mem_append_right _ (List.mem_append_right _ (List.mem_append_right _ (List.mem_append_left _ h))))
theorem mt5 {w : Cond} (h : w ∈ tables_1_5) : w ∈ lw_tbl := List.mem_append_right _ (by unfold tables_1; exact List.mem_append_right _ (List.mem_append_right _ (List.mem_append_right _ (List.mem_append_right _ (List.mem_append_left _ h)))))
theorem mt6 {w : Cond} (h : w ∈ tables_1_6) : w ∈ lw_tbl := List.mem_append_right _ (by unfold tables_1; exact List.mem_append_right _ (List.mem_append_right _ (List.mem_append_right _ (List.mem_append_right _ (List.mem_append_right _ (List.mem_append_left _ h))))))
theorem mt7 {w : Cond} (h : w ∈ tables_1_7) : w ∈ lw_tbl := List.mem_append_right _ (by unfold tables_1; exact List.mem_append_right _ (List.mem_append_right _ (List.mem_append_right _ (List.mem_append_right _ (List.mem_append_right _ (List.mem_append_right _ (h)))))))
