section
-- ===== PART A: goes FIRST, ahead of the names: the tables' words, and 'selects' of the private methods out of them =====
/-- a private method of a class that the tables say can be made, by its rows of tables_1 -/
def lw_okq (q : MethodName × Nat) : Prop := (q.1.cls ≠ "java/lang/invoke/MethodHandle" ∧ q.1.cls ≠ "java/lang/invoke/VarHandle") ∧ Cond.instantiable q.1.cls q.2 ∈ tables_1 ∧ Cond.privateMethod q.1 ∈ tables_1 ∧ Cond.instanceMethod q.1 ∈ tables_1
theorem lw_p0 : lw_okq (⟨"SharedAir", "readPairs", "(I)I"⟩, 9) := ⟨⟨by decide +kernel, by decide +kernel⟩, List.mem_of_getElem? (i := 20) (by decide +kernel), List.mem_of_getElem? (i := 435) (by decide +kernel), List.mem_of_getElem? (i := 436) (by decide +kernel)⟩
theorem lw_p1 : lw_okq (⟨"SharedAir$Air", "startStation", "(I[I)V"⟩, 13) := ⟨⟨by decide +kernel, by decide +kernel⟩, List.mem_of_getElem? (i := 28) (by decide +kernel), List.mem_of_getElem? (i := 474) (by decide +kernel), List.mem_of_getElem? (i := 475) (by decide +kernel)⟩
theorem lw_p2 : lw_okq (⟨"SharedAir", "comesFromEntry", "(III)Z"⟩, 9) := ⟨⟨by decide +kernel, by decide +kernel⟩, List.mem_of_getElem? (i := 20) (by decide +kernel), List.mem_of_getElem? (i := 510) (by decide +kernel), List.mem_of_getElem? (i := 511) (by decide +kernel)⟩
theorem lw_p3 : lw_okq (⟨"SharedAir$Air", "runningSpans", "()I"⟩, 13) := ⟨⟨by decide +kernel, by decide +kernel⟩, List.mem_of_getElem? (i := 28) (by decide +kernel), List.mem_of_getElem? (i := 548) (by decide +kernel), List.mem_of_getElem? (i := 549) (by decide +kernel)⟩
theorem lw_p4 : lw_okq (⟨"SharedAir$Air", "beginOf", "(I)V"⟩, 13) := ⟨⟨by decide +kernel, by decide +kernel⟩, List.mem_of_getElem? (i := 28) (by decide +kernel), List.mem_of_getElem? (i := 556) (by decide +kernel), List.mem_of_getElem? (i := 557) (by decide +kernel)⟩
theorem lw_p5 : lw_okq (⟨"SharedAir$Air", "beginExchange", "(II)V"⟩, 13) := ⟨⟨by decide +kernel, by decide +kernel⟩, List.mem_of_getElem? (i := 28) (by decide +kernel), List.mem_of_getElem? (i := 564) (by decide +kernel), List.mem_of_getElem? (i := 565) (by decide +kernel)⟩
theorem lw_p6 : lw_okq (⟨"SharedAir$Air", "failFirst", "(II)V"⟩, 13) := ⟨⟨by decide +kernel, by decide +kernel⟩, List.mem_of_getElem? (i := 28) (by decide +kernel), List.mem_of_getElem? (i := 583) (by decide +kernel), List.mem_of_getElem? (i := 584) (by decide +kernel)⟩
theorem lw_p7 : lw_okq (⟨"SharedAir$Air", "senders", "()I"⟩, 13) := ⟨⟨by decide +kernel, by decide +kernel⟩, List.mem_of_getElem? (i := 28) (by decide +kernel), List.mem_of_getElem? (i := 603) (by decide +kernel), List.mem_of_getElem? (i := 604) (by decide +kernel)⟩
theorem lw_p8 : lw_okq (⟨"SharedAir$Air", "clearOnes", "()I"⟩, 13) := ⟨⟨by decide +kernel, by decide +kernel⟩, List.mem_of_getElem? (i := 28) (by decide +kernel), List.mem_of_getElem? (i := 611) (by decide +kernel), List.mem_of_getElem? (i := 612) (by decide +kernel)⟩
theorem lw_p9 : lw_okq (⟨"SharedAir$Air", "sendsNow", "(I)Z"⟩, 13) := ⟨⟨by decide +kernel, by decide +kernel⟩, List.mem_of_getElem? (i := 28) (by decide +kernel), List.mem_of_getElem? (i := 621) (by decide +kernel), List.mem_of_getElem? (i := 622) (by decide +kernel)⟩
theorem lw_p10 : lw_okq (⟨"SharedAir$Air", "noteSlot", "()V"⟩, 13) := ⟨⟨by decide +kernel, by decide +kernel⟩, List.mem_of_getElem? (i := 28) (by decide +kernel), List.mem_of_getElem? (i := 625) (by decide +kernel), List.mem_of_getElem? (i := 626) (by decide +kernel)⟩
theorem lw_p11 : lw_okq (⟨"SharedAir$Air", "goAsk", "(IILSharedAir$Exchange;)V"⟩, 13) := ⟨⟨by decide +kernel, by decide +kernel⟩, List.mem_of_getElem? (i := 28) (by decide +kernel), List.mem_of_getElem? (i := 633) (by decide +kernel), List.mem_of_getElem? (i := 634) (by decide +kernel)⟩
theorem lw_p12 : lw_okq (⟨"SharedAir$Air", "isClear", "(II)Z"⟩, 13) := ⟨⟨by decide +kernel, by decide +kernel⟩, List.mem_of_getElem? (i := 28) (by decide +kernel), List.mem_of_getElem? (i := 637) (by decide +kernel), List.mem_of_getElem? (i := 638) (by decide +kernel)⟩
theorem lw_p13 : lw_okq (⟨"SharedAir$Air", "spread", "(IIIII)V"⟩, 13) := ⟨⟨by decide +kernel, by decide +kernel⟩, List.mem_of_getElem? (i := 28) (by decide +kernel), List.mem_of_getElem? (i := 641) (by decide +kernel), List.mem_of_getElem? (i := 642) (by decide +kernel)⟩
theorem lw_p14 : lw_okq (⟨"SharedAir$Air", "goGrant", "(IILSharedAir$Exchange;)V"⟩, 13) := ⟨⟨by decide +kernel, by decide +kernel⟩, List.mem_of_getElem? (i := 28) (by decide +kernel), List.mem_of_getElem? (i := 649) (by decide +kernel), List.mem_of_getElem? (i := 650) (by decide +kernel)⟩
theorem lw_p15 : lw_okq (⟨"SharedAir$Air", "failExchange", "(ILSharedAir$Exchange;)V"⟩, 13) := ⟨⟨by decide +kernel, by decide +kernel⟩, List.mem_of_getElem? (i := 28) (by decide +kernel), List.mem_of_getElem? (i := 658) (by decide +kernel), List.mem_of_getElem? (i := 659) (by decide +kernel)⟩
def lw_privs_1 : List (MethodName × Nat) := [(⟨"SharedAir", "readPairs", "(I)I"⟩, 9), (⟨"SharedAir$Air", "startStation", "(I[I)V"⟩, 13), (⟨"SharedAir", "comesFromEntry", "(III)Z"⟩, 9), (⟨"SharedAir$Air", "runningSpans", "()I"⟩, 13), (⟨"SharedAir$Air", "beginOf", "(I)V"⟩, 13), (⟨"SharedAir$Air", "beginExchange", "(II)V"⟩, 13), (⟨"SharedAir$Air", "failFirst", "(II)V"⟩, 13), (⟨"SharedAir$Air", "senders", "()I"⟩, 13), (⟨"SharedAir$Air", "clearOnes", "()I"⟩, 13), (⟨"SharedAir$Air", "sendsNow", "(I)Z"⟩, 13), (⟨"SharedAir$Air", "noteSlot", "()V"⟩, 13), (⟨"SharedAir$Air", "goAsk", "(IILSharedAir$Exchange;)V"⟩, 13), (⟨"SharedAir$Air", "isClear", "(II)Z"⟩, 13), (⟨"SharedAir$Air", "spread", "(IIIII)V"⟩, 13), (⟨"SharedAir$Air", "goGrant", "(IILSharedAir$Exchange;)V"⟩, 13), (⟨"SharedAir$Air", "failExchange", "(ILSharedAir$Exchange;)V"⟩, 13)]
theorem lw_r1 : ∀ q ∈ lw_privs_1, lw_okq q := List.forall_mem_cons.mpr ⟨lw_p0, List.forall_mem_cons.mpr ⟨lw_p1, List.forall_mem_cons.mpr ⟨lw_p2, List.forall_mem_cons.mpr ⟨lw_p3, List.forall_mem_cons.mpr ⟨lw_p4, List.forall_mem_cons.mpr ⟨lw_p5, List.forall_mem_cons.mpr ⟨lw_p6, List.forall_mem_cons.mpr ⟨lw_p7, List.forall_mem_cons.mpr ⟨lw_p8, List.forall_mem_cons.mpr ⟨lw_p9, List.forall_mem_cons.mpr ⟨lw_p10, List.forall_mem_cons.mpr ⟨lw_p11, List.forall_mem_cons.mpr ⟨lw_p12, List.forall_mem_cons.mpr ⟨lw_p13, List.forall_mem_cons.mpr ⟨lw_p14, List.forall_mem_cons.mpr ⟨lw_p15, fun _ h => absurd h List.not_mem_nil⟩⟩⟩⟩⟩⟩⟩⟩⟩⟩⟩⟩⟩⟩⟩⟩
theorem lw_p16 : lw_okq (⟨"SharedAir$Air", "goData", "(IILSharedAir$Exchange;)V"⟩, 13) := ⟨⟨by decide +kernel, by decide +kernel⟩, List.mem_of_getElem? (i := 28) (by decide +kernel), List.mem_of_getElem? (i := 662) (by decide +kernel), List.mem_of_getElem? (i := 663) (by decide +kernel)⟩
theorem lw_p17 : lw_okq (⟨"SharedAir$Air", "goAnswer", "(IILSharedAir$Exchange;)V"⟩, 13) := ⟨⟨by decide +kernel, by decide +kernel⟩, List.mem_of_getElem? (i := 28) (by decide +kernel), List.mem_of_getElem? (i := 672) (by decide +kernel), List.mem_of_getElem? (i := 673) (by decide +kernel)⟩
theorem lw_p18 : lw_okq (⟨"SharedAir$Air", "deliver", "(ILSharedAir$Exchange;)V"⟩, 13) := ⟨⟨by decide +kernel, by decide +kernel⟩, List.mem_of_getElem? (i := 28) (by decide +kernel), List.mem_of_getElem? (i := 676) (by decide +kernel), List.mem_of_getElem? (i := 677) (by decide +kernel)⟩
theorem lw_p19 : lw_okq (⟨"SharedAir$Air", "settle", "(I)V"⟩, 13) := ⟨⟨by decide +kernel, by decide +kernel⟩, List.mem_of_getElem? (i := 28) (by decide +kernel), List.mem_of_getElem? (i := 685) (by decide +kernel), List.mem_of_getElem? (i := 686) (by decide +kernel)⟩
theorem lw_p20 : lw_okq (⟨"SharedAir", "isStation", "(I)Z"⟩, 9) := ⟨⟨by decide +kernel, by decide +kernel⟩, List.mem_of_getElem? (i := 20) (by decide +kernel), List.mem_of_getElem? (i := 721) (by decide +kernel), List.mem_of_getElem? (i := 722) (by decide +kernel)⟩
theorem lw_p21 : lw_okq (⟨"SharedAir", "slotsTillDelivered", "(II)I"⟩, 9) := ⟨⟨by decide +kernel, by decide +kernel⟩, List.mem_of_getElem? (i := 20) (by decide +kernel), List.mem_of_getElem? (i := 806) (by decide +kernel), List.mem_of_getElem? (i := 807) (by decide +kernel)⟩
theorem lw_p22 : lw_okq (⟨"SharedAir", "faultInDay", "()I"⟩, 9) := ⟨⟨by decide +kernel, by decide +kernel⟩, List.mem_of_getElem? (i := 20) (by decide +kernel), List.mem_of_getElem? (i := 818) (by decide +kernel), List.mem_of_getElem? (i := 819) (by decide +kernel)⟩
theorem lw_p23 : lw_okq (⟨"SharedAir", "faultInAct", "(I)I"⟩, 9) := ⟨⟨by decide +kernel, by decide +kernel⟩, List.mem_of_getElem? (i := 20) (by decide +kernel), List.mem_of_getElem? (i := 822) (by decide +kernel), List.mem_of_getElem? (i := 823) (by decide +kernel)⟩
theorem lw_p24 : lw_okq (⟨"SharedAir", "actLength", "(I)I"⟩, 9) := ⟨⟨by decide +kernel, by decide +kernel⟩, List.mem_of_getElem? (i := 20) (by decide +kernel), List.mem_of_getElem? (i := 827) (by decide +kernel), List.mem_of_getElem? (i := 828) (by decide +kernel)⟩
theorem lw_p25 : lw_okq (⟨"SharedAir", "doAct", "(I)Z"⟩, 9) := ⟨⟨by decide +kernel, by decide +kernel⟩, List.mem_of_getElem? (i := 20) (by decide +kernel), List.mem_of_getElem? (i := 831) (by decide +kernel), List.mem_of_getElem? (i := 832) (by decide +kernel)⟩
theorem lw_p26 : lw_okq (⟨"SharedAir", "offerDrawn", "()V"⟩, 9) := ⟨⟨by decide +kernel, by decide +kernel⟩, List.mem_of_getElem? (i := 20) (by decide +kernel), List.mem_of_getElem? (i := 848) (by decide +kernel), List.mem_of_getElem? (i := 849) (by decide +kernel)⟩
theorem lw_p27 : lw_okq (⟨"java/lang/Throwable", "fillInStackTrace", "(I)Ljava/lang/Throwable;"⟩, 6) := ⟨⟨by decide +kernel, by decide +kernel⟩, List.mem_of_getElem? (i := 908) (by decide +kernel), List.mem_of_getElem? (i := 906) (by decide +kernel), List.mem_of_getElem? (i := 907) (by decide +kernel)⟩
theorem lw_p28 : lw_okq (⟨"SharedAirModel", "begin", "()V"⟩, 21) := ⟨⟨by decide +kernel, by decide +kernel⟩, List.mem_of_getElem? (i := 971) (by decide +kernel), List.mem_of_getElem? (i := 1063) (by decide +kernel), List.mem_of_getElem? (i := 1064) (by decide +kernel)⟩
theorem lw_p29 : lw_okq (⟨"SharedAirModel", "oneOf", "(CI)I"⟩, 21) := ⟨⟨by decide +kernel, by decide +kernel⟩, List.mem_of_getElem? (i := 971) (by decide +kernel), List.mem_of_getElem? (i := 1067) (by decide +kernel), List.mem_of_getElem? (i := 1068) (by decide +kernel)⟩
theorem lw_p30 : lw_okq (⟨"SharedAirModel", "fine", "()Z"⟩, 21) := ⟨⟨by decide +kernel, by decide +kernel⟩, List.mem_of_getElem? (i := 971) (by decide +kernel), List.mem_of_getElem? (i := 1071) (by decide +kernel), List.mem_of_getElem? (i := 1072) (by decide +kernel)⟩
theorem lw_p31 : lw_okq (⟨"SharedAirModel", "here", "()I"⟩, 21) := ⟨⟨by decide +kernel, by decide +kernel⟩, List.mem_of_getElem? (i := 971) (by decide +kernel), List.mem_of_getElem? (i := 1075) (by decide +kernel), List.mem_of_getElem? (i := 1076) (by decide +kernel)⟩
def lw_privs_2 : List (MethodName × Nat) := [(⟨"SharedAir$Air", "goData", "(IILSharedAir$Exchange;)V"⟩, 13), (⟨"SharedAir$Air", "goAnswer", "(IILSharedAir$Exchange;)V"⟩, 13), (⟨"SharedAir$Air", "deliver", "(ILSharedAir$Exchange;)V"⟩, 13), (⟨"SharedAir$Air", "settle", "(I)V"⟩, 13), (⟨"SharedAir", "isStation", "(I)Z"⟩, 9), (⟨"SharedAir", "slotsTillDelivered", "(II)I"⟩, 9), (⟨"SharedAir", "faultInDay", "()I"⟩, 9), (⟨"SharedAir", "faultInAct", "(I)I"⟩, 9), (⟨"SharedAir", "actLength", "(I)I"⟩, 9), (⟨"SharedAir", "doAct", "(I)Z"⟩, 9), (⟨"SharedAir", "offerDrawn", "()V"⟩, 9), (⟨"java/lang/Throwable", "fillInStackTrace", "(I)Ljava/lang/Throwable;"⟩, 6), (⟨"SharedAirModel", "begin", "()V"⟩, 21), (⟨"SharedAirModel", "oneOf", "(CI)I"⟩, 21), (⟨"SharedAirModel", "fine", "()Z"⟩, 21), (⟨"SharedAirModel", "here", "()I"⟩, 21)]
theorem lw_r2 : ∀ q ∈ lw_privs_2, lw_okq q := List.forall_mem_cons.mpr ⟨lw_p16, List.forall_mem_cons.mpr ⟨lw_p17, List.forall_mem_cons.mpr ⟨lw_p18, List.forall_mem_cons.mpr ⟨lw_p19, List.forall_mem_cons.mpr ⟨lw_p20, List.forall_mem_cons.mpr ⟨lw_p21, List.forall_mem_cons.mpr ⟨lw_p22, List.forall_mem_cons.mpr ⟨lw_p23, List.forall_mem_cons.mpr ⟨lw_p24, List.forall_mem_cons.mpr ⟨lw_p25, List.forall_mem_cons.mpr ⟨lw_p26, List.forall_mem_cons.mpr ⟨lw_p27, List.forall_mem_cons.mpr ⟨lw_p28, List.forall_mem_cons.mpr ⟨lw_p29, List.forall_mem_cons.mpr ⟨lw_p30, List.forall_mem_cons.mpr ⟨lw_p31, fun _ h => absurd h List.not_mem_nil⟩⟩⟩⟩⟩⟩⟩⟩⟩⟩⟩⟩⟩⟩⟩⟩
theorem lw_p32 : lw_okq (⟨"SharedAirModel", "fault", "(I)V"⟩, 21) := ⟨⟨by decide +kernel, by decide +kernel⟩, List.mem_of_getElem? (i := 971) (by decide +kernel), List.mem_of_getElem? (i := 1079) (by decide +kernel), List.mem_of_getElem? (i := 1080) (by decide +kernel)⟩
theorem lw_p33 : lw_okq (⟨"SharedAirModel", "readPair", "(I)I"⟩, 21) := ⟨⟨by decide +kernel, by decide +kernel⟩, List.mem_of_getElem? (i := 971) (by decide +kernel), List.mem_of_getElem? (i := 1083) (by decide +kernel), List.mem_of_getElem? (i := 1084) (by decide +kernel)⟩
theorem lw_p34 : lw_okq (⟨"SharedAirModel", "wasRight", "()Z"⟩, 21) := ⟨⟨by decide +kernel, by decide +kernel⟩, List.mem_of_getElem? (i := 971) (by decide +kernel), List.mem_of_getElem? (i := 1087) (by decide +kernel), List.mem_of_getElem? (i := 1088) (by decide +kernel)⟩
theorem lw_p35 : lw_okq (⟨"SharedAirModel", "change", "()V"⟩, 21) := ⟨⟨by decide +kernel, by decide +kernel⟩, List.mem_of_getElem? (i := 971) (by decide +kernel), List.mem_of_getElem? (i := 1091) (by decide +kernel), List.mem_of_getElem? (i := 1092) (by decide +kernel)⟩
theorem lw_p36 : lw_okq (⟨"SharedAirModel", "note", "()V"⟩, 21) := ⟨⟨by decide +kernel, by decide +kernel⟩, List.mem_of_getElem? (i := 971) (by decide +kernel), List.mem_of_getElem? (i := 1095) (by decide +kernel), List.mem_of_getElem? (i := 1096) (by decide +kernel)⟩
theorem lw_p37 : lw_okq (⟨"SharedAirModel", "lost", "()I"⟩, 21) := ⟨⟨by decide +kernel, by decide +kernel⟩, List.mem_of_getElem? (i := 971) (by decide +kernel), List.mem_of_getElem? (i := 1113) (by decide +kernel), List.mem_of_getElem? (i := 1114) (by decide +kernel)⟩
theorem lw_p38 : lw_okq (⟨"SharedAirModel", "goesOn", "()Z"⟩, 21) := ⟨⟨by decide +kernel, by decide +kernel⟩, List.mem_of_getElem? (i := 971) (by decide +kernel), List.mem_of_getElem? (i := 1124) (by decide +kernel), List.mem_of_getElem? (i := 1125) (by decide +kernel)⟩
theorem lw_p39 : lw_okq (⟨"SharedAirModel", "hears", "(II)Z"⟩, 21) := ⟨⟨by decide +kernel, by decide +kernel⟩, List.mem_of_getElem? (i := 971) (by decide +kernel), List.mem_of_getElem? (i := 1131) (by decide +kernel), List.mem_of_getElem? (i := 1132) (by decide +kernel)⟩
theorem lw_p40 : lw_okq (⟨"SharedAirModel", "quality", "(II)I"⟩, 21) := ⟨⟨by decide +kernel, by decide +kernel⟩, List.mem_of_getElem? (i := 971) (by decide +kernel), List.mem_of_getElem? (i := 1135) (by decide +kernel), List.mem_of_getElem? (i := 1136) (by decide +kernel)⟩
theorem lw_p41 : lw_okq (⟨"SharedAirModel", "put", "(IIIII)V"⟩, 21) := ⟨⟨by decide +kernel, by decide +kernel⟩, List.mem_of_getElem? (i := 971) (by decide +kernel), List.mem_of_getElem? (i := 1139) (by decide +kernel), List.mem_of_getElem? (i := 1140) (by decide +kernel)⟩
theorem lw_p42 : lw_okq (⟨"SharedAirModel", "refusesOffer", "(IIII)I"⟩, 21) := ⟨⟨by decide +kernel, by decide +kernel⟩, List.mem_of_getElem? (i := 971) (by decide +kernel), List.mem_of_getElem? (i := 1150) (by decide +kernel), List.mem_of_getElem? (i := 1151) (by decide +kernel)⟩
theorem lw_p43 : lw_okq (⟨"SharedAirModel", "isStation", "(I)Z"⟩, 21) := ⟨⟨by decide +kernel, by decide +kernel⟩, List.mem_of_getElem? (i := 971) (by decide +kernel), List.mem_of_getElem? (i := 1154) (by decide +kernel), List.mem_of_getElem? (i := 1155) (by decide +kernel)⟩
theorem lw_p44 : lw_okq (⟨"SharedAirModel", "goSlots", "(I)V"⟩, 21) := ⟨⟨by decide +kernel, by decide +kernel⟩, List.mem_of_getElem? (i := 971) (by decide +kernel), List.mem_of_getElem? (i := 1162) (by decide +kernel), List.mem_of_getElem? (i := 1163) (by decide +kernel)⟩
theorem lw_p45 : lw_okq (⟨"SharedAirModel", "slot", "()V"⟩, 21) := ⟨⟨by decide +kernel, by decide +kernel⟩, List.mem_of_getElem? (i := 971) (by decide +kernel), List.mem_of_getElem? (i := 1166) (by decide +kernel), List.mem_of_getElem? (i := 1167) (by decide +kernel)⟩
theorem lw_p46 : lw_okq (⟨"SharedAirModel", "stepBegin", "()V"⟩, 21) := ⟨⟨by decide +kernel, by decide +kernel⟩, List.mem_of_getElem? (i := 971) (by decide +kernel), List.mem_of_getElem? (i := 1170) (by decide +kernel), List.mem_of_getElem? (i := 1171) (by decide +kernel)⟩
theorem lw_p47 : lw_okq (⟨"SharedAirModel", "isFree", "(I)Z"⟩, 21) := ⟨⟨by decide +kernel, by decide +kernel⟩, List.mem_of_getElem? (i := 971) (by decide +kernel), List.mem_of_getElem? (i := 1174) (by decide +kernel), List.mem_of_getElem? (i := 1175) (by decide +kernel)⟩
def lw_privs_3 : List (MethodName × Nat) := [(⟨"SharedAirModel", "fault", "(I)V"⟩, 21), (⟨"SharedAirModel", "readPair", "(I)I"⟩, 21), (⟨"SharedAirModel", "wasRight", "()Z"⟩, 21), (⟨"SharedAirModel", "change", "()V"⟩, 21), (⟨"SharedAirModel", "note", "()V"⟩, 21), (⟨"SharedAirModel", "lost", "()I"⟩, 21), (⟨"SharedAirModel", "goesOn", "()Z"⟩, 21), (⟨"SharedAirModel", "hears", "(II)Z"⟩, 21), (⟨"SharedAirModel", "quality", "(II)I"⟩, 21), (⟨"SharedAirModel", "put", "(IIIII)V"⟩, 21), (⟨"SharedAirModel", "refusesOffer", "(IIII)I"⟩, 21), (⟨"SharedAirModel", "isStation", "(I)Z"⟩, 21), (⟨"SharedAirModel", "goSlots", "(I)V"⟩, 21), (⟨"SharedAirModel", "slot", "()V"⟩, 21), (⟨"SharedAirModel", "stepBegin", "()V"⟩, 21), (⟨"SharedAirModel", "isFree", "(I)Z"⟩, 21)]
theorem lw_r3 : ∀ q ∈ lw_privs_3, lw_okq q := List.forall_mem_cons.mpr ⟨lw_p32, List.forall_mem_cons.mpr ⟨lw_p33, List.forall_mem_cons.mpr ⟨lw_p34, List.forall_mem_cons.mpr ⟨lw_p35, List.forall_mem_cons.mpr ⟨lw_p36, List.forall_mem_cons.mpr ⟨lw_p37, List.forall_mem_cons.mpr ⟨lw_p38, List.forall_mem_cons.mpr ⟨lw_p39, List.forall_mem_cons.mpr ⟨lw_p40, List.forall_mem_cons.mpr ⟨lw_p41, List.forall_mem_cons.mpr ⟨lw_p42, List.forall_mem_cons.mpr ⟨lw_p43, List.forall_mem_cons.mpr ⟨lw_p44, List.forall_mem_cons.mpr ⟨lw_p45, List.forall_mem_cons.mpr ⟨lw_p46, List.forall_mem_cons.mpr ⟨lw_p47, fun _ h => absurd h List.not_mem_nil⟩⟩⟩⟩⟩⟩⟩⟩⟩⟩⟩⟩⟩⟩⟩⟩
theorem lw_p48 : lw_okq (⟨"SharedAirModel", "isReady", "(II)Z"⟩, 21) := ⟨⟨by decide +kernel, by decide +kernel⟩, List.mem_of_getElem? (i := 971) (by decide +kernel), List.mem_of_getElem? (i := 1181) (by decide +kernel), List.mem_of_getElem? (i := 1182) (by decide +kernel)⟩
theorem lw_p49 : lw_okq (⟨"SharedAirModel", "begins", "(II)V"⟩, 21) := ⟨⟨by decide +kernel, by decide +kernel⟩, List.mem_of_getElem? (i := 971) (by decide +kernel), List.mem_of_getElem? (i := 1185) (by decide +kernel), List.mem_of_getElem? (i := 1186) (by decide +kernel)⟩
theorem lw_p50 : lw_okq (⟨"SharedAirModel", "had", "(III)V"⟩, 21) := ⟨⟨by decide +kernel, by decide +kernel⟩, List.mem_of_getElem? (i := 971) (by decide +kernel), List.mem_of_getElem? (i := 1192) (by decide +kernel), List.mem_of_getElem? (i := 1193) (by decide +kernel)⟩
theorem lw_p51 : lw_okq (⟨"SharedAirModel", "fails", "(II)V"⟩, 21) := ⟨⟨by decide +kernel, by decide +kernel⟩, List.mem_of_getElem? (i := 971) (by decide +kernel), List.mem_of_getElem? (i := 1196) (by decide +kernel), List.mem_of_getElem? (i := 1197) (by decide +kernel)⟩
theorem lw_p52 : lw_okq (⟨"SharedAirModel", "isLost", "(III)V"⟩, 21) := ⟨⟨by decide +kernel, by decide +kernel⟩, List.mem_of_getElem? (i := 971) (by decide +kernel), List.mem_of_getElem? (i := 1200) (by decide +kernel), List.mem_of_getElem? (i := 1201) (by decide +kernel)⟩
theorem lw_p53 : lw_okq (⟨"SharedAirModel", "leaves", "(III)V"⟩, 21) := ⟨⟨by decide +kernel, by decide +kernel⟩, List.mem_of_getElem? (i := 971) (by decide +kernel), List.mem_of_getElem? (i := 1204) (by decide +kernel), List.mem_of_getElem? (i := 1205) (by decide +kernel)⟩
theorem lw_p54 : lw_okq (⟨"SharedAirModel", "drawsCount", "(II)V"⟩, 21) := ⟨⟨by decide +kernel, by decide +kernel⟩, List.mem_of_getElem? (i := 971) (by decide +kernel), List.mem_of_getElem? (i := 1209) (by decide +kernel), List.mem_of_getElem? (i := 1210) (by decide +kernel)⟩
theorem lw_p55 : lw_okq (⟨"SharedAirModel", "draw", "(I)I"⟩, 21) := ⟨⟨by decide +kernel, by decide +kernel⟩, List.mem_of_getElem? (i := 971) (by decide +kernel), List.mem_of_getElem? (i := 1213) (by decide +kernel), List.mem_of_getElem? (i := 1214) (by decide +kernel)⟩
theorem lw_p56 : lw_okq (⟨"SharedAirModel", "stepSend", "()V"⟩, 21) := ⟨⟨by decide +kernel, by decide +kernel⟩, List.mem_of_getElem? (i := 971) (by decide +kernel), List.mem_of_getElem? (i := 1218) (by decide +kernel), List.mem_of_getElem? (i := 1219) (by decide +kernel)⟩
theorem lw_p57 : lw_okq (⟨"SharedAirModel", "isClear", "(II)Z"⟩, 21) := ⟨⟨by decide +kernel, by decide +kernel⟩, List.mem_of_getElem? (i := 971) (by decide +kernel), List.mem_of_getElem? (i := 1222) (by decide +kernel), List.mem_of_getElem? (i := 1223) (by decide +kernel)⟩
theorem lw_p58 : lw_okq (⟨"SharedAirModel", "hearsOthers", "(II)Z"⟩, 21) := ⟨⟨by decide +kernel, by decide +kernel⟩, List.mem_of_getElem? (i := 971) (by decide +kernel), List.mem_of_getElem? (i := 1226) (by decide +kernel), List.mem_of_getElem? (i := 1227) (by decide +kernel)⟩
theorem lw_p59 : lw_okq (⟨"SharedAirModel", "stepHeld", "()V"⟩, 21) := ⟨⟨by decide +kernel, by decide +kernel⟩, List.mem_of_getElem? (i := 971) (by decide +kernel), List.mem_of_getElem? (i := 1230) (by decide +kernel), List.mem_of_getElem? (i := 1231) (by decide +kernel)⟩
theorem lw_p60 : lw_okq (⟨"SharedAirModel", "waiting", "(I)I"⟩, 21) := ⟨⟨by decide +kernel, by decide +kernel⟩, List.mem_of_getElem? (i := 971) (by decide +kernel), List.mem_of_getElem? (i := 1234) (by decide +kernel), List.mem_of_getElem? (i := 1235) (by decide +kernel)⟩
theorem lw_p61 : lw_okq (⟨"SharedAirModel", "stepSender", "(I)V"⟩, 21) := ⟨⟨by decide +kernel, by decide +kernel⟩, List.mem_of_getElem? (i := 971) (by decide +kernel), List.mem_of_getElem? (i := 1238) (by decide +kernel), List.mem_of_getElem? (i := 1239) (by decide +kernel)⟩
theorem lw_p62 : lw_okq (⟨"SharedAirModel", "owes", "(III)V"⟩, 21) := ⟨⟨by decide +kernel, by decide +kernel⟩, List.mem_of_getElem? (i := 971) (by decide +kernel), List.mem_of_getElem? (i := 1242) (by decide +kernel), List.mem_of_getElem? (i := 1243) (by decide +kernel)⟩
theorem lw_p63 : lw_okq (⟨"SharedAirModel", "spans", "(IIII)V"⟩, 21) := ⟨⟨by decide +kernel, by decide +kernel⟩, List.mem_of_getElem? (i := 971) (by decide +kernel), List.mem_of_getElem? (i := 1246) (by decide +kernel), List.mem_of_getElem? (i := 1247) (by decide +kernel)⟩
def lw_privs_4 : List (MethodName × Nat) := [(⟨"SharedAirModel", "isReady", "(II)Z"⟩, 21), (⟨"SharedAirModel", "begins", "(II)V"⟩, 21), (⟨"SharedAirModel", "had", "(III)V"⟩, 21), (⟨"SharedAirModel", "fails", "(II)V"⟩, 21), (⟨"SharedAirModel", "isLost", "(III)V"⟩, 21), (⟨"SharedAirModel", "leaves", "(III)V"⟩, 21), (⟨"SharedAirModel", "drawsCount", "(II)V"⟩, 21), (⟨"SharedAirModel", "draw", "(I)I"⟩, 21), (⟨"SharedAirModel", "stepSend", "()V"⟩, 21), (⟨"SharedAirModel", "isClear", "(II)Z"⟩, 21), (⟨"SharedAirModel", "hearsOthers", "(II)Z"⟩, 21), (⟨"SharedAirModel", "stepHeld", "()V"⟩, 21), (⟨"SharedAirModel", "waiting", "(I)I"⟩, 21), (⟨"SharedAirModel", "stepSender", "(I)V"⟩, 21), (⟨"SharedAirModel", "owes", "(III)V"⟩, 21), (⟨"SharedAirModel", "spans", "(IIII)V"⟩, 21)]
theorem lw_r4 : ∀ q ∈ lw_privs_4, lw_okq q := List.forall_mem_cons.mpr ⟨lw_p48, List.forall_mem_cons.mpr ⟨lw_p49, List.forall_mem_cons.mpr ⟨lw_p50, List.forall_mem_cons.mpr ⟨lw_p51, List.forall_mem_cons.mpr ⟨lw_p52, List.forall_mem_cons.mpr ⟨lw_p53, List.forall_mem_cons.mpr ⟨lw_p54, List.forall_mem_cons.mpr ⟨lw_p55, List.forall_mem_cons.mpr ⟨lw_p56, List.forall_mem_cons.mpr ⟨lw_p57, List.forall_mem_cons.mpr ⟨lw_p58, List.forall_mem_cons.mpr ⟨lw_p59, List.forall_mem_cons.mpr ⟨lw_p60, List.forall_mem_cons.mpr ⟨lw_p61, List.forall_mem_cons.mpr ⟨lw_p62, List.forall_mem_cons.mpr ⟨lw_p63, fun _ h => absurd h List.not_mem_nil⟩⟩⟩⟩⟩⟩⟩⟩⟩⟩⟩⟩⟩⟩⟩⟩
theorem lw_p64 : lw_okq (⟨"SharedAirModel", "sendsIt", "(III)Z"⟩, 21) := ⟨⟨by decide +kernel, by decide +kernel⟩, List.mem_of_getElem? (i := 971) (by decide +kernel), List.mem_of_getElem? (i := 1250) (by decide +kernel), List.mem_of_getElem? (i := 1251) (by decide +kernel)⟩
theorem lw_p65 : lw_okq (⟨"SharedAirModel", "failsBy", "(IZ)V"⟩, 21) := ⟨⟨by decide +kernel, by decide +kernel⟩, List.mem_of_getElem? (i := 971) (by decide +kernel), List.mem_of_getElem? (i := 1254) (by decide +kernel), List.mem_of_getElem? (i := 1255) (by decide +kernel)⟩
theorem lw_p66 : lw_okq (⟨"SharedAirModel", "stepData", "(I)V"⟩, 21) := ⟨⟨by decide +kernel, by decide +kernel⟩, List.mem_of_getElem? (i := 971) (by decide +kernel), List.mem_of_getElem? (i := 1259) (by decide +kernel), List.mem_of_getElem? (i := 1260) (by decide +kernel)⟩
theorem lw_p67 : lw_okq (⟨"SharedAirModel", "delivers", "(I)V"⟩, 21) := ⟨⟨by decide +kernel, by decide +kernel⟩, List.mem_of_getElem? (i := 971) (by decide +kernel), List.mem_of_getElem? (i := 1263) (by decide +kernel), List.mem_of_getElem? (i := 1264) (by decide +kernel)⟩
theorem lw_p68 : lw_okq (⟨"SharedAirModel", "stepEnd", "()V"⟩, 21) := ⟨⟨by decide +kernel, by decide +kernel⟩, List.mem_of_getElem? (i := 971) (by decide +kernel), List.mem_of_getElem? (i := 1267) (by decide +kernel), List.mem_of_getElem? (i := 1268) (by decide +kernel)⟩
theorem lw_p69 : lw_okq (⟨"SharedAirModel", "tell", "(J)V"⟩, 21) := ⟨⟨by decide +kernel, by decide +kernel⟩, List.mem_of_getElem? (i := 971) (by decide +kernel), List.mem_of_getElem? (i := 1271) (by decide +kernel), List.mem_of_getElem? (i := 1272) (by decide +kernel)⟩
theorem lw_p70 : lw_okq (⟨"SharedAirModel", "drawAll", "()I"⟩, 21) := ⟨⟨by decide +kernel, by decide +kernel⟩, List.mem_of_getElem? (i := 971) (by decide +kernel), List.mem_of_getElem? (i := 1279) (by decide +kernel), List.mem_of_getElem? (i := 1280) (by decide +kernel)⟩
theorem lw_p71 : lw_okq (⟨"SharedAirModel", "heardBy", "(I)I"⟩, 21) := ⟨⟨by decide +kernel, by decide +kernel⟩, List.mem_of_getElem? (i := 971) (by decide +kernel), List.mem_of_getElem? (i := 1287) (by decide +kernel), List.mem_of_getElem? (i := 1288) (by decide +kernel)⟩
theorem lw_p72 : lw_okq (⟨"SharedAirModel", "placesOf", "(I)I"⟩, 21) := ⟨⟨by decide +kernel, by decide +kernel⟩, List.mem_of_getElem? (i := 971) (by decide +kernel), List.mem_of_getElem? (i := 1303) (by decide +kernel), List.mem_of_getElem? (i := 1304) (by decide +kernel)⟩
theorem lw_p73 : lw_okq (⟨"SharedAirModel", "layAside", "()V"⟩, 21) := ⟨⟨by decide +kernel, by decide +kernel⟩, List.mem_of_getElem? (i := 971) (by decide +kernel), List.mem_of_getElem? (i := 1372) (by decide +kernel), List.mem_of_getElem? (i := 1373) (by decide +kernel)⟩
theorem lw_p74 : lw_okq (⟨"SharedAirModel", "allWaiting", "()I"⟩, 21) := ⟨⟨by decide +kernel, by decide +kernel⟩, List.mem_of_getElem? (i := 971) (by decide +kernel), List.mem_of_getElem? (i := 1376) (by decide +kernel), List.mem_of_getElem? (i := 1377) (by decide +kernel)⟩
theorem lw_p75 : lw_okq (⟨"SharedAirModel", "comesBack", "()V"⟩, 21) := ⟨⟨by decide +kernel, by decide +kernel⟩, List.mem_of_getElem? (i := 971) (by decide +kernel), List.mem_of_getElem? (i := 1380) (by decide +kernel), List.mem_of_getElem? (i := 1381) (by decide +kernel)⟩
theorem lw_p76 : lw_okq (⟨"SharedAirModel", "isQuiet", "()Z"⟩, 21) := ⟨⟨by decide +kernel, by decide +kernel⟩, List.mem_of_getElem? (i := 971) (by decide +kernel), List.mem_of_getElem? (i := 1388) (by decide +kernel), List.mem_of_getElem? (i := 1389) (by decide +kernel)⟩
theorem lw_p77 : lw_okq (⟨"SharedAirModel", "takes", "(II)I"⟩, 21) := ⟨⟨by decide +kernel, by decide +kernel⟩, List.mem_of_getElem? (i := 971) (by decide +kernel), List.mem_of_getElem? (i := 1400) (by decide +kernel), List.mem_of_getElem? (i := 1401) (by decide +kernel)⟩
theorem lw_p78 : lw_okq (⟨"SharedAirModel", "readAct", "(I)V"⟩, 21) := ⟨⟨by decide +kernel, by decide +kernel⟩, List.mem_of_getElem? (i := 971) (by decide +kernel), List.mem_of_getElem? (i := 1408) (by decide +kernel), List.mem_of_getElem? (i := 1409) (by decide +kernel)⟩
theorem lw_p79 : lw_okq (⟨"SharedAirModel", "twoDigits", "()I"⟩, 21) := ⟨⟨by decide +kernel, by decide +kernel⟩, List.mem_of_getElem? (i := 971) (by decide +kernel), List.mem_of_getElem? (i := 1412) (by decide +kernel), List.mem_of_getElem? (i := 1413) (by decide +kernel)⟩
def lw_privs_5 : List (MethodName × Nat) := [(⟨"SharedAirModel", "sendsIt", "(III)Z"⟩, 21), (⟨"SharedAirModel", "failsBy", "(IZ)V"⟩, 21), (⟨"SharedAirModel", "stepData", "(I)V"⟩, 21), (⟨"SharedAirModel", "delivers", "(I)V"⟩, 21), (⟨"SharedAirModel", "stepEnd", "()V"⟩, 21), (⟨"SharedAirModel", "tell", "(J)V"⟩, 21), (⟨"SharedAirModel", "drawAll", "()I"⟩, 21), (⟨"SharedAirModel", "heardBy", "(I)I"⟩, 21), (⟨"SharedAirModel", "placesOf", "(I)I"⟩, 21), (⟨"SharedAirModel", "layAside", "()V"⟩, 21), (⟨"SharedAirModel", "allWaiting", "()I"⟩, 21), (⟨"SharedAirModel", "comesBack", "()V"⟩, 21), (⟨"SharedAirModel", "isQuiet", "()Z"⟩, 21), (⟨"SharedAirModel", "takes", "(II)I"⟩, 21), (⟨"SharedAirModel", "readAct", "(I)V"⟩, 21), (⟨"SharedAirModel", "twoDigits", "()I"⟩, 21)]
theorem lw_r5 : ∀ q ∈ lw_privs_5, lw_okq q := List.forall_mem_cons.mpr ⟨lw_p64, List.forall_mem_cons.mpr ⟨lw_p65, List.forall_mem_cons.mpr ⟨lw_p66, List.forall_mem_cons.mpr ⟨lw_p67, List.forall_mem_cons.mpr ⟨lw_p68, List.forall_mem_cons.mpr ⟨lw_p69, List.forall_mem_cons.mpr ⟨lw_p70, List.forall_mem_cons.mpr ⟨lw_p71, List.forall_mem_cons.mpr ⟨lw_p72, List.forall_mem_cons.mpr ⟨lw_p73, List.forall_mem_cons.mpr ⟨lw_p74, List.forall_mem_cons.mpr ⟨lw_p75, List.forall_mem_cons.mpr ⟨lw_p76, List.forall_mem_cons.mpr ⟨lw_p77, List.forall_mem_cons.mpr ⟨lw_p78, List.forall_mem_cons.mpr ⟨lw_p79, fun _ h => absurd h List.not_mem_nil⟩⟩⟩⟩⟩⟩⟩⟩⟩⟩⟩⟩⟩⟩⟩⟩
theorem lw_p80 : lw_okq (⟨"SharedAirModel", "act", "(I)Z"⟩, 21) := ⟨⟨by decide +kernel, by decide +kernel⟩, List.mem_of_getElem? (i := 971) (by decide +kernel), List.mem_of_getElem? (i := 1416) (by decide +kernel), List.mem_of_getElem? (i := 1417) (by decide +kernel)⟩
theorem lw_p81 : lw_okq (⟨"SharedAirModel", "drawBeside", "(I)I"⟩, 21) := ⟨⟨by decide +kernel, by decide +kernel⟩, List.mem_of_getElem? (i := 971) (by decide +kernel), List.mem_of_getElem? (i := 1428) (by decide +kernel), List.mem_of_getElem? (i := 1429) (by decide +kernel)⟩
theorem lw_p82 : lw_okq (⟨"SharedAirModel", "exchanges", "()I"⟩, 21) := ⟨⟨by decide +kernel, by decide +kernel⟩, List.mem_of_getElem? (i := 971) (by decide +kernel), List.mem_of_getElem? (i := 1444) (by decide +kernel), List.mem_of_getElem? (i := 1445) (by decide +kernel)⟩
def lw_privs_6 : List (MethodName × Nat) := [(⟨"SharedAirModel", "act", "(I)Z"⟩, 21), (⟨"SharedAirModel", "drawBeside", "(I)I"⟩, 21), (⟨"SharedAirModel", "exchanges", "()I"⟩, 21)]
theorem lw_r6 : ∀ q ∈ lw_privs_6, lw_okq q := List.forall_mem_cons.mpr ⟨lw_p80, List.forall_mem_cons.mpr ⟨lw_p81, List.forall_mem_cons.mpr ⟨lw_p82, fun _ h => absurd h List.not_mem_nil⟩⟩⟩
def lw_privs : List (MethodName × Nat) := lw_privs_1 ++ (lw_privs_2 ++ (lw_privs_3 ++ (lw_privs_4 ++ (lw_privs_5 ++ (lw_privs_6)))))
def lw_tbl : List Cond := k2_sels lw_privs ++ tables_1
theorem lw_privs_ok : ∀ q ∈ lw_privs, lw_okq q := by
  show ∀ q ∈ lw_privs_1 ++ (lw_privs_2 ++ (lw_privs_3 ++ (lw_privs_4 ++ (lw_privs_5 ++ (lw_privs_6))))), lw_okq q
  exact List.forall_mem_append.mpr ⟨lw_r1, List.forall_mem_append.mpr ⟨lw_r2, List.forall_mem_append.mpr ⟨lw_r3, List.forall_mem_append.mpr ⟨lw_r4, List.forall_mem_append.mpr ⟨lw_r5, lw_r6⟩⟩⟩⟩⟩
def RX0 : String := "SharedAir$Air"
def RX1 : String := "SharedAir$Dice"
def RX2 : String := "SharedAir$Exchange"
def RX3 : String := "SharedAir$Had"
def RX4 : String := "SharedAir$Numbers"
def RX5 : String := "SharedAir$Past"
def RX6 : String := "SharedAir$Queue"
def RX7 : String := "SharedAir$Signs"
def RX8 : String := "SharedAir$Station"
def RX9 : String := "SharedAir"
def RX10 : String := "SharedAirModel"
def RL : String := "SharedAirLaw"
def TX0 : u_T := fun k => match k with
  | 0 => ("SharedAir$Air", "settings", "[I", true)
  | 1 => ("SharedAir$Air", "dice", "LSharedAir$Dice;", true)
  | 2 => ("SharedAir$Air", "stations", "[LSharedAir$Station;", true)
  | 3 => ("SharedAir$Air", "many", "I", false)
  | 4 => ("SharedAir$Air", "time", "I", false)
  | 5 => ("SharedAir$Air", "sending", "I", false)
  | 6 => ("SharedAir$Air", "clear", "I", false)
  | 7 => ("SharedAir$Air", "ran", "I", false)
  | 8 => ("SharedAir$Air", "beginning", "I", false)
  | 9 => ("SharedAir$Air", "slotsOne", "I", false)
  | 10 => ("SharedAir$Air", "slotsNone", "I", false)
  | 11 => ("SharedAir$Air", "slotsMore", "I", false)
  | _ => ("SharedAir$Air", "markedCame", "Z", false)
def TX1 : u_T := fun k => match k with
  | _ => ("SharedAir$Dice", "seed", "I", false)
def TX2 : u_T := fun k => match k with
  | 0 => ("SharedAir$Exchange", "goesOn", "Z", false)
  | 1 => ("SharedAir$Exchange", "with", "I", false)
  | 2 => ("SharedAir$Exchange", "ofRank", "I", false)
  | 3 => ("SharedAir$Exchange", "frames", "I", false)
  | 4 => ("SharedAir$Exchange", "places", "I", false)
  | 5 => ("SharedAir$Exchange", "step", "I", false)
  | 6 => ("SharedAir$Exchange", "left", "I", false)
  | 7 => ("SharedAir$Exchange", "whole", "I", false)
  | 8 => ("SharedAir$Exchange", "end", "I", false)
  | 9 => ("SharedAir$Exchange", "failure", "I", false)
  | 10 => ("SharedAir$Exchange", "frameNow", "I", false)
  | 11 => ("SharedAir$Exchange", "placesNow", "I", false)
  | _ => ("SharedAir$Exchange", "brokenNow", "Z", false)
def TX3 : u_T := fun k => match k with
  | 0 => ("SharedAir$Had", "tallies", "[I", true)
  | 1 => ("SharedAir$Had", "spoiltBy", "[I", true)
  | 2 => ("SharedAir$Had", "dataPlaces", "I", false)
  | 3 => ("SharedAir$Had", "failure", "I", false)
  | 4 => ("SharedAir$Had", "failureSlot", "I", false)
  | 5 => ("SharedAir$Had", "failureWith", "I", false)
  | 6 => ("SharedAir$Had", "heldBySpan", "I", false)
  | 7 => ("SharedAir$Had", "heldByHearing", "I", false)
  | _ => ("SharedAir$Had", "heldElse", "I", false)
def TX4 : u_T := fun k => match k with
  | 0 => ("SharedAir$Numbers", "numbers", "[J", true)
  | _ => ("SharedAir$Numbers", "length", "I", false)
def TX5 : u_T := fun k => match k with
  | 0 => ("SharedAir$Past", "airs", "[LSharedAir$Air;", true)
  | 1 => ("SharedAir$Past", "size", "I", false)
  | _ => ("SharedAir$Past", "latest", "I", false)
def TX6 : u_T := fun k => match k with
  | 0 => ("SharedAir$Queue", "frames", "[I", true)
  | 1 => ("SharedAir$Queue", "size", "I", false)
  | 2 => ("SharedAir$Queue", "window", "I", false)
  | _ => ("SharedAir$Queue", "count", "I", false)
def TX7 : u_T := fun k => match k with
  | 0 => ("SharedAir$Signs", "signs", "[I", true)
  | _ => ("SharedAir$Signs", "length", "I", false)
def TX8 : u_T := fun k => match k with
  | 0 => ("SharedAir$Station", "queues", "[LSharedAir$Queue;", true)
  | 1 => ("SharedAir$Station", "exchange", "LSharedAir$Exchange;", true)
  | 2 => ("SharedAir$Station", "had", "LSharedAir$Had;", true)
  | 3 => ("SharedAir$Station", "qualities", "[I", true)
  | 4 => ("SharedAir$Station", "rates", "[I", true)
  | 5 => ("SharedAir$Station", "lucks", "[I", true)
  | 6 => ("SharedAir$Station", "hears", "I", false)
  | 7 => ("SharedAir$Station", "still", "I", false)
  | 8 => ("SharedAir$Station", "span", "I", false)
  | 9 => ("SharedAir$Station", "spanBy", "I", false)
  | 10 => ("SharedAir$Station", "spanStep", "I", false)
  | 11 => ("SharedAir$Station", "owesTo", "I", false)
  | _ => ("SharedAir$Station", "owes", "I", false)
def TX9 : u_T := fun k => match k with
  | 0 => ("SharedAir", "air", "LSharedAir$Air;", true)
  | 1 => ("SharedAir", "trial", "LSharedAir$Air;", true)
  | 2 => ("SharedAir", "yearDice", "LSharedAir$Dice;", true)
  | 3 => ("SharedAir", "past", "LSharedAir$Past;", true)
  | 4 => ("SharedAir", "kept", "[LSharedAir$Air;", true)
  | 5 => ("SharedAir", "isKept", "[Z", true)
  | 6 => ("SharedAir", "text", "LSharedAir$Signs;", true)
  | 7 => ("SharedAir", "told", "LSharedAir$Numbers;", true)
  | _ => ("SharedAir", "pairs", "[I", true)
def TX10 : u_T := fun k => match k with
  | 0 => ("SharedAirModel", "now", "[I", true)
  | 1 => ("SharedAirModel", "text", "[B", true)
  | 2 => ("SharedAirModel", "typed", "I", false)
  | 3 => ("SharedAirModel", "row", "[J", true)
  | 4 => ("SharedAirModel", "rowMany", "I", false)
  | 5 => ("SharedAirModel", "thrown", "I", false)
  | 6 => ("SharedAirModel", "length", "I", false)
  | 7 => ("SharedAirModel", "at", "I", false)
  | 8 => ("SharedAirModel", "wrong", "I", false)
  | 9 => ("SharedAirModel", "told", "[I", true)
  | 10 => ("SharedAirModel", "owesThen", "[I", true)
  | 11 => ("SharedAirModel", "whatThen", "[I", true)
  | 12 => ("SharedAirModel", "sends", "I", false)
  | 13 => ("SharedAirModel", "aside", "[I", true)
  | 14 => ("SharedAirModel", "acts", "[I", true)
  | 15 => ("SharedAirModel", "undos", "[I", true)
  | 16 => ("SharedAirModel", "was", "[I", true)
  | 17 => ("SharedAirModel", "undoMany", "I", false)
  | 18 => ("SharedAirModel", "drawn", "I", false)
  | 19 => ("SharedAirModel", "kept", "[I", true)
  | _ => ("SharedAirModel", "isKept", "[Z", true)
def tyX0 : Nat → FieldType := fun k => match k with
  | 0 => .array .int
  | 1 => .object "SharedAir$Dice"
  | 2 => .array (.object "SharedAir$Station")
  | 3 => .int
  | 4 => .int
  | 5 => .int
  | 6 => .int
  | 7 => .int
  | 8 => .int
  | 9 => .int
  | 10 => .int
  | 11 => .int
  | _ => .boolean
def tyX1 : Nat → FieldType := fun k => match k with
  | _ => .int
def tyX2 : Nat → FieldType := fun k => match k with
  | 0 => .boolean
  | 1 => .int
  | 2 => .int
  | 3 => .int
  | 4 => .int
  | 5 => .int
  | 6 => .int
  | 7 => .int
  | 8 => .int
  | 9 => .int
  | 10 => .int
  | 11 => .int
  | _ => .boolean
def tyX3 : Nat → FieldType := fun k => match k with
  | 0 => .array .int
  | 1 => .array .int
  | 2 => .int
  | 3 => .int
  | 4 => .int
  | 5 => .int
  | 6 => .int
  | 7 => .int
  | _ => .int
def tyX4 : Nat → FieldType := fun k => match k with
  | 0 => .array .long
  | _ => .int
def tyX5 : Nat → FieldType := fun k => match k with
  | 0 => .array (.object "SharedAir$Air")
  | 1 => .int
  | _ => .int
def tyX6 : Nat → FieldType := fun k => match k with
  | 0 => .array .int
  | 1 => .int
  | 2 => .int
  | _ => .int
def tyX7 : Nat → FieldType := fun k => match k with
  | 0 => .array .int
  | _ => .int
def tyX8 : Nat → FieldType := fun k => match k with
  | 0 => .array (.object "SharedAir$Queue")
  | 1 => .object "SharedAir$Exchange"
  | 2 => .object "SharedAir$Had"
  | 3 => .array .int
  | 4 => .array .int
  | 5 => .array .int
  | 6 => .int
  | 7 => .int
  | 8 => .int
  | 9 => .int
  | 10 => .int
  | 11 => .int
  | _ => .int
def tyX9 : Nat → FieldType := fun k => match k with
  | 0 => .object "SharedAir$Air"
  | 1 => .object "SharedAir$Air"
  | 2 => .object "SharedAir$Dice"
  | 3 => .object "SharedAir$Past"
  | 4 => .array (.object "SharedAir$Air")
  | 5 => .array .boolean
  | 6 => .object "SharedAir$Signs"
  | 7 => .object "SharedAir$Numbers"
  | _ => .array .int
def tyX10 : Nat → FieldType := fun k => match k with
  | 0 => .array .int
  | 1 => .array .byte
  | 2 => .int
  | 3 => .array .long
  | 4 => .int
  | 5 => .int
  | 6 => .int
  | 7 => .int
  | 8 => .int
  | 9 => .array .int
  | 10 => .array .int
  | 11 => .array .int
  | 12 => .int
  | 13 => .array .int
  | 14 => .array .int
  | 15 => .array .int
  | 16 => .array .int
  | 17 => .int
  | 18 => .int
  | 19 => .array .int
  | _ => .array .boolean
theorem nmX0 : ∀ a, a < 13 → ∀ b, b < 13 → a ≠ b → (TX0 a).2.1 ≠ (TX0 b).2.1 := by decide +kernel
theorem nmX1 : ∀ a, a < 1 → ∀ b, b < 1 → a ≠ b → (TX1 a).2.1 ≠ (TX1 b).2.1 := by decide +kernel
theorem nmX2 : ∀ a, a < 13 → ∀ b, b < 13 → a ≠ b → (TX2 a).2.1 ≠ (TX2 b).2.1 := by decide +kernel
theorem nmX3 : ∀ a, a < 9 → ∀ b, b < 9 → a ≠ b → (TX3 a).2.1 ≠ (TX3 b).2.1 := by decide +kernel
theorem nmX4 : ∀ a, a < 2 → ∀ b, b < 2 → a ≠ b → (TX4 a).2.1 ≠ (TX4 b).2.1 := by decide +kernel
theorem nmX5 : ∀ a, a < 3 → ∀ b, b < 3 → a ≠ b → (TX5 a).2.1 ≠ (TX5 b).2.1 := by decide +kernel
theorem nmX6 : ∀ a, a < 4 → ∀ b, b < 4 → a ≠ b → (TX6 a).2.1 ≠ (TX6 b).2.1 := by decide +kernel
theorem nmX7 : ∀ a, a < 2 → ∀ b, b < 2 → a ≠ b → (TX7 a).2.1 ≠ (TX7 b).2.1 := by decide +kernel
theorem nmX8 : ∀ a, a < 13 → ∀ b, b < 13 → a ≠ b → (TX8 a).2.1 ≠ (TX8 b).2.1 := by decide +kernel
theorem nmX9 : ∀ a, a < 9 → ∀ b, b < 9 → a ≠ b → (TX9 a).2.1 ≠ (TX9 b).2.1 := by decide +kernel
theorem nmX10 : ∀ a, a < 21 → ∀ b, b < 21 → a ≠ b → (TX10 a).2.1 ≠ (TX10 b).2.1 := by decide +kernel
theorem tyX0_ok : ∀ k, k < 13 → parseFieldDescriptor (TX0 k).2.2.1 = some (tyX0 k) := by decide +kernel
theorem tyX1_ok : ∀ k, k < 1 → parseFieldDescriptor (TX1 k).2.2.1 = some (tyX1 k) := by decide +kernel
theorem tyX2_ok : ∀ k, k < 13 → parseFieldDescriptor (TX2 k).2.2.1 = some (tyX2 k) := by decide +kernel
theorem tyX3_ok : ∀ k, k < 9 → parseFieldDescriptor (TX3 k).2.2.1 = some (tyX3 k) := by decide +kernel
theorem tyX4_ok : ∀ k, k < 2 → parseFieldDescriptor (TX4 k).2.2.1 = some (tyX4 k) := by decide +kernel
theorem tyX5_ok : ∀ k, k < 3 → parseFieldDescriptor (TX5 k).2.2.1 = some (tyX5 k) := by decide +kernel
theorem tyX6_ok : ∀ k, k < 4 → parseFieldDescriptor (TX6 k).2.2.1 = some (tyX6 k) := by decide +kernel
theorem tyX7_ok : ∀ k, k < 2 → parseFieldDescriptor (TX7 k).2.2.1 = some (tyX7 k) := by decide +kernel
theorem tyX8_ok : ∀ k, k < 13 → parseFieldDescriptor (TX8 k).2.2.1 = some (tyX8 k) := by decide +kernel
theorem tyX9_ok : ∀ k, k < 9 → parseFieldDescriptor (TX9 k).2.2.1 = some (tyX9 k) := by decide +kernel
theorem tyX10_ok : ∀ k, k < 21 → parseFieldDescriptor (TX10 k).2.2.1 = some (tyX10 k) := by decide +kernel
def RJ6 : String := "java/lang/Integer"
abbrev cX0_init : ByteArray := prog_2_method_1_code
def yX0_init : MethodName := ⟨RX0, "<init>", "()V"⟩
abbrev cX0_become : ByteArray := prog_2_method_2_code
def yX0_become : MethodName := ⟨RX0, "become", "(LSharedAir$Air;)V"⟩
abbrev cX0_startAnew : ByteArray := prog_2_method_3_code
def yX0_startAnew : MethodName := ⟨RX0, "startAnew", "(I[I)V"⟩
abbrev cX0_startStation : ByteArray := prog_2_method_4_code
def yX0_startStation : MethodName := ⟨RX0, "startStation", "(I[I)V"⟩
abbrev cX0_hear : ByteArray := prog_2_method_5_code
def yX0_hear : MethodName := ⟨RX0, "hear", "(II)Z"⟩
abbrev cX0_sumOf : ByteArray := prog_2_method_6_code
def yX0_sumOf : MethodName := ⟨RX0, "sumOf", "(I)I"⟩
abbrev cX0_waiting : ByteArray := prog_2_method_7_code
def yX0_waiting : MethodName := ⟨RX0, "waiting", "()I"⟩
abbrev cX0_exchangesOn : ByteArray := prog_2_method_8_code
def yX0_exchangesOn : MethodName := ⟨RX0, "exchangesOn", "()I"⟩
abbrev cX0_emptyQueues : ByteArray := prog_2_method_9_code
def yX0_emptyQueues : MethodName := ⟨RX0, "emptyQueues", "(I)V"⟩
abbrev cX0_whyNotOffer : ByteArray := prog_2_method_10_code
def yX0_whyNotOffer : MethodName := ⟨RX0, "whyNotOffer", "(IIII)I"⟩
abbrev cX0_takeFrame : ByteArray := prog_2_method_11_code
def yX0_takeFrame : MethodName := ⟨RX0, "takeFrame", "(IIII)I"⟩
abbrev cX0_markLast : ByteArray := prog_2_method_12_code
def yX0_markLast : MethodName := ⟨RX0, "markLast", "(II)V"⟩
abbrev cX0_drawAll : ByteArray := prog_2_method_13_code
def yX0_drawAll : MethodName := ⟨RX0, "drawAll", "()I"⟩
abbrev cX0_isReady : ByteArray := prog_2_method_14_code
def yX0_isReady : MethodName := ⟨RX0, "isReady", "(II)Z"⟩
abbrev cX0_passSlot : ByteArray := prog_2_method_15_code
def yX0_passSlot : MethodName := ⟨RX0, "passSlot", "()V"⟩
abbrev cX0_runningSpans : ByteArray := prog_2_method_16_code
def yX0_runningSpans : MethodName := ⟨RX0, "runningSpans", "()I"⟩
abbrev cX0_beginOf : ByteArray := prog_2_method_17_code
def yX0_beginOf : MethodName := ⟨RX0, "beginOf", "(I)V"⟩
abbrev cX0_beginExchange : ByteArray := prog_2_method_18_code
def yX0_beginExchange : MethodName := ⟨RX0, "beginExchange", "(II)V"⟩
abbrev cX0_placesOf : ByteArray := prog_2_method_19_code
def yX0_placesOf : MethodName := ⟨RX0, "placesOf", "(LSharedAir$Station;I)I"⟩
abbrev cX0_senders : ByteArray := prog_2_method_20_code
def yX0_senders : MethodName := ⟨RX0, "senders", "()I"⟩
abbrev cX0_sendsNow : ByteArray := prog_2_method_21_code
def yX0_sendsNow : MethodName := ⟨RX0, "sendsNow", "(I)Z"⟩
abbrev cX0_isClear : ByteArray := prog_2_method_22_code
def yX0_isClear : MethodName := ⟨RX0, "isClear", "(II)Z"⟩
abbrev cX0_clearOnes : ByteArray := prog_2_method_23_code
def yX0_clearOnes : MethodName := ⟨RX0, "clearOnes", "()I"⟩
abbrev cX0_noteSlot : ByteArray := prog_2_method_24_code
def yX0_noteSlot : MethodName := ⟨RX0, "noteSlot", "()V"⟩
abbrev cX0_spread : ByteArray := prog_2_method_25_code
def yX0_spread : MethodName := ⟨RX0, "spread", "(IIIII)V"⟩
abbrev cX0_goAsk : ByteArray := prog_2_method_26_code
def yX0_goAsk : MethodName := ⟨RX0, "goAsk", "(IILSharedAir$Exchange;)V"⟩
abbrev cX0_goGrant : ByteArray := prog_2_method_27_code
def yX0_goGrant : MethodName := ⟨RX0, "goGrant", "(IILSharedAir$Exchange;)V"⟩
abbrev cX0_goData : ByteArray := prog_2_method_28_code
def yX0_goData : MethodName := ⟨RX0, "goData", "(IILSharedAir$Exchange;)V"⟩
abbrev cX0_noteSpoilt : ByteArray := prog_2_method_29_code
def yX0_noteSpoilt : MethodName := ⟨RX0, "noteSpoilt", "(LSharedAir$Had;I)V"⟩
abbrev cX0_goPlace : ByteArray := prog_2_method_30_code
def yX0_goPlace : MethodName := ⟨RX0, "goPlace", "(LSharedAir$Station;Z)V"⟩
abbrev cX0_goAnswer : ByteArray := prog_2_method_31_code
def yX0_goAnswer : MethodName := ⟨RX0, "goAnswer", "(IILSharedAir$Exchange;)V"⟩
abbrev cX0_deliver : ByteArray := prog_2_method_32_code
def yX0_deliver : MethodName := ⟨RX0, "deliver", "(ILSharedAir$Exchange;)V"⟩
abbrev cX0_failExchange : ByteArray := prog_2_method_33_code
def yX0_failExchange : MethodName := ⟨RX0, "failExchange", "(ILSharedAir$Exchange;)V"⟩
abbrev cX0_failFirst : ByteArray := prog_2_method_34_code
def yX0_failFirst : MethodName := ⟨RX0, "failFirst", "(II)V"⟩
abbrev cX0_settle : ByteArray := prog_2_method_35_code
def yX0_settle : MethodName := ⟨RX0, "settle", "(I)V"⟩
abbrev cX1_init : ByteArray := prog_3_method_1_code
def yX1_init : MethodName := ⟨RX1, "<init>", "()V"⟩
abbrev cX1_draw : ByteArray := prog_3_method_2_code
def yX1_draw : MethodName := ⟨RX1, "draw", "(I)I"⟩
abbrev cX2_init : ByteArray := prog_4_method_1_code
def yX2_init : MethodName := ⟨RX2, "<init>", "()V"⟩
abbrev cX2_become : ByteArray := prog_4_method_2_code
def yX2_become : MethodName := ⟨RX2, "become", "(LSharedAir$Exchange;)V"⟩
abbrev cX2_sends : ByteArray := prog_4_method_3_code
def yX2_sends : MethodName := ⟨RX2, "sends", "()Z"⟩
abbrev cX3_init : ByteArray := prog_5_method_1_code
def yX3_init : MethodName := ⟨RX3, "<init>", "()V"⟩
abbrev cX3_become : ByteArray := prog_5_method_2_code
def yX3_become : MethodName := ⟨RX3, "become", "(LSharedAir$Had;)V"⟩
abbrev cX3_startAnew : ByteArray := prog_5_method_3_code
def yX3_startAnew : MethodName := ⟨RX3, "startAnew", "()V"⟩
abbrev cX3_delivered : ByteArray := prog_5_method_4_code
def yX3_delivered : MethodName := ⟨RX3, "delivered", "(II)V"⟩
abbrev cX4_init : ByteArray := prog_6_method_1_code
def yX4_init : MethodName := ⟨RX4, "<init>", "()V"⟩
abbrev cX4_forget : ByteArray := prog_6_method_2_code
def yX4_forget : MethodName := ⟨RX4, "forget", "()V"⟩
abbrev cX4_add : ByteArray := prog_6_method_3_code
def yX4_add : MethodName := ⟨RX4, "add", "(J)V"⟩
abbrev cX4_tellOne : ByteArray := prog_6_method_4_code
def yX4_tellOne : MethodName := ⟨RX4, "tellOne", "(J)V"⟩
abbrev cX4_tellTwo : ByteArray := prog_6_method_5_code
def yX4_tellTwo : MethodName := ⟨RX4, "tellTwo", "(JJ)V"⟩
abbrev cX4_tellThree : ByteArray := prog_6_method_6_code
def yX4_tellThree : MethodName := ⟨RX4, "tellThree", "(JJJ)V"⟩
abbrev cX4_tellPart : ByteArray := prog_6_method_7_code
def yX4_tellPart : MethodName := ⟨RX4, "tellPart", "(JJ)V"⟩
abbrev cX5_init : ByteArray := prog_7_method_1_code
def yX5_init : MethodName := ⟨RX5, "<init>", "()V"⟩
abbrev cX5_push : ByteArray := prog_7_method_2_code
def yX5_push : MethodName := ⟨RX5, "push", "(LSharedAir$Air;)V"⟩
abbrev cX5_popInto : ByteArray := prog_7_method_3_code
def yX5_popInto : MethodName := ⟨RX5, "popInto", "(LSharedAir$Air;)Z"⟩
abbrev cX6_init : ByteArray := prog_8_method_1_code
def yX6_init : MethodName := ⟨RX6, "<init>", "()V"⟩
abbrev cX6_become : ByteArray := prog_8_method_2_code
def yX6_become : MethodName := ⟨RX6, "become", "(LSharedAir$Queue;)V"⟩
abbrev cX6_fieldOf : ByteArray := prog_8_method_3_code
def yX6_fieldOf : MethodName := ⟨RX6, "fieldOf", "(II)I"⟩
abbrev cX6_addLast : ByteArray := prog_8_method_4_code
def yX6_addLast : MethodName := ⟨RX6, "addLast", "(III)V"⟩
abbrev cX6_tryAgain : ByteArray := prog_8_method_5_code
def yX6_tryAgain : MethodName := ⟨RX6, "tryAgain", "(I)I"⟩
abbrev cX6_removeAt : ByteArray := prog_8_method_6_code
def yX6_removeAt : MethodName := ⟨RX6, "removeAt", "(I)V"⟩
abbrev cX6_alikeAtFirst : ByteArray := prog_8_method_7_code
def yX6_alikeAtFirst : MethodName := ⟨RX6, "alikeAtFirst", "(I)I"⟩
abbrev cX7_init : ByteArray := prog_9_method_1_code
def yX7_init : MethodName := ⟨RX7, "<init>", "()V"⟩
abbrev cX7_addFour : ByteArray := prog_9_method_2_code
def yX7_addFour : MethodName := ⟨RX7, "addFour", "(I)Z"⟩
abbrev cX7_cutTo : ByteArray := prog_9_method_3_code
def yX7_cutTo : MethodName := ⟨RX7, "cutTo", "(I)Z"⟩
abbrev cX7_at : ByteArray := prog_9_method_4_code
def yX7_at : MethodName := ⟨RX7, "at", "(I)I"⟩
abbrev cX7_digitAt : ByteArray := prog_9_method_5_code
def yX7_digitAt : MethodName := ⟨RX7, "digitAt", "(III)I"⟩
abbrev cX7_letterAt : ByteArray := prog_9_method_6_code
def yX7_letterAt : MethodName := ⟨RX7, "letterAt", "(II)I"⟩
abbrev cX8_init : ByteArray := prog_10_method_1_code
def yX8_init : MethodName := ⟨RX8, "<init>", "()V"⟩
abbrev cX8_become : ByteArray := prog_10_method_2_code
def yX8_become : MethodName := ⟨RX8, "become", "(LSharedAir$Station;)V"⟩
abbrev cX8_isFree : ByteArray := prog_10_method_3_code
def yX8_isFree : MethodName := ⟨RX8, "isFree", "()Z"⟩
abbrev cX8_waiting : ByteArray := prog_10_method_4_code
def yX8_waiting : MethodName := ⟨RX8, "waiting", "()I"⟩
abbrev cX8_setOwing : ByteArray := prog_10_method_5_code
def yX8_setOwing : MethodName := ⟨RX8, "setOwing", "(II)V"⟩
abbrev cX8_pays : ByteArray := prog_10_method_6_code
def yX8_pays : MethodName := ⟨RX8, "pays", "(II)Z"⟩
abbrev cX8_listen : ByteArray := prog_10_method_7_code
def yX8_listen : MethodName := ⟨RX8, "listen", "(III)V"⟩
abbrev cX9_init : ByteArray := prog_1_method_1_code
def yX9_init : MethodName := ⟨RX9, "<init>", "()V"⟩
abbrev cX9_sign : ByteArray := prog_1_method_2_code
def yX9_sign : MethodName := ⟨RX9, "sign", "(I)I"⟩
abbrev cX9_end : ByteArray := prog_1_method_3_code
def yX9_end : MethodName := ⟨RX9, "end", "(I)Z"⟩
abbrev cX9_net : ByteArray := prog_1_method_4_code
def yX9_net : MethodName := ⟨RX9, "net", "()I"⟩
abbrev cX9_sets : ByteArray := prog_1_method_5_code
def yX9_sets : MethodName := ⟨RX9, "sets", "(II)I"⟩
abbrev cX9_setting : ByteArray := prog_1_method_6_code
def yX9_setting : MethodName := ⟨RX9, "setting", "(I)I"⟩
abbrev cX9_sheet : ByteArray := prog_1_method_7_code
def yX9_sheet : MethodName := ⟨RX9, "sheet", "(IIIII)I"⟩
abbrev cX9_offers : ByteArray := prog_1_method_8_code
def yX9_offers : MethodName := ⟨RX9, "offers", "(IIII)I"⟩
abbrev cX9_slots : ByteArray := prog_1_method_9_code
def yX9_slots : MethodName := ⟨RX9, "slots", "(I)I"⟩
abbrev cX9_draws : ByteArray := prog_1_method_10_code
def yX9_draws : MethodName := ⟨RX9, "draws", "()I"⟩
abbrev cX9_station : ByteArray := prog_1_method_11_code
def yX9_station : MethodName := ⟨RX9, "station", "(II)I"⟩
abbrev cX9_rank : ByteArray := prog_1_method_12_code
def yX9_rank : MethodName := ⟨RX9, "rank", "(III)I"⟩
abbrev cX9_frame : ByteArray := prog_1_method_13_code
def yX9_frame : MethodName := ⟨RX9, "frame", "(IIII)I"⟩
abbrev cX9_exchange : ByteArray := prog_1_method_14_code
def yX9_exchange : MethodName := ⟨RX9, "exchange", "(II)I"⟩
abbrev cX9_sent : ByteArray := prog_1_method_15_code
def yX9_sent : MethodName := ⟨RX9, "sent", "()I"⟩
abbrev cX9_spanOf : ByteArray := prog_1_method_16_code
def yX9_spanOf : MethodName := ⟨RX9, "spanOf", "(I)I"⟩
abbrev cX9_rate : ByteArray := prog_1_method_17_code
def yX9_rate : MethodName := ⟨RX9, "rate", "(II)I"⟩
abbrev cX9_hidden : ByteArray := prog_1_method_18_code
def yX9_hidden : MethodName := ⟨RX9, "hidden", "()I"⟩
abbrev cX9_tally : ByteArray := prog_1_method_19_code
def yX9_tally : MethodName := ⟨RX9, "tally", "(II)I"⟩
abbrev cX9_why : ByteArray := prog_1_method_20_code
def yX9_why : MethodName := ⟨RX9, "why", "(I)I"⟩
abbrev cX9_spoilt : ByteArray := prog_1_method_21_code
def yX9_spoilt : MethodName := ⟨RX9, "spoilt", "(II)I"⟩
abbrev cX9_held : ByteArray := prog_1_method_22_code
def yX9_held : MethodName := ⟨RX9, "held", "(I)I"⟩
abbrev cX9_even : ByteArray := prog_1_method_23_code
def yX9_even : MethodName := ⟨RX9, "even", "()I"⟩
abbrev cX9_busy : ByteArray := prog_1_method_24_code
def yX9_busy : MethodName := ⟨RX9, "busy", "()I"⟩
abbrev cX9_odds : ByteArray := prog_1_method_25_code
def yX9_odds : MethodName := ⟨RX9, "odds", "(II)I"⟩
abbrev cX9_window : ByteArray := prog_1_method_26_code
def yX9_window : MethodName := ⟨RX9, "window", "(II)I"⟩
abbrev cX9_ahead : ByteArray := prog_1_method_27_code
def yX9_ahead : MethodName := ⟨RX9, "ahead", "(II)I"⟩
abbrev cX9_quiet : ByteArray := prog_1_method_28_code
def yX9_quiet : MethodName := ⟨RX9, "quiet", "()I"⟩
abbrev cX9_next : ByteArray := prog_1_method_29_code
def yX9_next : MethodName := ⟨RX9, "next", "()I"⟩
abbrev cX9_soonest : ByteArray := prog_1_method_30_code
def yX9_soonest : MethodName := ⟨RX9, "soonest", "(I)I"⟩
abbrev cX9_day : ByteArray := prog_1_method_31_code
def yX9_day : MethodName := ⟨RX9, "day", "()I"⟩
abbrev cX9_undo : ByteArray := prog_1_method_32_code
def yX9_undo : MethodName := ⟨RX9, "undo", "()I"⟩
abbrev cX9_years : ByteArray := prog_1_method_33_code
def yX9_years : MethodName := ⟨RX9, "years", "(II)I"⟩
abbrev cX9_keep : ByteArray := prog_1_method_34_code
def yX9_keep : MethodName := ⟨RX9, "keep", "(I)Z"⟩
abbrev cX9_again : ByteArray := prog_1_method_35_code
def yX9_again : MethodName := ⟨RX9, "again", "(I)Z"⟩
abbrev cX9_count : ByteArray := prog_1_method_36_code
def yX9_count : MethodName := ⟨RX9, "count", "(I)I"⟩
abbrev cX9_row : ByteArray := prog_1_method_37_code
def yX9_row : MethodName := ⟨RX9, "row", "(I)J"⟩
abbrev cX9_isStation : ByteArray := prog_1_method_38_code
def yX9_isStation : MethodName := ⟨RX9, "isStation", "(I)Z"⟩
abbrev cX9_isRank : ByteArray := prog_1_method_39_code
def yX9_isRank : MethodName := ⟨RX9, "isRank", "(I)Z"⟩
abbrev cX9_readPairs : ByteArray := prog_1_method_40_code
def yX9_readPairs : MethodName := ⟨RX9, "readPairs", "(I)I"⟩
abbrev cX9_entryOf : ByteArray := prog_1_method_41_code
def yX9_entryOf : MethodName := ⟨RX9, "entryOf", "(II)I"⟩
abbrev cX9_comesFromEntry : ByteArray := prog_1_method_42_code
def yX9_comesFromEntry : MethodName := ⟨RX9, "comesFromEntry", "(III)Z"⟩
abbrev cX9_waysAlone : ByteArray := prog_1_method_43_code
def yX9_waysAlone : MethodName := ⟨RX9, "waysAlone", "(II)J"⟩
abbrev cX9_power : ByteArray := prog_1_method_44_code
def yX9_power : MethodName := ⟨RX9, "power", "(II)J"⟩
abbrev cX9_slotsTillDelivered : ByteArray := prog_1_method_45_code
def yX9_slotsTillDelivered : MethodName := ⟨RX9, "slotsTillDelivered", "(II)I"⟩
abbrev cX9_actLength : ByteArray := prog_1_method_46_code
def yX9_actLength : MethodName := ⟨RX9, "actLength", "(I)I"⟩
abbrev cX9_faultInDay : ByteArray := prog_1_method_47_code
def yX9_faultInDay : MethodName := ⟨RX9, "faultInDay", "()I"⟩
abbrev cX9_faultInAct : ByteArray := prog_1_method_48_code
def yX9_faultInAct : MethodName := ⟨RX9, "faultInAct", "(I)I"⟩
abbrev cX9_doAct : ByteArray := prog_1_method_49_code
def yX9_doAct : MethodName := ⟨RX9, "doAct", "(I)Z"⟩
abbrev cX9_offerDrawn : ByteArray := prog_1_method_50_code
def yX9_offerDrawn : MethodName := ⟨RX9, "offerDrawn", "()V"⟩
abbrev cX10_init : ByteArray := prog_12_method_1_code
def yX10_init : MethodName := ⟨RX10, "<init>", "()V"⟩
abbrev cX10_thrown : ByteArray := prog_12_method_2_code
def yX10_thrown : MethodName := ⟨RX10, "thrown", "()I"⟩
abbrev cX10_in : ByteArray := prog_12_method_3_code
def yX10_in : MethodName := ⟨RX10, "in", "(III)Z"⟩
abbrev cX10_has : ByteArray := prog_12_method_4_code
def yX10_has : MethodName := ⟨RX10, "has", "(II)Z"⟩
abbrev cX10_lost : ByteArray := prog_12_method_5_code
def yX10_lost : MethodName := ⟨RX10, "lost", "()I"⟩
abbrev cX10_tell : ByteArray := prog_12_method_6_code
def yX10_tell : MethodName := ⟨RX10, "tell", "(J)V"⟩
abbrev cX10_common : ByteArray := prog_12_method_7_code
def yX10_common : MethodName := ⟨RX10, "common", "(II)I"⟩
abbrev cX10_commonLong : ByteArray := prog_12_method_8_code
def yX10_commonLong : MethodName := ⟨RX10, "commonLong", "(JJ)J"⟩
abbrev cX10_isStation : ByteArray := prog_12_method_9_code
def yX10_isStation : MethodName := ⟨RX10, "isStation", "(I)Z"⟩
abbrev cX10_isRank : ByteArray := prog_12_method_10_code
def yX10_isRank : MethodName := ⟨RX10, "isRank", "(I)Z"⟩
abbrev cX10_quality : ByteArray := prog_12_method_11_code
def yX10_quality : MethodName := ⟨RX10, "quality", "(II)I"⟩
abbrev cX10_hears : ByteArray := prog_12_method_12_code
def yX10_hears : MethodName := ⟨RX10, "hears", "(II)Z"⟩
abbrev cX10_at : ByteArray := prog_12_method_13_code
def yX10_at : MethodName := ⟨RX10, "at", "(II)I"⟩
abbrev cX10_frameAt : ByteArray := prog_12_method_14_code
def yX10_frameAt : MethodName := ⟨RX10, "frameAt", "(III)I"⟩
abbrev cX10_exchangeAt : ByteArray := prog_12_method_15_code
def yX10_exchangeAt : MethodName := ⟨RX10, "exchangeAt", "(I)I"⟩
abbrev cX10_draw : ByteArray := prog_12_method_16_code
def yX10_draw : MethodName := ⟨RX10, "draw", "(I)I"⟩
abbrev cX10_sign : ByteArray := prog_12_method_17_code
def yX10_sign : MethodName := ⟨RX10, "sign", "(I)I"⟩
abbrev cX10_end : ByteArray := prog_12_method_18_code
def yX10_end : MethodName := ⟨RX10, "end", "(I)Z"⟩
abbrev cX10_begin : ByteArray := prog_12_method_19_code
def yX10_begin : MethodName := ⟨RX10, "begin", "()V"⟩
abbrev cX10_here : ByteArray := prog_12_method_20_code
def yX10_here : MethodName := ⟨RX10, "here", "()I"⟩
abbrev cX10_fine : ByteArray := prog_12_method_21_code
def yX10_fine : MethodName := ⟨RX10, "fine", "()Z"⟩
abbrev cX10_fault : ByteArray := prog_12_method_22_code
def yX10_fault : MethodName := ⟨RX10, "fault", "(I)V"⟩
abbrev cX10_oneOf : ByteArray := prog_12_method_23_code
def yX10_oneOf : MethodName := ⟨RX10, "oneOf", "(CI)I"⟩
abbrev cX10_twoDigits : ByteArray := prog_12_method_24_code
def yX10_twoDigits : MethodName := ⟨RX10, "twoDigits", "()I"⟩
abbrev cX10_wasRight : ByteArray := prog_12_method_25_code
def yX10_wasRight : MethodName := ⟨RX10, "wasRight", "()Z"⟩
abbrev cX10_readPair : ByteArray := prog_12_method_26_code
def yX10_readPair : MethodName := ⟨RX10, "readPair", "(I)I"⟩
abbrev cX10_net : ByteArray := prog_12_method_27_code
def yX10_net : MethodName := ⟨RX10, "net", "()I"⟩
abbrev cX10_highOf : ByteArray := prog_12_method_28_code
def yX10_highOf : MethodName := ⟨RX10, "highOf", "(I)I"⟩
abbrev cX10_sets : ByteArray := prog_12_method_29_code
def yX10_sets : MethodName := ⟨RX10, "sets", "(II)I"⟩
abbrev cX10_setting : ByteArray := prog_12_method_30_code
def yX10_setting : MethodName := ⟨RX10, "setting", "(I)I"⟩
abbrev cX10_goesOn : ByteArray := prog_12_method_31_code
def yX10_goesOn : MethodName := ⟨RX10, "goesOn", "()Z"⟩
abbrev cX10_sheet : ByteArray := prog_12_method_32_code
def yX10_sheet : MethodName := ⟨RX10, "sheet", "(IIIII)I"⟩
abbrev cX10_put : ByteArray := prog_12_method_33_code
def yX10_put : MethodName := ⟨RX10, "put", "(IIIII)V"⟩
abbrev cX10_leaves : ByteArray := prog_12_method_34_code
def yX10_leaves : MethodName := ⟨RX10, "leaves", "(III)V"⟩
abbrev cX10_refusesOffer : ByteArray := prog_12_method_35_code
def yX10_refusesOffer : MethodName := ⟨RX10, "refusesOffer", "(IIII)I"⟩
abbrev cX10_offers : ByteArray := prog_12_method_36_code
def yX10_offers : MethodName := ⟨RX10, "offers", "(IIII)I"⟩
abbrev cX10_isFree : ByteArray := prog_12_method_37_code
def yX10_isFree : MethodName := ⟨RX10, "isFree", "(I)Z"⟩
abbrev cX10_isReady : ByteArray := prog_12_method_38_code
def yX10_isReady : MethodName := ⟨RX10, "isReady", "(II)Z"⟩
abbrev cX10_had : ByteArray := prog_12_method_39_code
def yX10_had : MethodName := ⟨RX10, "had", "(III)V"⟩
abbrev cX10_drawsCount : ByteArray := prog_12_method_40_code
def yX10_drawsCount : MethodName := ⟨RX10, "drawsCount", "(II)V"⟩
abbrev cX10_isLost : ByteArray := prog_12_method_41_code
def yX10_isLost : MethodName := ⟨RX10, "isLost", "(III)V"⟩
abbrev cX10_fails : ByteArray := prog_12_method_42_code
def yX10_fails : MethodName := ⟨RX10, "fails", "(II)V"⟩
abbrev cX10_roundedUp : ByteArray := prog_12_method_43_code
def yX10_roundedUp : MethodName := ⟨RX10, "roundedUp", "(II)I"⟩
abbrev cX10_begins : ByteArray := prog_12_method_44_code
def yX10_begins : MethodName := ⟨RX10, "begins", "(II)V"⟩
abbrev cX10_stepBegin : ByteArray := prog_12_method_45_code
def yX10_stepBegin : MethodName := ⟨RX10, "stepBegin", "()V"⟩
abbrev cX10_stepSend : ByteArray := prog_12_method_46_code
def yX10_stepSend : MethodName := ⟨RX10, "stepSend", "()V"⟩
abbrev cX10_hearsOthers : ByteArray := prog_12_method_47_code
def yX10_hearsOthers : MethodName := ⟨RX10, "hearsOthers", "(II)Z"⟩
abbrev cX10_isClear : ByteArray := prog_12_method_48_code
def yX10_isClear : MethodName := ⟨RX10, "isClear", "(II)Z"⟩
abbrev cX10_spans : ByteArray := prog_12_method_49_code
def yX10_spans : MethodName := ⟨RX10, "spans", "(IIII)V"⟩
abbrev cX10_owes : ByteArray := prog_12_method_50_code
def yX10_owes : MethodName := ⟨RX10, "owes", "(III)V"⟩
abbrev cX10_sendsIt : ByteArray := prog_12_method_51_code
def yX10_sendsIt : MethodName := ⟨RX10, "sendsIt", "(III)Z"⟩
abbrev cX10_failsBy : ByteArray := prog_12_method_52_code
def yX10_failsBy : MethodName := ⟨RX10, "failsBy", "(IZ)V"⟩
abbrev cX10_stepData : ByteArray := prog_12_method_53_code
def yX10_stepData : MethodName := ⟨RX10, "stepData", "(I)V"⟩
abbrev cX10_delivers : ByteArray := prog_12_method_54_code
def yX10_delivers : MethodName := ⟨RX10, "delivers", "(I)V"⟩
abbrev cX10_stepSender : ByteArray := prog_12_method_55_code
def yX10_stepSender : MethodName := ⟨RX10, "stepSender", "(I)V"⟩
abbrev cX10_stepEnd : ByteArray := prog_12_method_56_code
def yX10_stepEnd : MethodName := ⟨RX10, "stepEnd", "()V"⟩
abbrev cX10_stepHeld : ByteArray := prog_12_method_57_code
def yX10_stepHeld : MethodName := ⟨RX10, "stepHeld", "()V"⟩
abbrev cX10_slot : ByteArray := prog_12_method_58_code
def yX10_slot : MethodName := ⟨RX10, "slot", "()V"⟩
abbrev cX10_goSlots : ByteArray := prog_12_method_59_code
def yX10_goSlots : MethodName := ⟨RX10, "goSlots", "(I)V"⟩
abbrev cX10_slots : ByteArray := prog_12_method_60_code
def yX10_slots : MethodName := ⟨RX10, "slots", "(I)I"⟩
abbrev cX10_drawAll : ByteArray := prog_12_method_61_code
def yX10_drawAll : MethodName := ⟨RX10, "drawAll", "()I"⟩
abbrev cX10_draws : ByteArray := prog_12_method_62_code
def yX10_draws : MethodName := ⟨RX10, "draws", "()I"⟩
abbrev cX10_waiting : ByteArray := prog_12_method_63_code
def yX10_waiting : MethodName := ⟨RX10, "waiting", "(I)I"⟩
abbrev cX10_allWaiting : ByteArray := prog_12_method_64_code
def yX10_allWaiting : MethodName := ⟨RX10, "allWaiting", "()I"⟩
abbrev cX10_heardBy : ByteArray := prog_12_method_65_code
def yX10_heardBy : MethodName := ⟨RX10, "heardBy", "(I)I"⟩
abbrev cX10_station : ByteArray := prog_12_method_66_code
def yX10_station : MethodName := ⟨RX10, "station", "(II)I"⟩
abbrev cX10_rank : ByteArray := prog_12_method_67_code
def yX10_rank : MethodName := ⟨RX10, "rank", "(III)I"⟩
abbrev cX10_frame : ByteArray := prog_12_method_68_code
def yX10_frame : MethodName := ⟨RX10, "frame", "(IIII)I"⟩
abbrev cX10_exchange : ByteArray := prog_12_method_69_code
def yX10_exchange : MethodName := ⟨RX10, "exchange", "(II)I"⟩
abbrev cX10_placesOf : ByteArray := prog_12_method_70_code
def yX10_placesOf : MethodName := ⟨RX10, "placesOf", "(I)I"⟩
abbrev cX10_sent : ByteArray := prog_12_method_71_code
def yX10_sent : MethodName := ⟨RX10, "sent", "()I"⟩
abbrev cX10_spanOf : ByteArray := prog_12_method_72_code
def yX10_spanOf : MethodName := ⟨RX10, "spanOf", "(I)I"⟩
abbrev cX10_rate : ByteArray := prog_12_method_73_code
def yX10_rate : MethodName := ⟨RX10, "rate", "(II)I"⟩
abbrev cX10_hidden : ByteArray := prog_12_method_74_code
def yX10_hidden : MethodName := ⟨RX10, "hidden", "()I"⟩
abbrev cX10_tally : ByteArray := prog_12_method_75_code
def yX10_tally : MethodName := ⟨RX10, "tally", "(II)I"⟩
abbrev cX10_held : ByteArray := prog_12_method_76_code
def yX10_held : MethodName := ⟨RX10, "held", "(I)I"⟩
abbrev cX10_why : ByteArray := prog_12_method_77_code
def yX10_why : MethodName := ⟨RX10, "why", "(I)I"⟩
abbrev cX10_spoilt : ByteArray := prog_12_method_78_code
def yX10_spoilt : MethodName := ⟨RX10, "spoilt", "(II)I"⟩
abbrev cX10_even : ByteArray := prog_12_method_79_code
def yX10_even : MethodName := ⟨RX10, "even", "()I"⟩
abbrev cX10_busy : ByteArray := prog_12_method_80_code
def yX10_busy : MethodName := ⟨RX10, "busy", "()I"⟩
abbrev cX10_power : ByteArray := prog_12_method_81_code
def yX10_power : MethodName := ⟨RX10, "power", "(II)I"⟩
abbrev cX10_waysAlone : ByteArray := prog_12_method_82_code
def yX10_waysAlone : MethodName := ⟨RX10, "waysAlone", "(II)I"⟩
abbrev cX10_odds : ByteArray := prog_12_method_83_code
def yX10_odds : MethodName := ⟨RX10, "odds", "(II)I"⟩
abbrev cX10_window : ByteArray := prog_12_method_84_code
def yX10_window : MethodName := ⟨RX10, "window", "(II)I"⟩
abbrev cX10_layAside : ByteArray := prog_12_method_85_code
def yX10_layAside : MethodName := ⟨RX10, "layAside", "()V"⟩
abbrev cX10_comesBack : ByteArray := prog_12_method_86_code
def yX10_comesBack : MethodName := ⟨RX10, "comesBack", "()V"⟩
abbrev cX10_ahead : ByteArray := prog_12_method_87_code
def yX10_ahead : MethodName := ⟨RX10, "ahead", "(II)I"⟩
abbrev cX10_isQuiet : ByteArray := prog_12_method_88_code
def yX10_isQuiet : MethodName := ⟨RX10, "isQuiet", "()Z"⟩
abbrev cX10_quiet : ByteArray := prog_12_method_89_code
def yX10_quiet : MethodName := ⟨RX10, "quiet", "()I"⟩
abbrev cX10_next : ByteArray := prog_12_method_90_code
def yX10_next : MethodName := ⟨RX10, "next", "()I"⟩
abbrev cX10_takes : ByteArray := prog_12_method_91_code
def yX10_takes : MethodName := ⟨RX10, "takes", "(II)I"⟩
abbrev cX10_soonest : ByteArray := prog_12_method_92_code
def yX10_soonest : MethodName := ⟨RX10, "soonest", "(I)I"⟩
abbrev cX10_readAct : ByteArray := prog_12_method_93_code
def yX10_readAct : MethodName := ⟨RX10, "readAct", "(I)V"⟩
abbrev cX10_act : ByteArray := prog_12_method_94_code
def yX10_act : MethodName := ⟨RX10, "act", "(I)Z"⟩
abbrev cX10_day : ByteArray := prog_12_method_95_code
def yX10_day : MethodName := ⟨RX10, "day", "()I"⟩
abbrev cX10_change : ByteArray := prog_12_method_96_code
def yX10_change : MethodName := ⟨RX10, "change", "()V"⟩
abbrev cX10_note : ByteArray := prog_12_method_97_code
def yX10_note : MethodName := ⟨RX10, "note", "()V"⟩
abbrev cX10_undo : ByteArray := prog_12_method_98_code
def yX10_undo : MethodName := ⟨RX10, "undo", "()I"⟩
abbrev cX10_drawBeside : ByteArray := prog_12_method_99_code
def yX10_drawBeside : MethodName := ⟨RX10, "drawBeside", "(I)I"⟩
abbrev cX10_years : ByteArray := prog_12_method_100_code
def yX10_years : MethodName := ⟨RX10, "years", "(II)I"⟩
abbrev cX10_keep : ByteArray := prog_12_method_101_code
def yX10_keep : MethodName := ⟨RX10, "keep", "(I)Z"⟩
abbrev cX10_again : ByteArray := prog_12_method_102_code
def yX10_again : MethodName := ⟨RX10, "again", "(I)Z"⟩
abbrev cX10_exchanges : ByteArray := prog_12_method_103_code
def yX10_exchanges : MethodName := ⟨RX10, "exchanges", "()I"⟩
abbrev cX10_count : ByteArray := prog_12_method_104_code
def yX10_count : MethodName := ⟨RX10, "count", "(I)I"⟩
abbrev cX10_row : ByteArray := prog_12_method_105_code
def yX10_row : MethodName := ⟨RX10, "row", "(I)J"⟩
abbrev cJ6_bitCount_0f7a4 : ByteArray := prog_15_method_49_code
def yJ6_bitCount_0f7a4 : MethodName := ⟨RJ6, "bitCount", "(I)I"⟩
abbrev cL_setting : ByteArray := method_3_code
def yL_setting : MethodName := ⟨RL, "setting", "(LSharedAir;I[J)I"⟩
abbrev cL_station : ByteArray := method_4_code
def yL_station : MethodName := ⟨RL, "station", "(LSharedAir;II[J)I"⟩
abbrev cL_rank : ByteArray := method_5_code
def yL_rank : MethodName := ⟨RL, "rank", "(LSharedAir;III[J)I"⟩
abbrev cL_frame : ByteArray := method_6_code
def yL_frame : MethodName := ⟨RL, "frame", "(LSharedAir;IIII[J)I"⟩
abbrev cL_tally : ByteArray := method_7_code
def yL_tally : MethodName := ⟨RL, "tally", "(LSharedAir;II[J)I"⟩
abbrev cL_row : ByteArray := method_8_code
def yL_row : MethodName := ⟨RL, "row", "(LSharedAir;I[J)I"⟩
abbrev cL_law : ByteArray := code
def yL_law : MethodName := ⟨RL, "law", "([I)Z"⟩
abbrev vwCl : List vw_C := [(RX0, TX0, 13), (RX1, TX1, 1), (RX2, TX2, 13), (RX3, TX3, 9), (RX4, TX4, 2), (RX5, TX5, 3), (RX6, TX6, 4), (RX7, TX7, 2), (RX8, TX8, 13), (RX9, TX9, 9), (RX10, TX10, 21)]
def mBig : List Cond := lw_tbl.filter goodWord
theorem mB {w : Cond} (h : w ∈ lw_tbl) (g : goodWord w = true) : w ∈ mBig := List.mem_filter.mpr ⟨h, g⟩
theorem mt1 {w : Cond} (h : w ∈ tables_1_1) : w ∈ lw_tbl := List.mem_append_right _ (by unfold tables_1; exact List.mem_append_left _ h)
theorem mt2 {w : Cond} (h : w ∈ tables_1_2) : w ∈ lw_tbl := List.mem_append_right _ (by unfold tables_1; exact List.mem_append_right _ (List.mem_append_left _ h))
theorem mt3 {w : Cond} (h : w ∈ tables_1_3) : w ∈ lw_tbl := List.mem_append_right _ (by unfold tables_1; exact List.mem_append_right _ (List.mem_append_right _ (List.mem_append_left _ h)))
theorem mt4 {w : Cond} (h : w ∈ tables_1_4) : w ∈ lw_tbl := List.mem_append_right _ (by unfold tables_1; exact List.mem_append_right _ (List.mem_append_right _ (List.mem_append_right _ (List.mem_append_left _ h))))
theorem mt5 {w : Cond} (h : w ∈ tables_1_5) : w ∈ lw_tbl := List.mem_append_right _ (by unfold tables_1; exact List.mem_append_right _ (List.mem_append_right _ (List.mem_append_right _ (List.mem_append_right _ (List.mem_append_left _ h)))))
theorem mt6 {w : Cond} (h : w ∈ tables_1_6) : w ∈ lw_tbl := List.mem_append_right _ (by unfold tables_1; exact List.mem_append_right _ (List.mem_append_right _ (List.mem_append_right _ (List.mem_append_right _ (List.mem_append_right _ (List.mem_append_left _ h))))))
theorem mt7 {w : Cond} (h : w ∈ tables_1_7) : w ∈ lw_tbl := List.mem_append_right _ (by unfold tables_1; exact List.mem_append_right _ (List.mem_append_right _ (List.mem_append_right _ (List.mem_append_right _ (List.mem_append_right _ (List.mem_append_right _ (h)))))))
end
section
/-! The links of the mini-code, held against the tables (by program) -/
def cn (k : Nat) : String := match k with
  | 0 => RX0
  | 1 => RX1
  | 2 => RX2
  | 3 => RX3
  | 4 => RX4
  | 5 => RX5
  | 6 => RX6
  | 7 => RX7
  | 8 => RX8
  | 9 => RX9
  | 10 => RX10
  | 11 => RL
  | _ => RJ6
def fT (k : Nat) : u_T := match k with
  | 0 => TX0
  | 1 => TX1
  | 2 => TX2
  | 3 => TX3
  | 4 => TX4
  | 5 => TX5
  | 6 => TX6
  | 7 => TX7
  | 8 => TX8
  | 9 => TX9
  | _ => TX10
def fY (k : Nat) : Nat → FieldType := match k with
  | 0 => tyX0
  | 1 => tyX1
  | 2 => tyX2
  | 3 => tyX3
  | 4 => tyX4
  | 5 => tyX5
  | 6 => tyX6
  | 7 => tyX7
  | 8 => tyX8
  | 9 => tyX9
  | _ => tyX10
def fN (k : Nat) : Nat := match k with
  | 0 => 13
  | 1 => 1
  | 2 => 13
  | 3 => 9
  | 4 => 2
  | 5 => 3
  | 6 => 4
  | 7 => 2
  | 8 => 13
  | 9 => 9
  | _ => 21
theorem fCl : ∀ k, k < 11 → vwCl[k]? = some (cn k, fT k, fN k)
  | 0, _ => rfl
  | 1, _ => rfl
  | 2, _ => rfl
  | 3, _ => rfl
  | 4, _ => rfl
  | 5, _ => rfl
  | 6, _ => rfl
  | 7, _ => rfl
  | 8, _ => rfl
  | 9, _ => rfl
  | 10, _ => rfl
  | n + 11, h => by omega
theorem fTy : ∀ k, k < 11 → ∀ f, f < fN k → parseFieldDescriptor (fT k f).2.2.1 = some (fY k f)
  | 0, _ => tyX0_ok
  | 1, _ => tyX1_ok
  | 2, _ => tyX2_ok
  | 3, _ => tyX3_ok
  | 4, _ => tyX4_ok
  | 5, _ => tyX5_ok
  | 6, _ => tyX6_ok
  | 7, _ => tyX7_ok
  | 8, _ => tyX8_ok
  | 9, _ => tyX9_ok
  | 10, _ => tyX10_ok
  | n + 11, h => by omega
theorem fNm : ∀ k, k < 11 → ∀ a, a < fN k → ∀ b, b < fN k → a ≠ b → (fT k a).2.1 ≠ (fT k b).2.1
  | 0, _ => nmX0
  | 1, _ => nmX1
  | 2, _ => nmX2
  | 3, _ => nmX3
  | 4, _ => nmX4
  | 5, _ => nmX5
  | 6, _ => nmX6
  | 7, _ => nmX7
  | 8, _ => nmX8
  | 9, _ => nmX9
  | 10, _ => nmX10
  | n + 11, h => by omega
theorem fL0 : ∀ w ∈ u_ws RX0 TX0 13, w ∈ mBig := by
  rw [show u_ws RX0 TX0 13 = [u_lay RX0 TX0 0, u_lay RX0 TX0 1, u_lay RX0 TX0 2, u_lay RX0 TX0 3, u_lay RX0 TX0 4, u_lay RX0 TX0 5, u_lay RX0 TX0 6, u_lay RX0 TX0 7, u_lay RX0 TX0 8, u_lay RX0 TX0 9, u_lay RX0 TX0 10, u_lay RX0 TX0 11, u_lay RX0 TX0 12] from rfl]
  exact List.forall_mem_cons.mpr ⟨mB (mt2 (List.mem_of_getElem? (i := 58) (by decide +kernel))) rfl, List.forall_mem_cons.mpr ⟨mB (mt2 (List.mem_of_getElem? (i := 60) (by decide +kernel))) rfl, List.forall_mem_cons.mpr ⟨mB (mt2 (List.mem_of_getElem? (i := 62) (by decide +kernel))) rfl, List.forall_mem_cons.mpr ⟨mB (mt2 (List.mem_of_getElem? (i := 64) (by decide +kernel))) rfl, List.forall_mem_cons.mpr ⟨mB (mt2 (List.mem_of_getElem? (i := 66) (by decide +kernel))) rfl, List.forall_mem_cons.mpr ⟨mB (mt2 (List.mem_of_getElem? (i := 68) (by decide +kernel))) rfl, List.forall_mem_cons.mpr ⟨mB (mt2 (List.mem_of_getElem? (i := 70) (by decide +kernel))) rfl, List.forall_mem_cons.mpr ⟨mB (mt2 (List.mem_of_getElem? (i := 72) (by decide +kernel))) rfl, List.forall_mem_cons.mpr ⟨mB (mt2 (List.mem_of_getElem? (i := 74) (by decide +kernel))) rfl, List.forall_mem_cons.mpr ⟨mB (mt2 (List.mem_of_getElem? (i := 76) (by decide +kernel))) rfl, List.forall_mem_cons.mpr ⟨mB (mt2 (List.mem_of_getElem? (i := 78) (by decide +kernel))) rfl, List.forall_mem_cons.mpr ⟨mB (mt2 (List.mem_of_getElem? (i := 80) (by decide +kernel))) rfl, List.forall_mem_cons.mpr ⟨mB (mt2 (List.mem_of_getElem? (i := 82) (by decide +kernel))) rfl, fun _ h => absurd h List.not_mem_nil⟩⟩⟩⟩⟩⟩⟩⟩⟩⟩⟩⟩⟩
theorem fL1 : ∀ w ∈ u_ws RX1 TX1 1, w ∈ mBig := by
  rw [show u_ws RX1 TX1 1 = [u_lay RX1 TX1 0] from rfl]
  exact List.forall_mem_cons.mpr ⟨mB (mt1 (List.mem_of_getElem? (i := 42) (by decide +kernel))) rfl, fun _ h => absurd h List.not_mem_nil⟩
theorem fL2 : ∀ w ∈ u_ws RX2 TX2 13, w ∈ mBig := by
  rw [show u_ws RX2 TX2 13 = [u_lay RX2 TX2 0, u_lay RX2 TX2 1, u_lay RX2 TX2 2, u_lay RX2 TX2 3, u_lay RX2 TX2 4, u_lay RX2 TX2 5, u_lay RX2 TX2 6, u_lay RX2 TX2 7, u_lay RX2 TX2 8, u_lay RX2 TX2 9, u_lay RX2 TX2 10, u_lay RX2 TX2 11, u_lay RX2 TX2 12] from rfl]
  exact List.forall_mem_cons.mpr ⟨mB (mt1 (List.mem_of_getElem? (i := 101) (by decide +kernel))) rfl, List.forall_mem_cons.mpr ⟨mB (mt1 (List.mem_of_getElem? (i := 103) (by decide +kernel))) rfl, List.forall_mem_cons.mpr ⟨mB (mt1 (List.mem_of_getElem? (i := 105) (by decide +kernel))) rfl, List.forall_mem_cons.mpr ⟨mB (mt1 (List.mem_of_getElem? (i := 107) (by decide +kernel))) rfl, List.forall_mem_cons.mpr ⟨mB (mt1 (List.mem_of_getElem? (i := 109) (by decide +kernel))) rfl, List.forall_mem_cons.mpr ⟨mB (mt1 (List.mem_of_getElem? (i := 111) (by decide +kernel))) rfl, List.forall_mem_cons.mpr ⟨mB (mt1 (List.mem_of_getElem? (i := 113) (by decide +kernel))) rfl, List.forall_mem_cons.mpr ⟨mB (mt1 (List.mem_of_getElem? (i := 115) (by decide +kernel))) rfl, List.forall_mem_cons.mpr ⟨mB (mt1 (List.mem_of_getElem? (i := 117) (by decide +kernel))) rfl, List.forall_mem_cons.mpr ⟨mB (mt1 (List.mem_of_getElem? (i := 119) (by decide +kernel))) rfl, List.forall_mem_cons.mpr ⟨mB (mt1 (List.mem_of_getElem? (i := 121) (by decide +kernel))) rfl, List.forall_mem_cons.mpr ⟨mB (mt1 (List.mem_of_getElem? (i := 123) (by decide +kernel))) rfl, List.forall_mem_cons.mpr ⟨mB (mt1 (List.mem_of_getElem? (i := 125) (by decide +kernel))) rfl, fun _ h => absurd h List.not_mem_nil⟩⟩⟩⟩⟩⟩⟩⟩⟩⟩⟩⟩⟩
theorem fL3 : ∀ w ∈ u_ws RX3 TX3 9, w ∈ mBig := by
  rw [show u_ws RX3 TX3 9 = [u_lay RX3 TX3 0, u_lay RX3 TX3 1, u_lay RX3 TX3 2, u_lay RX3 TX3 3, u_lay RX3 TX3 4, u_lay RX3 TX3 5, u_lay RX3 TX3 6, u_lay RX3 TX3 7, u_lay RX3 TX3 8] from rfl]
  exact List.forall_mem_cons.mpr ⟨mB (mt1 (List.mem_of_getElem? (i := 161) (by decide +kernel))) rfl, List.forall_mem_cons.mpr ⟨mB (mt1 (List.mem_of_getElem? (i := 163) (by decide +kernel))) rfl, List.forall_mem_cons.mpr ⟨mB (mt1 (List.mem_of_getElem? (i := 165) (by decide +kernel))) rfl, List.forall_mem_cons.mpr ⟨mB (mt1 (List.mem_of_getElem? (i := 167) (by decide +kernel))) rfl, List.forall_mem_cons.mpr ⟨mB (mt1 (List.mem_of_getElem? (i := 169) (by decide +kernel))) rfl, List.forall_mem_cons.mpr ⟨mB (mt1 (List.mem_of_getElem? (i := 171) (by decide +kernel))) rfl, List.forall_mem_cons.mpr ⟨mB (mt1 (List.mem_of_getElem? (i := 173) (by decide +kernel))) rfl, List.forall_mem_cons.mpr ⟨mB (mt1 (List.mem_of_getElem? (i := 175) (by decide +kernel))) rfl, List.forall_mem_cons.mpr ⟨mB (mt1 (List.mem_of_getElem? (i := 177) (by decide +kernel))) rfl, fun _ h => absurd h List.not_mem_nil⟩⟩⟩⟩⟩⟩⟩⟩⟩
theorem fL4 : ∀ w ∈ u_ws RX4 TX4 2, w ∈ mBig := by
  rw [show u_ws RX4 TX4 2 = [u_lay RX4 TX4 0, u_lay RX4 TX4 1] from rfl]
  exact List.forall_mem_cons.mpr ⟨mB (mt2 (List.mem_of_getElem? (i := 132) (by decide +kernel))) rfl, List.forall_mem_cons.mpr ⟨mB (mt2 (List.mem_of_getElem? (i := 134) (by decide +kernel))) rfl, fun _ h => absurd h List.not_mem_nil⟩⟩
theorem fL5 : ∀ w ∈ u_ws RX5 TX5 3, w ∈ mBig := by
  rw [show u_ws RX5 TX5 3 = [u_lay RX5 TX5 0, u_lay RX5 TX5 1, u_lay RX5 TX5 2] from rfl]
  exact List.forall_mem_cons.mpr ⟨mB (mt2 (List.mem_of_getElem? (i := 100) (by decide +kernel))) rfl, List.forall_mem_cons.mpr ⟨mB (mt2 (List.mem_of_getElem? (i := 102) (by decide +kernel))) rfl, List.forall_mem_cons.mpr ⟨mB (mt2 (List.mem_of_getElem? (i := 104) (by decide +kernel))) rfl, fun _ h => absurd h List.not_mem_nil⟩⟩⟩
theorem fL6 : ∀ w ∈ u_ws RX6 TX6 4, w ∈ mBig := by
  rw [show u_ws RX6 TX6 4 = [u_lay RX6 TX6 0, u_lay RX6 TX6 1, u_lay RX6 TX6 2, u_lay RX6 TX6 3] from rfl]
  exact List.forall_mem_cons.mpr ⟨mB (mt1 (List.mem_of_getElem? (i := 198) (by decide +kernel))) rfl, List.forall_mem_cons.mpr ⟨mB (mt1 (List.mem_of_getElem? (i := 200) (by decide +kernel))) rfl, List.forall_mem_cons.mpr ⟨mB (mt1 (List.mem_of_getElem? (i := 202) (by decide +kernel))) rfl, List.forall_mem_cons.mpr ⟨mB (mt1 (List.mem_of_getElem? (i := 204) (by decide +kernel))) rfl, fun _ h => absurd h List.not_mem_nil⟩⟩⟩⟩
theorem fL7 : ∀ w ∈ u_ws RX7 TX7 2, w ∈ mBig := by
  rw [show u_ws RX7 TX7 2 = [u_lay RX7 TX7 0, u_lay RX7 TX7 1] from rfl]
  exact List.forall_mem_cons.mpr ⟨mB (mt2 (List.mem_of_getElem? (i := 116) (by decide +kernel))) rfl, List.forall_mem_cons.mpr ⟨mB (mt2 (List.mem_of_getElem? (i := 118) (by decide +kernel))) rfl, fun _ h => absurd h List.not_mem_nil⟩⟩
theorem fL8 : ∀ w ∈ u_ws RX8 TX8 13, w ∈ mBig := by
  rw [show u_ws RX8 TX8 13 = [u_lay RX8 TX8 0, u_lay RX8 TX8 1, u_lay RX8 TX8 2, u_lay RX8 TX8 3, u_lay RX8 TX8 4, u_lay RX8 TX8 5, u_lay RX8 TX8 6, u_lay RX8 TX8 7, u_lay RX8 TX8 8, u_lay RX8 TX8 9, u_lay RX8 TX8 10, u_lay RX8 TX8 11, u_lay RX8 TX8 12] from rfl]
  exact List.forall_mem_cons.mpr ⟨mB (mt2 (List.mem_of_getElem? (i := 5) (by decide +kernel))) rfl, List.forall_mem_cons.mpr ⟨mB (mt2 (List.mem_of_getElem? (i := 7) (by decide +kernel))) rfl, List.forall_mem_cons.mpr ⟨mB (mt2 (List.mem_of_getElem? (i := 9) (by decide +kernel))) rfl, List.forall_mem_cons.mpr ⟨mB (mt2 (List.mem_of_getElem? (i := 11) (by decide +kernel))) rfl, List.forall_mem_cons.mpr ⟨mB (mt2 (List.mem_of_getElem? (i := 13) (by decide +kernel))) rfl, List.forall_mem_cons.mpr ⟨mB (mt2 (List.mem_of_getElem? (i := 15) (by decide +kernel))) rfl, List.forall_mem_cons.mpr ⟨mB (mt2 (List.mem_of_getElem? (i := 17) (by decide +kernel))) rfl, List.forall_mem_cons.mpr ⟨mB (mt2 (List.mem_of_getElem? (i := 19) (by decide +kernel))) rfl, List.forall_mem_cons.mpr ⟨mB (mt2 (List.mem_of_getElem? (i := 21) (by decide +kernel))) rfl, List.forall_mem_cons.mpr ⟨mB (mt2 (List.mem_of_getElem? (i := 23) (by decide +kernel))) rfl, List.forall_mem_cons.mpr ⟨mB (mt2 (List.mem_of_getElem? (i := 25) (by decide +kernel))) rfl, List.forall_mem_cons.mpr ⟨mB (mt2 (List.mem_of_getElem? (i := 27) (by decide +kernel))) rfl, List.forall_mem_cons.mpr ⟨mB (mt2 (List.mem_of_getElem? (i := 29) (by decide +kernel))) rfl, fun _ h => absurd h List.not_mem_nil⟩⟩⟩⟩⟩⟩⟩⟩⟩⟩⟩⟩⟩
theorem fL9 : ∀ w ∈ u_ws RX9 TX9 9, w ∈ mBig := by
  rw [show u_ws RX9 TX9 9 = [u_lay RX9 TX9 0, u_lay RX9 TX9 1, u_lay RX9 TX9 2, u_lay RX9 TX9 3, u_lay RX9 TX9 4, u_lay RX9 TX9 5, u_lay RX9 TX9 6, u_lay RX9 TX9 7, u_lay RX9 TX9 8] from rfl]
  exact List.forall_mem_cons.mpr ⟨mB (mt2 (List.mem_of_getElem? (i := 147) (by decide +kernel))) rfl, List.forall_mem_cons.mpr ⟨mB (mt2 (List.mem_of_getElem? (i := 149) (by decide +kernel))) rfl, List.forall_mem_cons.mpr ⟨mB (mt2 (List.mem_of_getElem? (i := 151) (by decide +kernel))) rfl, List.forall_mem_cons.mpr ⟨mB (mt2 (List.mem_of_getElem? (i := 153) (by decide +kernel))) rfl, List.forall_mem_cons.mpr ⟨mB (mt2 (List.mem_of_getElem? (i := 155) (by decide +kernel))) rfl, List.forall_mem_cons.mpr ⟨mB (mt2 (List.mem_of_getElem? (i := 157) (by decide +kernel))) rfl, List.forall_mem_cons.mpr ⟨mB (mt2 (List.mem_of_getElem? (i := 159) (by decide +kernel))) rfl, List.forall_mem_cons.mpr ⟨mB (mt2 (List.mem_of_getElem? (i := 161) (by decide +kernel))) rfl, List.forall_mem_cons.mpr ⟨mB (mt2 (List.mem_of_getElem? (i := 163) (by decide +kernel))) rfl, fun _ h => absurd h List.not_mem_nil⟩⟩⟩⟩⟩⟩⟩⟩⟩
theorem fL10 : ∀ w ∈ u_ws RX10 TX10 21, w ∈ mBig := by
  rw [show u_ws RX10 TX10 21 = [u_lay RX10 TX10 0, u_lay RX10 TX10 1, u_lay RX10 TX10 2, u_lay RX10 TX10 3, u_lay RX10 TX10 4, u_lay RX10 TX10 5, u_lay RX10 TX10 6, u_lay RX10 TX10 7, u_lay RX10 TX10 8, u_lay RX10 TX10 9, u_lay RX10 TX10 10, u_lay RX10 TX10 11, u_lay RX10 TX10 12, u_lay RX10 TX10 13, u_lay RX10 TX10 14, u_lay RX10 TX10 15, u_lay RX10 TX10 16, u_lay RX10 TX10 17, u_lay RX10 TX10 18, u_lay RX10 TX10 19, u_lay RX10 TX10 20] from rfl]
  exact List.forall_mem_cons.mpr ⟨mB (mt5 (List.mem_of_getElem? (i := 39) (by decide +kernel))) rfl, List.forall_mem_cons.mpr ⟨mB (mt5 (List.mem_of_getElem? (i := 41) (by decide +kernel))) rfl, List.forall_mem_cons.mpr ⟨mB (mt5 (List.mem_of_getElem? (i := 43) (by decide +kernel))) rfl, List.forall_mem_cons.mpr ⟨mB (mt5 (List.mem_of_getElem? (i := 45) (by decide +kernel))) rfl, List.forall_mem_cons.mpr ⟨mB (mt5 (List.mem_of_getElem? (i := 47) (by decide +kernel))) rfl, List.forall_mem_cons.mpr ⟨mB (mt5 (List.mem_of_getElem? (i := 49) (by decide +kernel))) rfl, List.forall_mem_cons.mpr ⟨mB (mt5 (List.mem_of_getElem? (i := 51) (by decide +kernel))) rfl, List.forall_mem_cons.mpr ⟨mB (mt5 (List.mem_of_getElem? (i := 53) (by decide +kernel))) rfl, List.forall_mem_cons.mpr ⟨mB (mt5 (List.mem_of_getElem? (i := 55) (by decide +kernel))) rfl, List.forall_mem_cons.mpr ⟨mB (mt5 (List.mem_of_getElem? (i := 57) (by decide +kernel))) rfl, List.forall_mem_cons.mpr ⟨mB (mt5 (List.mem_of_getElem? (i := 59) (by decide +kernel))) rfl, List.forall_mem_cons.mpr ⟨mB (mt5 (List.mem_of_getElem? (i := 61) (by decide +kernel))) rfl, List.forall_mem_cons.mpr ⟨mB (mt5 (List.mem_of_getElem? (i := 63) (by decide +kernel))) rfl, List.forall_mem_cons.mpr ⟨mB (mt5 (List.mem_of_getElem? (i := 65) (by decide +kernel))) rfl, List.forall_mem_cons.mpr ⟨mB (mt5 (List.mem_of_getElem? (i := 67) (by decide +kernel))) rfl, List.forall_mem_cons.mpr ⟨mB (mt5 (List.mem_of_getElem? (i := 69) (by decide +kernel))) rfl, List.forall_mem_cons.mpr ⟨mB (mt5 (List.mem_of_getElem? (i := 71) (by decide +kernel))) rfl, List.forall_mem_cons.mpr ⟨mB (mt5 (List.mem_of_getElem? (i := 73) (by decide +kernel))) rfl, List.forall_mem_cons.mpr ⟨mB (mt5 (List.mem_of_getElem? (i := 75) (by decide +kernel))) rfl, List.forall_mem_cons.mpr ⟨mB (mt5 (List.mem_of_getElem? (i := 77) (by decide +kernel))) rfl, List.forall_mem_cons.mpr ⟨mB (mt5 (List.mem_of_getElem? (i := 79) (by decide +kernel))) rfl, fun _ h => absurd h List.not_mem_nil⟩⟩⟩⟩⟩⟩⟩⟩⟩⟩⟩⟩⟩⟩⟩⟩⟩⟩⟩⟩⟩
theorem fLay : ∀ k, k < 11 → ∀ w ∈ u_ws (cn k) (fT k) (fN k), w ∈ mBig
  | 0, _ => fL0
  | 1, _ => fL1
  | 2, _ => fL2
  | 3, _ => fL3
  | 4, _ => fL4
  | 5, _ => fL5
  | 6, _ => fL6
  | 7, _ => fL7
  | 8, _ => fL8
  | 9, _ => fL9
  | 10, _ => fL10
  | n + 11, h => by omega
def FLok (r : Nat × Nat × Nat × Nat) : Prop := (Cond.fieldLink (cn r.1) r.2.1 (cn r.2.2.1) (fT r.2.2.1 r.2.2.2).2.1 (fT r.2.2.1 r.2.2.2).2.2.1 ∈ mBig ∨ Cond.fieldLinkNest (cn r.1) r.2.1 (cn r.2.2.1) (fT r.2.2.1 r.2.2.2).2.1 (fT r.2.2.1 r.2.2.2).2.2.1 "SharedAir" ∈ tables_1) ∧ r.2.2.1 < 11 ∧ r.2.2.2 < fN r.2.2.1
theorem mu1 {w : Cond} (h : w ∈ tables_1_1) : w ∈ tables_1 := by unfold tables_1; exact List.mem_append_left _ h
theorem mu2 {w : Cond} (h : w ∈ tables_1_2) : w ∈ tables_1 := by unfold tables_1; exact List.mem_append_right _ (List.mem_append_left _ h)
theorem mu3 {w : Cond} (h : w ∈ tables_1_3) : w ∈ tables_1 := by unfold tables_1; exact List.mem_append_right _ (List.mem_append_right _ (List.mem_append_left _ h))
theorem mu4 {w : Cond} (h : w ∈ tables_1_4) : w ∈ tables_1 := by unfold tables_1; exact List.mem_append_right _ (List.mem_append_right _ (List.mem_append_right _ (List.mem_append_left _ h)))
theorem mu5 {w : Cond} (h : w ∈ tables_1_5) : w ∈ tables_1 := by unfold tables_1; exact List.mem_append_right _ (List.mem_append_right _ (List.mem_append_right _ (List.mem_append_right _ (List.mem_append_left _ h))))
theorem mu6 {w : Cond} (h : w ∈ tables_1_6) : w ∈ tables_1 := by unfold tables_1; exact List.mem_append_right _ (List.mem_append_right _ (List.mem_append_right _ (List.mem_append_right _ (List.mem_append_right _ (List.mem_append_left _ h)))))
theorem mu7 {w : Cond} (h : w ∈ tables_1_7) : w ∈ tables_1 := by unfold tables_1; exact List.mem_append_right _ (List.mem_append_right _ (List.mem_append_right _ (List.mem_append_right _ (List.mem_append_right _ (List.mem_append_right _ (h))))))
theorem fl_0 : FLok (0, 9, 0, 0) := ⟨Or.inl (mB (mt2 (List.mem_of_getElem? (i := 32) (by decide +kernel))) rfl), by decide, by decide⟩
theorem fl_1 : FLok (0, 18, 0, 1) := ⟨Or.inl (mB (mt2 (List.mem_of_getElem? (i := 34) (by decide +kernel))) rfl), by decide, by decide⟩
theorem fl_2 : FLok (0, 24, 0, 2) := ⟨Or.inl (mB (mt2 (List.mem_of_getElem? (i := 36) (by decide +kernel))) rfl), by decide, by decide⟩
theorem fl_3 : FLok (0, 37, 1, 0) := ⟨Or.inr (mu1 (List.mem_of_getElem? (i := 39) (by decide +kernel))), by decide, by decide⟩
theorem fl_4 : FLok (0, 42, 0, 3) := ⟨Or.inl (mB (mt2 (List.mem_of_getElem? (i := 38) (by decide +kernel))) rfl), by decide, by decide⟩
theorem fl_5 : FLok (0, 49, 0, 4) := ⟨Or.inl (mB (mt2 (List.mem_of_getElem? (i := 40) (by decide +kernel))) rfl), by decide, by decide⟩
theorem fl_6 : FLok (0, 52, 0, 5) := ⟨Or.inl (mB (mt2 (List.mem_of_getElem? (i := 42) (by decide +kernel))) rfl), by decide, by decide⟩
theorem fl_7 : FLok (0, 55, 0, 6) := ⟨Or.inl (mB (mt2 (List.mem_of_getElem? (i := 44) (by decide +kernel))) rfl), by decide, by decide⟩
theorem fl_8 : FLok (0, 58, 0, 7) := ⟨Or.inl (mB (mt2 (List.mem_of_getElem? (i := 46) (by decide +kernel))) rfl), by decide, by decide⟩
theorem fl_9 : FLok (0, 61, 0, 8) := ⟨Or.inl (mB (mt2 (List.mem_of_getElem? (i := 48) (by decide +kernel))) rfl), by decide, by decide⟩
theorem fl_10 : FLok (0, 64, 0, 9) := ⟨Or.inl (mB (mt2 (List.mem_of_getElem? (i := 50) (by decide +kernel))) rfl), by decide, by decide⟩
theorem fl_11 : FLok (0, 67, 0, 10) := ⟨Or.inl (mB (mt2 (List.mem_of_getElem? (i := 52) (by decide +kernel))) rfl), by decide, by decide⟩
theorem fl_12 : FLok (0, 70, 0, 11) := ⟨Or.inl (mB (mt2 (List.mem_of_getElem? (i := 54) (by decide +kernel))) rfl), by decide, by decide⟩
theorem fl_13 : FLok (0, 73, 0, 12) := ⟨Or.inl (mB (mt2 (List.mem_of_getElem? (i := 56) (by decide +kernel))) rfl), by decide, by decide⟩
theorem fl_14 : FLok (0, 81, 8, 6) := ⟨Or.inr (mu1 (List.mem_of_getElem? (i := 226) (by decide +kernel))), by decide, by decide⟩
theorem fl_15 : FLok (0, 84, 8, 3) := ⟨Or.inr (mu1 (List.mem_of_getElem? (i := 217) (by decide +kernel))), by decide, by decide⟩
theorem fl_16 : FLok (0, 87, 8, 4) := ⟨Or.inr (mu1 (List.mem_of_getElem? (i := 220) (by decide +kernel))), by decide, by decide⟩
theorem fl_17 : FLok (0, 90, 8, 5) := ⟨Or.inr (mu1 (List.mem_of_getElem? (i := 223) (by decide +kernel))), by decide, by decide⟩
theorem fl_18 : FLok (0, 93, 8, 0) := ⟨Or.inr (mu1 (List.mem_of_getElem? (i := 208) (by decide +kernel))), by decide, by decide⟩
theorem fl_19 : FLok (0, 97, 6, 1) := ⟨Or.inr (mu1 (List.mem_of_getElem? (i := 190) (by decide +kernel))), by decide, by decide⟩
theorem fl_20 : FLok (0, 102, 6, 3) := ⟨Or.inr (mu1 (List.mem_of_getElem? (i := 196) (by decide +kernel))), by decide, by decide⟩
theorem fl_21 : FLok (0, 105, 6, 2) := ⟨Or.inr (mu1 (List.mem_of_getElem? (i := 193) (by decide +kernel))), by decide, by decide⟩
theorem fl_22 : FLok (0, 108, 8, 7) := ⟨Or.inr (mu1 (List.mem_of_getElem? (i := 229) (by decide +kernel))), by decide, by decide⟩
theorem fl_23 : FLok (0, 111, 8, 8) := ⟨Or.inr (mu1 (List.mem_of_getElem? (i := 232) (by decide +kernel))), by decide, by decide⟩
theorem fl_24 : FLok (0, 114, 8, 9) := ⟨Or.inr (mu1 (List.mem_of_getElem? (i := 235) (by decide +kernel))), by decide, by decide⟩
theorem fl_25 : FLok (0, 117, 8, 10) := ⟨Or.inr (mu1 (List.mem_of_getElem? (i := 238) (by decide +kernel))), by decide, by decide⟩
theorem fl_26 : FLok (0, 120, 8, 1) := ⟨Or.inr (mu1 (List.mem_of_getElem? (i := 211) (by decide +kernel))), by decide, by decide⟩
theorem fl_27 : FLok (0, 124, 2, 0) := ⟨Or.inr (mu1 (List.mem_of_getElem? (i := 68) (by decide +kernel))), by decide, by decide⟩
theorem fl_28 : FLok (0, 133, 8, 2) := ⟨Or.inr (mu1 (List.mem_of_getElem? (i := 214) (by decide +kernel))), by decide, by decide⟩
theorem fl_29 : FLok (0, 142, 3, 0) := ⟨Or.inr (mu1 (List.mem_of_getElem? (i := 135) (by decide +kernel))), by decide, by decide⟩
theorem fl_30 : FLok (0, 161, 6, 0) := ⟨Or.inr (mu1 (List.mem_of_getElem? (i := 186) (by decide +kernel))), by decide, by decide⟩
theorem fl_31 : FLok (0, 188, 2, 1) := ⟨Or.inr (mu1 (List.mem_of_getElem? (i := 72) (by decide +kernel))), by decide, by decide⟩
theorem fl_32 : FLok (0, 191, 2, 5) := ⟨Or.inr (mu1 (List.mem_of_getElem? (i := 84) (by decide +kernel))), by decide, by decide⟩
theorem fl_33 : FLok (0, 223, 2, 2) := ⟨Or.inr (mu1 (List.mem_of_getElem? (i := 75) (by decide +kernel))), by decide, by decide⟩
theorem fl_34 : FLok (0, 229, 2, 3) := ⟨Or.inr (mu1 (List.mem_of_getElem? (i := 78) (by decide +kernel))), by decide, by decide⟩
theorem fl_35 : FLok (0, 231, 2, 4) := ⟨Or.inr (mu1 (List.mem_of_getElem? (i := 81) (by decide +kernel))), by decide, by decide⟩
theorem fl_36 : FLok (0, 238, 2, 6) := ⟨Or.inr (mu1 (List.mem_of_getElem? (i := 87) (by decide +kernel))), by decide, by decide⟩
theorem fl_37 : FLok (0, 241, 2, 8) := ⟨Or.inr (mu1 (List.mem_of_getElem? (i := 92) (by decide +kernel))), by decide, by decide⟩
theorem fl_38 : FLok (0, 244, 2, 7) := ⟨Or.inr (mu1 (List.mem_of_getElem? (i := 90) (by decide +kernel))), by decide, by decide⟩
theorem fl_39 : FLok (0, 247, 2, 9) := ⟨Or.inr (mu1 (List.mem_of_getElem? (i := 94) (by decide +kernel))), by decide, by decide⟩
theorem fl_40 : FLok (0, 250, 2, 10) := ⟨Or.inr (mu1 (List.mem_of_getElem? (i := 96) (by decide +kernel))), by decide, by decide⟩
theorem fl_41 : FLok (0, 253, 2, 11) := ⟨Or.inr (mu1 (List.mem_of_getElem? (i := 98) (by decide +kernel))), by decide, by decide⟩
theorem fl_42 : FLok (0, 256, 2, 12) := ⟨Or.inr (mu1 (List.mem_of_getElem? (i := 100) (by decide +kernel))), by decide, by decide⟩
theorem fl_43 : FLok (0, 267, 8, 12) := ⟨Or.inr (mu2 (List.mem_of_getElem? (i := 4) (by decide +kernel))), by decide, by decide⟩
theorem fl_44 : FLok (0, 278, 3, 6) := ⟨Or.inr (mu1 (List.mem_of_getElem? (i := 154) (by decide +kernel))), by decide, by decide⟩
theorem fl_45 : FLok (0, 281, 3, 7) := ⟨Or.inr (mu1 (List.mem_of_getElem? (i := 157) (by decide +kernel))), by decide, by decide⟩
theorem fl_46 : FLok (0, 284, 3, 8) := ⟨Or.inr (mu1 (List.mem_of_getElem? (i := 160) (by decide +kernel))), by decide, by decide⟩
theorem fl_47 : FLok (0, 304, 3, 2) := ⟨Or.inr (mu1 (List.mem_of_getElem? (i := 142) (by decide +kernel))), by decide, by decide⟩
theorem fl_48 : FLok (0, 315, 3, 1) := ⟨Or.inr (mu1 (List.mem_of_getElem? (i := 139) (by decide +kernel))), by decide, by decide⟩
theorem fl_49 : FLok (0, 333, 3, 3) := ⟨Or.inr (mu1 (List.mem_of_getElem? (i := 145) (by decide +kernel))), by decide, by decide⟩
theorem fl_50 : FLok (0, 334, 3, 4) := ⟨Or.inr (mu1 (List.mem_of_getElem? (i := 148) (by decide +kernel))), by decide, by decide⟩
theorem fl_51 : FLok (0, 337, 3, 5) := ⟨Or.inr (mu1 (List.mem_of_getElem? (i := 151) (by decide +kernel))), by decide, by decide⟩
theorem fl_52 : FLok (1, 7, 1, 0) := ⟨Or.inl (mB (mt1 (List.mem_of_getElem? (i := 40) (by decide +kernel))) rfl), by decide, by decide⟩
theorem fl_53 : FLok (2, 9, 2, 0) := ⟨Or.inl (mB (mt1 (List.mem_of_getElem? (i := 66) (by decide +kernel))) rfl), by decide, by decide⟩
theorem fl_54 : FLok (2, 15, 2, 1) := ⟨Or.inl (mB (mt1 (List.mem_of_getElem? (i := 70) (by decide +kernel))) rfl), by decide, by decide⟩
theorem fl_55 : FLok (2, 19, 2, 2) := ⟨Or.inl (mB (mt1 (List.mem_of_getElem? (i := 73) (by decide +kernel))) rfl), by decide, by decide⟩
theorem fl_56 : FLok (2, 22, 2, 3) := ⟨Or.inl (mB (mt1 (List.mem_of_getElem? (i := 76) (by decide +kernel))) rfl), by decide, by decide⟩
theorem fl_57 : FLok (2, 25, 2, 4) := ⟨Or.inl (mB (mt1 (List.mem_of_getElem? (i := 79) (by decide +kernel))) rfl), by decide, by decide⟩
theorem fl_58 : FLok (2, 28, 2, 5) := ⟨Or.inl (mB (mt1 (List.mem_of_getElem? (i := 82) (by decide +kernel))) rfl), by decide, by decide⟩
theorem fl_59 : FLok (2, 31, 2, 6) := ⟨Or.inl (mB (mt1 (List.mem_of_getElem? (i := 85) (by decide +kernel))) rfl), by decide, by decide⟩
theorem fl_60 : FLok (2, 34, 2, 7) := ⟨Or.inl (mB (mt1 (List.mem_of_getElem? (i := 88) (by decide +kernel))) rfl), by decide, by decide⟩
theorem fl_61 : FLok (2, 37, 2, 8) := ⟨Or.inl (mB (mt1 (List.mem_of_getElem? (i := 91) (by decide +kernel))) rfl), by decide, by decide⟩
theorem fl_62 : FLok (2, 40, 2, 9) := ⟨Or.inl (mB (mt1 (List.mem_of_getElem? (i := 93) (by decide +kernel))) rfl), by decide, by decide⟩
theorem fl_63 : FLok (2, 43, 2, 10) := ⟨Or.inl (mB (mt1 (List.mem_of_getElem? (i := 95) (by decide +kernel))) rfl), by decide, by decide⟩
theorem fl_64 : FLok (2, 46, 2, 11) := ⟨Or.inl (mB (mt1 (List.mem_of_getElem? (i := 97) (by decide +kernel))) rfl), by decide, by decide⟩
theorem fl_65 : FLok (2, 49, 2, 12) := ⟨Or.inl (mB (mt1 (List.mem_of_getElem? (i := 99) (by decide +kernel))) rfl), by decide, by decide⟩
theorem fl_66 : FLok (3, 9, 3, 0) := ⟨Or.inl (mB (mt1 (List.mem_of_getElem? (i := 134) (by decide +kernel))) rfl), by decide, by decide⟩
theorem fl_67 : FLok (3, 15, 3, 1) := ⟨Or.inl (mB (mt1 (List.mem_of_getElem? (i := 137) (by decide +kernel))) rfl), by decide, by decide⟩
theorem fl_68 : FLok (3, 24, 3, 2) := ⟨Or.inl (mB (mt1 (List.mem_of_getElem? (i := 140) (by decide +kernel))) rfl), by decide, by decide⟩
theorem fl_69 : FLok (3, 28, 3, 3) := ⟨Or.inl (mB (mt1 (List.mem_of_getElem? (i := 143) (by decide +kernel))) rfl), by decide, by decide⟩
theorem fl_70 : FLok (3, 31, 3, 4) := ⟨Or.inl (mB (mt1 (List.mem_of_getElem? (i := 146) (by decide +kernel))) rfl), by decide, by decide⟩
theorem fl_71 : FLok (3, 34, 3, 5) := ⟨Or.inl (mB (mt1 (List.mem_of_getElem? (i := 149) (by decide +kernel))) rfl), by decide, by decide⟩
theorem fl_72 : FLok (3, 37, 3, 6) := ⟨Or.inl (mB (mt1 (List.mem_of_getElem? (i := 152) (by decide +kernel))) rfl), by decide, by decide⟩
theorem fl_73 : FLok (3, 40, 3, 7) := ⟨Or.inl (mB (mt1 (List.mem_of_getElem? (i := 155) (by decide +kernel))) rfl), by decide, by decide⟩
theorem fl_74 : FLok (3, 43, 3, 8) := ⟨Or.inl (mB (mt1 (List.mem_of_getElem? (i := 158) (by decide +kernel))) rfl), by decide, by decide⟩
theorem fl_75 : FLok (4, 9, 4, 0) := ⟨Or.inl (mB (mt2 (List.mem_of_getElem? (i := 128) (by decide +kernel))) rfl), by decide, by decide⟩
theorem fl_76 : FLok (4, 15, 4, 1) := ⟨Or.inl (mB (mt2 (List.mem_of_getElem? (i := 130) (by decide +kernel))) rfl), by decide, by decide⟩
theorem fl_77 : FLok (5, 11, 5, 0) := ⟨Or.inl (mB (mt2 (List.mem_of_getElem? (i := 96) (by decide +kernel))) rfl), by decide, by decide⟩
theorem fl_78 : FLok (5, 18, 5, 2) := ⟨Or.inl (mB (mt2 (List.mem_of_getElem? (i := 99) (by decide +kernel))) rfl), by decide, by decide⟩
theorem fl_79 : FLok (5, 26, 5, 1) := ⟨Or.inl (mB (mt2 (List.mem_of_getElem? (i := 97) (by decide +kernel))) rfl), by decide, by decide⟩
theorem fl_80 : FLok (6, 9, 6, 0) := ⟨Or.inl (mB (mt1 (List.mem_of_getElem? (i := 185) (by decide +kernel))) rfl), by decide, by decide⟩
theorem fl_81 : FLok (6, 21, 6, 1) := ⟨Or.inl (mB (mt1 (List.mem_of_getElem? (i := 188) (by decide +kernel))) rfl), by decide, by decide⟩
theorem fl_82 : FLok (6, 25, 6, 2) := ⟨Or.inl (mB (mt1 (List.mem_of_getElem? (i := 192) (by decide +kernel))) rfl), by decide, by decide⟩
theorem fl_83 : FLok (6, 28, 6, 3) := ⟨Or.inl (mB (mt1 (List.mem_of_getElem? (i := 195) (by decide +kernel))) rfl), by decide, by decide⟩
theorem fl_84 : FLok (7, 9, 7, 0) := ⟨Or.inl (mB (mt2 (List.mem_of_getElem? (i := 113) (by decide +kernel))) rfl), by decide, by decide⟩
theorem fl_85 : FLok (7, 15, 7, 1) := ⟨Or.inl (mB (mt2 (List.mem_of_getElem? (i := 114) (by decide +kernel))) rfl), by decide, by decide⟩
theorem fl_86 : FLok (8, 11, 8, 0) := ⟨Or.inl (mB (mt1 (List.mem_of_getElem? (i := 207) (by decide +kernel))) rfl), by decide, by decide⟩
theorem fl_87 : FLok (8, 20, 8, 1) := ⟨Or.inl (mB (mt1 (List.mem_of_getElem? (i := 210) (by decide +kernel))) rfl), by decide, by decide⟩
theorem fl_88 : FLok (8, 27, 8, 2) := ⟨Or.inl (mB (mt1 (List.mem_of_getElem? (i := 213) (by decide +kernel))) rfl), by decide, by decide⟩
theorem fl_89 : FLok (8, 31, 8, 3) := ⟨Or.inl (mB (mt1 (List.mem_of_getElem? (i := 216) (by decide +kernel))) rfl), by decide, by decide⟩
theorem fl_90 : FLok (8, 35, 8, 4) := ⟨Or.inl (mB (mt1 (List.mem_of_getElem? (i := 219) (by decide +kernel))) rfl), by decide, by decide⟩
theorem fl_91 : FLok (8, 38, 8, 5) := ⟨Or.inl (mB (mt1 (List.mem_of_getElem? (i := 222) (by decide +kernel))) rfl), by decide, by decide⟩
theorem fl_92 : FLok (8, 41, 8, 11) := ⟨Or.inl (mB (mt2 (List.mem_of_getElem? (i := 0) (by decide +kernel))) rfl), by decide, by decide⟩
theorem fl_93 : FLok (8, 62, 8, 6) := ⟨Or.inl (mB (mt1 (List.mem_of_getElem? (i := 225) (by decide +kernel))) rfl), by decide, by decide⟩
theorem fl_94 : FLok (8, 65, 8, 7) := ⟨Or.inl (mB (mt1 (List.mem_of_getElem? (i := 228) (by decide +kernel))) rfl), by decide, by decide⟩
theorem fl_95 : FLok (8, 68, 8, 8) := ⟨Or.inl (mB (mt1 (List.mem_of_getElem? (i := 231) (by decide +kernel))) rfl), by decide, by decide⟩
theorem fl_96 : FLok (8, 71, 8, 9) := ⟨Or.inl (mB (mt1 (List.mem_of_getElem? (i := 234) (by decide +kernel))) rfl), by decide, by decide⟩
theorem fl_97 : FLok (8, 74, 8, 10) := ⟨Or.inl (mB (mt1 (List.mem_of_getElem? (i := 237) (by decide +kernel))) rfl), by decide, by decide⟩
theorem fl_98 : FLok (8, 77, 8, 12) := ⟨Or.inl (mB (mt2 (List.mem_of_getElem? (i := 2) (by decide +kernel))) rfl), by decide, by decide⟩
theorem fl_99 : FLok (8, 80, 2, 0) := ⟨Or.inr (mu1 (List.mem_of_getElem? (i := 67) (by decide +kernel))), by decide, by decide⟩
theorem fl_100 : FLok (8, 84, 6, 1) := ⟨Or.inr (mu1 (List.mem_of_getElem? (i := 189) (by decide +kernel))), by decide, by decide⟩
theorem fl_101 : FLok (9, 10, 9, 0) := ⟨Or.inl (mB (mt2 (List.mem_of_getElem? (i := 138) (by decide +kernel))) rfl), by decide, by decide⟩
theorem fl_102 : FLok (9, 16, 9, 1) := ⟨Or.inl (mB (mt2 (List.mem_of_getElem? (i := 139) (by decide +kernel))) rfl), by decide, by decide⟩
theorem fl_103 : FLok (9, 22, 9, 2) := ⟨Or.inl (mB (mt2 (List.mem_of_getElem? (i := 140) (by decide +kernel))) rfl), by decide, by decide⟩
theorem fl_104 : FLok (9, 29, 9, 3) := ⟨Or.inl (mB (mt2 (List.mem_of_getElem? (i := 141) (by decide +kernel))) rfl), by decide, by decide⟩
theorem fl_105 : FLok (9, 33, 9, 4) := ⟨Or.inl (mB (mt2 (List.mem_of_getElem? (i := 142) (by decide +kernel))) rfl), by decide, by decide⟩
theorem fl_106 : FLok (9, 37, 9, 5) := ⟨Or.inl (mB (mt2 (List.mem_of_getElem? (i := 143) (by decide +kernel))) rfl), by decide, by decide⟩
theorem fl_107 : FLok (9, 44, 9, 6) := ⟨Or.inl (mB (mt2 (List.mem_of_getElem? (i := 144) (by decide +kernel))) rfl), by decide, by decide⟩
theorem fl_108 : FLok (9, 51, 9, 7) := ⟨Or.inl (mB (mt2 (List.mem_of_getElem? (i := 145) (by decide +kernel))) rfl), by decide, by decide⟩
theorem fl_109 : FLok (9, 55, 9, 8) := ⟨Or.inl (mB (mt2 (List.mem_of_getElem? (i := 146) (by decide +kernel))) rfl), by decide, by decide⟩
theorem fl_110 : FLok (9, 63, 7, 1) := ⟨Or.inr (mu2 (List.mem_of_getElem? (i := 115) (by decide +kernel))), by decide, by decide⟩
theorem fl_111 : FLok (9, 86, 0, 1) := ⟨Or.inr (mu2 (List.mem_of_getElem? (i := 35) (by decide +kernel))), by decide, by decide⟩
theorem fl_112 : FLok (9, 89, 1, 0) := ⟨Or.inr (mu1 (List.mem_of_getElem? (i := 41) (by decide +kernel))), by decide, by decide⟩
theorem fl_113 : FLok (9, 95, 0, 0) := ⟨Or.inr (mu2 (List.mem_of_getElem? (i := 33) (by decide +kernel))), by decide, by decide⟩
theorem fl_114 : FLok (9, 112, 0, 3) := ⟨Or.inr (mu2 (List.mem_of_getElem? (i := 39) (by decide +kernel))), by decide, by decide⟩
theorem fl_115 : FLok (9, 146, 0, 2) := ⟨Or.inr (mu2 (List.mem_of_getElem? (i := 37) (by decide +kernel))), by decide, by decide⟩
theorem fl_116 : FLok (9, 150, 8, 7) := ⟨Or.inr (mu1 (List.mem_of_getElem? (i := 230) (by decide +kernel))), by decide, by decide⟩
theorem fl_117 : FLok (9, 155, 8, 8) := ⟨Or.inr (mu1 (List.mem_of_getElem? (i := 233) (by decide +kernel))), by decide, by decide⟩
theorem fl_118 : FLok (9, 162, 8, 11) := ⟨Or.inr (mu2 (List.mem_of_getElem? (i := 1) (by decide +kernel))), by decide, by decide⟩
theorem fl_119 : FLok (9, 165, 8, 12) := ⟨Or.inr (mu2 (List.mem_of_getElem? (i := 3) (by decide +kernel))), by decide, by decide⟩
theorem fl_120 : FLok (9, 168, 8, 6) := ⟨Or.inr (mu1 (List.mem_of_getElem? (i := 227) (by decide +kernel))), by decide, by decide⟩
theorem fl_121 : FLok (9, 174, 8, 0) := ⟨Or.inr (mu1 (List.mem_of_getElem? (i := 209) (by decide +kernel))), by decide, by decide⟩
theorem fl_122 : FLok (9, 178, 6, 1) := ⟨Or.inr (mu1 (List.mem_of_getElem? (i := 191) (by decide +kernel))), by decide, by decide⟩
theorem fl_123 : FLok (9, 183, 6, 3) := ⟨Or.inr (mu1 (List.mem_of_getElem? (i := 197) (by decide +kernel))), by decide, by decide⟩
theorem fl_124 : FLok (9, 186, 6, 2) := ⟨Or.inr (mu1 (List.mem_of_getElem? (i := 194) (by decide +kernel))), by decide, by decide⟩
theorem fl_125 : FLok (9, 193, 6, 0) := ⟨Or.inr (mu1 (List.mem_of_getElem? (i := 187) (by decide +kernel))), by decide, by decide⟩
theorem fl_126 : FLok (9, 196, 8, 1) := ⟨Or.inr (mu1 (List.mem_of_getElem? (i := 212) (by decide +kernel))), by decide, by decide⟩
theorem fl_127 : FLok (9, 200, 2, 0) := ⟨Or.inr (mu1 (List.mem_of_getElem? (i := 69) (by decide +kernel))), by decide, by decide⟩
theorem fl_128 : FLok (9, 206, 2, 1) := ⟨Or.inr (mu1 (List.mem_of_getElem? (i := 71) (by decide +kernel))), by decide, by decide⟩
theorem fl_129 : FLok (9, 209, 2, 2) := ⟨Or.inr (mu1 (List.mem_of_getElem? (i := 74) (by decide +kernel))), by decide, by decide⟩
theorem fl_130 : FLok (9, 212, 2, 3) := ⟨Or.inr (mu1 (List.mem_of_getElem? (i := 77) (by decide +kernel))), by decide, by decide⟩
theorem fl_131 : FLok (9, 214, 2, 4) := ⟨Or.inr (mu1 (List.mem_of_getElem? (i := 80) (by decide +kernel))), by decide, by decide⟩
theorem fl_132 : FLok (9, 217, 2, 5) := ⟨Or.inr (mu1 (List.mem_of_getElem? (i := 83) (by decide +kernel))), by decide, by decide⟩
theorem fl_133 : FLok (9, 220, 2, 6) := ⟨Or.inr (mu1 (List.mem_of_getElem? (i := 86) (by decide +kernel))), by decide, by decide⟩
theorem fl_134 : FLok (9, 223, 2, 7) := ⟨Or.inr (mu1 (List.mem_of_getElem? (i := 89) (by decide +kernel))), by decide, by decide⟩
theorem fl_135 : FLok (9, 226, 0, 4) := ⟨Or.inr (mu2 (List.mem_of_getElem? (i := 41) (by decide +kernel))), by decide, by decide⟩
theorem fl_136 : FLok (9, 229, 0, 6) := ⟨Or.inr (mu2 (List.mem_of_getElem? (i := 45) (by decide +kernel))), by decide, by decide⟩
theorem fl_137 : FLok (9, 232, 0, 7) := ⟨Or.inr (mu2 (List.mem_of_getElem? (i := 47) (by decide +kernel))), by decide, by decide⟩
theorem fl_138 : FLok (9, 239, 0, 5) := ⟨Or.inr (mu2 (List.mem_of_getElem? (i := 43) (by decide +kernel))), by decide, by decide⟩
theorem fl_139 : FLok (9, 242, 8, 10) := ⟨Or.inr (mu1 (List.mem_of_getElem? (i := 239) (by decide +kernel))), by decide, by decide⟩
theorem fl_140 : FLok (9, 245, 8, 9) := ⟨Or.inr (mu1 (List.mem_of_getElem? (i := 236) (by decide +kernel))), by decide, by decide⟩
theorem fl_141 : FLok (9, 251, 8, 5) := ⟨Or.inr (mu1 (List.mem_of_getElem? (i := 224) (by decide +kernel))), by decide, by decide⟩
theorem fl_142 : FLok (9, 254, 8, 3) := ⟨Or.inr (mu1 (List.mem_of_getElem? (i := 218) (by decide +kernel))), by decide, by decide⟩
theorem fl_143 : FLok (9, 257, 8, 4) := ⟨Or.inr (mu1 (List.mem_of_getElem? (i := 221) (by decide +kernel))), by decide, by decide⟩
theorem fl_144 : FLok (9, 269, 4, 1) := ⟨Or.inr (mu2 (List.mem_of_getElem? (i := 131) (by decide +kernel))), by decide, by decide⟩
theorem fl_145 : FLok (9, 270, 8, 2) := ⟨Or.inr (mu1 (List.mem_of_getElem? (i := 215) (by decide +kernel))), by decide, by decide⟩
theorem fl_146 : FLok (9, 274, 3, 0) := ⟨Or.inr (mu1 (List.mem_of_getElem? (i := 136) (by decide +kernel))), by decide, by decide⟩
theorem fl_147 : FLok (9, 279, 3, 3) := ⟨Or.inr (mu1 (List.mem_of_getElem? (i := 144) (by decide +kernel))), by decide, by decide⟩
theorem fl_148 : FLok (9, 282, 3, 4) := ⟨Or.inr (mu1 (List.mem_of_getElem? (i := 147) (by decide +kernel))), by decide, by decide⟩
theorem fl_149 : FLok (9, 285, 3, 5) := ⟨Or.inr (mu1 (List.mem_of_getElem? (i := 150) (by decide +kernel))), by decide, by decide⟩
theorem fl_150 : FLok (9, 288, 3, 2) := ⟨Or.inr (mu1 (List.mem_of_getElem? (i := 141) (by decide +kernel))), by decide, by decide⟩
theorem fl_151 : FLok (9, 294, 3, 1) := ⟨Or.inr (mu1 (List.mem_of_getElem? (i := 138) (by decide +kernel))), by decide, by decide⟩
theorem fl_152 : FLok (9, 297, 3, 6) := ⟨Or.inr (mu1 (List.mem_of_getElem? (i := 153) (by decide +kernel))), by decide, by decide⟩
theorem fl_153 : FLok (9, 300, 3, 7) := ⟨Or.inr (mu1 (List.mem_of_getElem? (i := 156) (by decide +kernel))), by decide, by decide⟩
theorem fl_154 : FLok (9, 303, 3, 8) := ⟨Or.inr (mu1 (List.mem_of_getElem? (i := 159) (by decide +kernel))), by decide, by decide⟩
theorem fl_155 : FLok (9, 309, 0, 10) := ⟨Or.inr (mu2 (List.mem_of_getElem? (i := 53) (by decide +kernel))), by decide, by decide⟩
theorem fl_156 : FLok (9, 312, 0, 11) := ⟨Or.inr (mu2 (List.mem_of_getElem? (i := 55) (by decide +kernel))), by decide, by decide⟩
theorem fl_157 : FLok (9, 315, 0, 9) := ⟨Or.inr (mu2 (List.mem_of_getElem? (i := 51) (by decide +kernel))), by decide, by decide⟩
theorem fl_158 : FLok (9, 331, 0, 8) := ⟨Or.inr (mu2 (List.mem_of_getElem? (i := 49) (by decide +kernel))), by decide, by decide⟩
theorem fl_159 : FLok (9, 350, 5, 1) := ⟨Or.inr (mu2 (List.mem_of_getElem? (i := 98) (by decide +kernel))), by decide, by decide⟩
theorem fl_160 : FLok (9, 357, 4, 0) := ⟨Or.inr (mu2 (List.mem_of_getElem? (i := 129) (by decide +kernel))), by decide, by decide⟩
theorem fl_161 : FLok (9, 368, 0, 12) := ⟨Or.inr (mu2 (List.mem_of_getElem? (i := 57) (by decide +kernel))), by decide, by decide⟩
theorem fl_162 : FLok (10, 9, 10, 0) := ⟨Or.inl (mB (mt5 (List.mem_of_getElem? (i := 18) (by decide +kernel))) rfl), by decide, by decide⟩
theorem fl_163 : FLok (10, 13, 10, 1) := ⟨Or.inl (mB (mt5 (List.mem_of_getElem? (i := 19) (by decide +kernel))) rfl), by decide, by decide⟩
theorem fl_164 : FLok (10, 17, 10, 3) := ⟨Or.inl (mB (mt5 (List.mem_of_getElem? (i := 21) (by decide +kernel))) rfl), by decide, by decide⟩
theorem fl_165 : FLok (10, 21, 10, 9) := ⟨Or.inl (mB (mt5 (List.mem_of_getElem? (i := 27) (by decide +kernel))) rfl), by decide, by decide⟩
theorem fl_166 : FLok (10, 24, 10, 10) := ⟨Or.inl (mB (mt5 (List.mem_of_getElem? (i := 28) (by decide +kernel))) rfl), by decide, by decide⟩
theorem fl_167 : FLok (10, 27, 10, 11) := ⟨Or.inl (mB (mt5 (List.mem_of_getElem? (i := 29) (by decide +kernel))) rfl), by decide, by decide⟩
theorem fl_168 : FLok (10, 30, 10, 13) := ⟨Or.inl (mB (mt5 (List.mem_of_getElem? (i := 31) (by decide +kernel))) rfl), by decide, by decide⟩
theorem fl_169 : FLok (10, 33, 10, 14) := ⟨Or.inl (mB (mt5 (List.mem_of_getElem? (i := 32) (by decide +kernel))) rfl), by decide, by decide⟩
theorem fl_170 : FLok (10, 36, 10, 15) := ⟨Or.inl (mB (mt5 (List.mem_of_getElem? (i := 33) (by decide +kernel))) rfl), by decide, by decide⟩
theorem fl_171 : FLok (10, 39, 10, 16) := ⟨Or.inl (mB (mt5 (List.mem_of_getElem? (i := 34) (by decide +kernel))) rfl), by decide, by decide⟩
theorem fl_172 : FLok (10, 42, 10, 19) := ⟨Or.inl (mB (mt5 (List.mem_of_getElem? (i := 37) (by decide +kernel))) rfl), by decide, by decide⟩
theorem fl_173 : FLok (10, 45, 10, 20) := ⟨Or.inl (mB (mt5 (List.mem_of_getElem? (i := 38) (by decide +kernel))) rfl), by decide, by decide⟩
theorem fl_174 : FLok (10, 52, 10, 5) := ⟨Or.inl (mB (mt5 (List.mem_of_getElem? (i := 23) (by decide +kernel))) rfl), by decide, by decide⟩
theorem fl_175 : FLok (10, 56, 10, 4) := ⟨Or.inl (mB (mt5 (List.mem_of_getElem? (i := 22) (by decide +kernel))) rfl), by decide, by decide⟩
theorem fl_176 : FLok (10, 71, 10, 2) := ⟨Or.inl (mB (mt5 (List.mem_of_getElem? (i := 20) (by decide +kernel))) rfl), by decide, by decide⟩
theorem fl_177 : FLok (10, 74, 10, 6) := ⟨Or.inl (mB (mt5 (List.mem_of_getElem? (i := 24) (by decide +kernel))) rfl), by decide, by decide⟩
theorem fl_178 : FLok (10, 77, 10, 7) := ⟨Or.inl (mB (mt5 (List.mem_of_getElem? (i := 25) (by decide +kernel))) rfl), by decide, by decide⟩
theorem fl_179 : FLok (10, 79, 10, 8) := ⟨Or.inl (mB (mt5 (List.mem_of_getElem? (i := 26) (by decide +kernel))) rfl), by decide, by decide⟩
theorem fl_180 : FLok (10, 186, 10, 12) := ⟨Or.inl (mB (mt5 (List.mem_of_getElem? (i := 30) (by decide +kernel))) rfl), by decide, by decide⟩
theorem fl_181 : FLok (10, 297, 10, 17) := ⟨Or.inl (mB (mt5 (List.mem_of_getElem? (i := 35) (by decide +kernel))) rfl), by decide, by decide⟩
theorem fl_182 : FLok (10, 300, 10, 18) := ⟨Or.inl (mB (mt5 (List.mem_of_getElem? (i := 36) (by decide +kernel))) rfl), by decide, by decide⟩
def FL : List (Nat × Nat × Nat × Nat) := [(0, 9, 0, 0), (0, 18, 0, 1), (0, 24, 0, 2), (0, 37, 1, 0), (0, 42, 0, 3), (0, 49, 0, 4), (0, 52, 0, 5), (0, 55, 0, 6), (0, 58, 0, 7), (0, 61, 0, 8), (0, 64, 0, 9), (0, 67, 0, 10), (0, 70, 0, 11), (0, 73, 0, 12), (0, 81, 8, 6), (0, 84, 8, 3), (0, 87, 8, 4), (0, 90, 8, 5), (0, 93, 8, 0), (0, 97, 6, 1), (0, 102, 6, 3), (0, 105, 6, 2), (0, 108, 8, 7), (0, 111, 8, 8), (0, 114, 8, 9), (0, 117, 8, 10), (0, 120, 8, 1), (0, 124, 2, 0), (0, 133, 8, 2), (0, 142, 3, 0), (0, 161, 6, 0), (0, 188, 2, 1), (0, 191, 2, 5), (0, 223, 2, 2), (0, 229, 2, 3), (0, 231, 2, 4), (0, 238, 2, 6), (0, 241, 2, 8), (0, 244, 2, 7), (0, 247, 2, 9), (0, 250, 2, 10), (0, 253, 2, 11), (0, 256, 2, 12), (0, 267, 8, 12), (0, 278, 3, 6), (0, 281, 3, 7), (0, 284, 3, 8), (0, 304, 3, 2), (0, 315, 3, 1), (0, 333, 3, 3), (0, 334, 3, 4), (0, 337, 3, 5), (1, 7, 1, 0), (2, 9, 2, 0), (2, 15, 2, 1), (2, 19, 2, 2), (2, 22, 2, 3), (2, 25, 2, 4), (2, 28, 2, 5), (2, 31, 2, 6), (2, 34, 2, 7), (2, 37, 2, 8), (2, 40, 2, 9), (2, 43, 2, 10), (2, 46, 2, 11), (2, 49, 2, 12), (3, 9, 3, 0), (3, 15, 3, 1), (3, 24, 3, 2), (3, 28, 3, 3), (3, 31, 3, 4), (3, 34, 3, 5), (3, 37, 3, 6), (3, 40, 3, 7), (3, 43, 3, 8), (4, 9, 4, 0), (4, 15, 4, 1), (5, 11, 5, 0), (5, 18, 5, 2), (5, 26, 5, 1), (6, 9, 6, 0), (6, 21, 6, 1), (6, 25, 6, 2), (6, 28, 6, 3), (7, 9, 7, 0), (7, 15, 7, 1), (8, 11, 8, 0), (8, 20, 8, 1), (8, 27, 8, 2), (8, 31, 8, 3), (8, 35, 8, 4), (8, 38, 8, 5), (8, 41, 8, 11), (8, 62, 8, 6), (8, 65, 8, 7), (8, 68, 8, 8), (8, 71, 8, 9), (8, 74, 8, 10), (8, 77, 8, 12), (8, 80, 2, 0), (8, 84, 6, 1), (9, 10, 9, 0), (9, 16, 9, 1), (9, 22, 9, 2), (9, 29, 9, 3), (9, 33, 9, 4), (9, 37, 9, 5), (9, 44, 9, 6), (9, 51, 9, 7), (9, 55, 9, 8), (9, 63, 7, 1), (9, 86, 0, 1), (9, 89, 1, 0), (9, 95, 0, 0), (9, 112, 0, 3), (9, 146, 0, 2), (9, 150, 8, 7), (9, 155, 8, 8), (9, 162, 8, 11), (9, 165, 8, 12), (9, 168, 8, 6), (9, 174, 8, 0), (9, 178, 6, 1), (9, 183, 6, 3), (9, 186, 6, 2), (9, 193, 6, 0), (9, 196, 8, 1), (9, 200, 2, 0), (9, 206, 2, 1), (9, 209, 2, 2), (9, 212, 2, 3), (9, 214, 2, 4), (9, 217, 2, 5), (9, 220, 2, 6), (9, 223, 2, 7), (9, 226, 0, 4), (9, 229, 0, 6), (9, 232, 0, 7), (9, 239, 0, 5), (9, 242, 8, 10), (9, 245, 8, 9), (9, 251, 8, 5), (9, 254, 8, 3), (9, 257, 8, 4), (9, 269, 4, 1), (9, 270, 8, 2), (9, 274, 3, 0), (9, 279, 3, 3), (9, 282, 3, 4), (9, 285, 3, 5), (9, 288, 3, 2), (9, 294, 3, 1), (9, 297, 3, 6), (9, 300, 3, 7), (9, 303, 3, 8), (9, 309, 0, 10), (9, 312, 0, 11), (9, 315, 0, 9), (9, 331, 0, 8), (9, 350, 5, 1), (9, 357, 4, 0), (9, 368, 0, 12), (10, 9, 10, 0), (10, 13, 10, 1), (10, 17, 10, 3), (10, 21, 10, 9), (10, 24, 10, 10), (10, 27, 10, 11), (10, 30, 10, 13), (10, 33, 10, 14), (10, 36, 10, 15), (10, 39, 10, 16), (10, 42, 10, 19), (10, 45, 10, 20), (10, 52, 10, 5), (10, 56, 10, 4), (10, 71, 10, 2), (10, 74, 10, 6), (10, 77, 10, 7), (10, 79, 10, 8), (10, 186, 10, 12), (10, 297, 10, 17), (10, 300, 10, 18)]
theorem FL_c0 : ∀ r ∈ ([(0, 9, 0, 0), (0, 18, 0, 1), (0, 24, 0, 2), (0, 37, 1, 0), (0, 42, 0, 3), (0, 49, 0, 4), (0, 52, 0, 5), (0, 55, 0, 6), (0, 58, 0, 7), (0, 61, 0, 8), (0, 64, 0, 9), (0, 67, 0, 10), (0, 70, 0, 11), (0, 73, 0, 12), (0, 81, 8, 6), (0, 84, 8, 3), (0, 87, 8, 4), (0, 90, 8, 5), (0, 93, 8, 0), (0, 97, 6, 1), (0, 102, 6, 3), (0, 105, 6, 2), (0, 108, 8, 7), (0, 111, 8, 8), (0, 114, 8, 9), (0, 117, 8, 10), (0, 120, 8, 1), (0, 124, 2, 0), (0, 133, 8, 2), (0, 142, 3, 0), (0, 161, 6, 0), (0, 188, 2, 1), (0, 191, 2, 5), (0, 223, 2, 2), (0, 229, 2, 3), (0, 231, 2, 4), (0, 238, 2, 6), (0, 241, 2, 8), (0, 244, 2, 7), (0, 247, 2, 9)] : List (Nat × Nat × Nat × Nat)), FLok r := List.forall_mem_cons.mpr ⟨fl_0, List.forall_mem_cons.mpr ⟨fl_1, List.forall_mem_cons.mpr ⟨fl_2, List.forall_mem_cons.mpr ⟨fl_3, List.forall_mem_cons.mpr ⟨fl_4, List.forall_mem_cons.mpr ⟨fl_5, List.forall_mem_cons.mpr ⟨fl_6, List.forall_mem_cons.mpr ⟨fl_7, List.forall_mem_cons.mpr ⟨fl_8, List.forall_mem_cons.mpr ⟨fl_9, List.forall_mem_cons.mpr ⟨fl_10, List.forall_mem_cons.mpr ⟨fl_11, List.forall_mem_cons.mpr ⟨fl_12, List.forall_mem_cons.mpr ⟨fl_13, List.forall_mem_cons.mpr ⟨fl_14, List.forall_mem_cons.mpr ⟨fl_15, List.forall_mem_cons.mpr ⟨fl_16, List.forall_mem_cons.mpr ⟨fl_17, List.forall_mem_cons.mpr ⟨fl_18, List.forall_mem_cons.mpr ⟨fl_19, List.forall_mem_cons.mpr ⟨fl_20, List.forall_mem_cons.mpr ⟨fl_21, List.forall_mem_cons.mpr ⟨fl_22, List.forall_mem_cons.mpr ⟨fl_23, List.forall_mem_cons.mpr ⟨fl_24, List.forall_mem_cons.mpr ⟨fl_25, List.forall_mem_cons.mpr ⟨fl_26, List.forall_mem_cons.mpr ⟨fl_27, List.forall_mem_cons.mpr ⟨fl_28, List.forall_mem_cons.mpr ⟨fl_29, List.forall_mem_cons.mpr ⟨fl_30, List.forall_mem_cons.mpr ⟨fl_31, List.forall_mem_cons.mpr ⟨fl_32, List.forall_mem_cons.mpr ⟨fl_33, List.forall_mem_cons.mpr ⟨fl_34, List.forall_mem_cons.mpr ⟨fl_35, List.forall_mem_cons.mpr ⟨fl_36, List.forall_mem_cons.mpr ⟨fl_37, List.forall_mem_cons.mpr ⟨fl_38, List.forall_mem_cons.mpr ⟨fl_39, fun _ h => absurd h List.not_mem_nil⟩⟩⟩⟩⟩⟩⟩⟩⟩⟩⟩⟩⟩⟩⟩⟩⟩⟩⟩⟩⟩⟩⟩⟩⟩⟩⟩⟩⟩⟩⟩⟩⟩⟩⟩⟩⟩⟩⟩⟩
theorem FL_c1 : ∀ r ∈ ([(0, 250, 2, 10), (0, 253, 2, 11), (0, 256, 2, 12), (0, 267, 8, 12), (0, 278, 3, 6), (0, 281, 3, 7), (0, 284, 3, 8), (0, 304, 3, 2), (0, 315, 3, 1), (0, 333, 3, 3), (0, 334, 3, 4), (0, 337, 3, 5), (1, 7, 1, 0), (2, 9, 2, 0), (2, 15, 2, 1), (2, 19, 2, 2), (2, 22, 2, 3), (2, 25, 2, 4), (2, 28, 2, 5), (2, 31, 2, 6), (2, 34, 2, 7), (2, 37, 2, 8), (2, 40, 2, 9), (2, 43, 2, 10), (2, 46, 2, 11), (2, 49, 2, 12), (3, 9, 3, 0), (3, 15, 3, 1), (3, 24, 3, 2), (3, 28, 3, 3), (3, 31, 3, 4), (3, 34, 3, 5), (3, 37, 3, 6), (3, 40, 3, 7), (3, 43, 3, 8), (4, 9, 4, 0), (4, 15, 4, 1), (5, 11, 5, 0), (5, 18, 5, 2), (5, 26, 5, 1)] : List (Nat × Nat × Nat × Nat)), FLok r := List.forall_mem_cons.mpr ⟨fl_40, List.forall_mem_cons.mpr ⟨fl_41, List.forall_mem_cons.mpr ⟨fl_42, List.forall_mem_cons.mpr ⟨fl_43, List.forall_mem_cons.mpr ⟨fl_44, List.forall_mem_cons.mpr ⟨fl_45, List.forall_mem_cons.mpr ⟨fl_46, List.forall_mem_cons.mpr ⟨fl_47, List.forall_mem_cons.mpr ⟨fl_48, List.forall_mem_cons.mpr ⟨fl_49, List.forall_mem_cons.mpr ⟨fl_50, List.forall_mem_cons.mpr ⟨fl_51, List.forall_mem_cons.mpr ⟨fl_52, List.forall_mem_cons.mpr ⟨fl_53, List.forall_mem_cons.mpr ⟨fl_54, List.forall_mem_cons.mpr ⟨fl_55, List.forall_mem_cons.mpr ⟨fl_56, List.forall_mem_cons.mpr ⟨fl_57, List.forall_mem_cons.mpr ⟨fl_58, List.forall_mem_cons.mpr ⟨fl_59, List.forall_mem_cons.mpr ⟨fl_60, List.forall_mem_cons.mpr ⟨fl_61, List.forall_mem_cons.mpr ⟨fl_62, List.forall_mem_cons.mpr ⟨fl_63, List.forall_mem_cons.mpr ⟨fl_64, List.forall_mem_cons.mpr ⟨fl_65, List.forall_mem_cons.mpr ⟨fl_66, List.forall_mem_cons.mpr ⟨fl_67, List.forall_mem_cons.mpr ⟨fl_68, List.forall_mem_cons.mpr ⟨fl_69, List.forall_mem_cons.mpr ⟨fl_70, List.forall_mem_cons.mpr ⟨fl_71, List.forall_mem_cons.mpr ⟨fl_72, List.forall_mem_cons.mpr ⟨fl_73, List.forall_mem_cons.mpr ⟨fl_74, List.forall_mem_cons.mpr ⟨fl_75, List.forall_mem_cons.mpr ⟨fl_76, List.forall_mem_cons.mpr ⟨fl_77, List.forall_mem_cons.mpr ⟨fl_78, List.forall_mem_cons.mpr ⟨fl_79, fun _ h => absurd h List.not_mem_nil⟩⟩⟩⟩⟩⟩⟩⟩⟩⟩⟩⟩⟩⟩⟩⟩⟩⟩⟩⟩⟩⟩⟩⟩⟩⟩⟩⟩⟩⟩⟩⟩⟩⟩⟩⟩⟩⟩⟩⟩
theorem FL_c2 : ∀ r ∈ ([(6, 9, 6, 0), (6, 21, 6, 1), (6, 25, 6, 2), (6, 28, 6, 3), (7, 9, 7, 0), (7, 15, 7, 1), (8, 11, 8, 0), (8, 20, 8, 1), (8, 27, 8, 2), (8, 31, 8, 3), (8, 35, 8, 4), (8, 38, 8, 5), (8, 41, 8, 11), (8, 62, 8, 6), (8, 65, 8, 7), (8, 68, 8, 8), (8, 71, 8, 9), (8, 74, 8, 10), (8, 77, 8, 12), (8, 80, 2, 0), (8, 84, 6, 1), (9, 10, 9, 0), (9, 16, 9, 1), (9, 22, 9, 2), (9, 29, 9, 3), (9, 33, 9, 4), (9, 37, 9, 5), (9, 44, 9, 6), (9, 51, 9, 7), (9, 55, 9, 8), (9, 63, 7, 1), (9, 86, 0, 1), (9, 89, 1, 0), (9, 95, 0, 0), (9, 112, 0, 3), (9, 146, 0, 2), (9, 150, 8, 7), (9, 155, 8, 8), (9, 162, 8, 11), (9, 165, 8, 12)] : List (Nat × Nat × Nat × Nat)), FLok r := List.forall_mem_cons.mpr ⟨fl_80, List.forall_mem_cons.mpr ⟨fl_81, List.forall_mem_cons.mpr ⟨fl_82, List.forall_mem_cons.mpr ⟨fl_83, List.forall_mem_cons.mpr ⟨fl_84, List.forall_mem_cons.mpr ⟨fl_85, List.forall_mem_cons.mpr ⟨fl_86, List.forall_mem_cons.mpr ⟨fl_87, List.forall_mem_cons.mpr ⟨fl_88, List.forall_mem_cons.mpr ⟨fl_89, List.forall_mem_cons.mpr ⟨fl_90, List.forall_mem_cons.mpr ⟨fl_91, List.forall_mem_cons.mpr ⟨fl_92, List.forall_mem_cons.mpr ⟨fl_93, List.forall_mem_cons.mpr ⟨fl_94, List.forall_mem_cons.mpr ⟨fl_95, List.forall_mem_cons.mpr ⟨fl_96, List.forall_mem_cons.mpr ⟨fl_97, List.forall_mem_cons.mpr ⟨fl_98, List.forall_mem_cons.mpr ⟨fl_99, List.forall_mem_cons.mpr ⟨fl_100, List.forall_mem_cons.mpr ⟨fl_101, List.forall_mem_cons.mpr ⟨fl_102, List.forall_mem_cons.mpr ⟨fl_103, List.forall_mem_cons.mpr ⟨fl_104, List.forall_mem_cons.mpr ⟨fl_105, List.forall_mem_cons.mpr ⟨fl_106, List.forall_mem_cons.mpr ⟨fl_107, List.forall_mem_cons.mpr ⟨fl_108, List.forall_mem_cons.mpr ⟨fl_109, List.forall_mem_cons.mpr ⟨fl_110, List.forall_mem_cons.mpr ⟨fl_111, List.forall_mem_cons.mpr ⟨fl_112, List.forall_mem_cons.mpr ⟨fl_113, List.forall_mem_cons.mpr ⟨fl_114, List.forall_mem_cons.mpr ⟨fl_115, List.forall_mem_cons.mpr ⟨fl_116, List.forall_mem_cons.mpr ⟨fl_117, List.forall_mem_cons.mpr ⟨fl_118, List.forall_mem_cons.mpr ⟨fl_119, fun _ h => absurd h List.not_mem_nil⟩⟩⟩⟩⟩⟩⟩⟩⟩⟩⟩⟩⟩⟩⟩⟩⟩⟩⟩⟩⟩⟩⟩⟩⟩⟩⟩⟩⟩⟩⟩⟩⟩⟩⟩⟩⟩⟩⟩⟩
theorem FL_c3 : ∀ r ∈ ([(9, 168, 8, 6), (9, 174, 8, 0), (9, 178, 6, 1), (9, 183, 6, 3), (9, 186, 6, 2), (9, 193, 6, 0), (9, 196, 8, 1), (9, 200, 2, 0), (9, 206, 2, 1), (9, 209, 2, 2), (9, 212, 2, 3), (9, 214, 2, 4), (9, 217, 2, 5), (9, 220, 2, 6), (9, 223, 2, 7), (9, 226, 0, 4), (9, 229, 0, 6), (9, 232, 0, 7), (9, 239, 0, 5), (9, 242, 8, 10), (9, 245, 8, 9), (9, 251, 8, 5), (9, 254, 8, 3), (9, 257, 8, 4), (9, 269, 4, 1), (9, 270, 8, 2), (9, 274, 3, 0), (9, 279, 3, 3), (9, 282, 3, 4), (9, 285, 3, 5), (9, 288, 3, 2), (9, 294, 3, 1), (9, 297, 3, 6), (9, 300, 3, 7), (9, 303, 3, 8), (9, 309, 0, 10), (9, 312, 0, 11), (9, 315, 0, 9), (9, 331, 0, 8), (9, 350, 5, 1)] : List (Nat × Nat × Nat × Nat)), FLok r := List.forall_mem_cons.mpr ⟨fl_120, List.forall_mem_cons.mpr ⟨fl_121, List.forall_mem_cons.mpr ⟨fl_122, List.forall_mem_cons.mpr ⟨fl_123, List.forall_mem_cons.mpr ⟨fl_124, List.forall_mem_cons.mpr ⟨fl_125, List.forall_mem_cons.mpr ⟨fl_126, List.forall_mem_cons.mpr ⟨fl_127, List.forall_mem_cons.mpr ⟨fl_128, List.forall_mem_cons.mpr ⟨fl_129, List.forall_mem_cons.mpr ⟨fl_130, List.forall_mem_cons.mpr ⟨fl_131, List.forall_mem_cons.mpr ⟨fl_132, List.forall_mem_cons.mpr ⟨fl_133, List.forall_mem_cons.mpr ⟨fl_134, List.forall_mem_cons.mpr ⟨fl_135, List.forall_mem_cons.mpr ⟨fl_136, List.forall_mem_cons.mpr ⟨fl_137, List.forall_mem_cons.mpr ⟨fl_138, List.forall_mem_cons.mpr ⟨fl_139, List.forall_mem_cons.mpr ⟨fl_140, List.forall_mem_cons.mpr ⟨fl_141, List.forall_mem_cons.mpr ⟨fl_142, List.forall_mem_cons.mpr ⟨fl_143, List.forall_mem_cons.mpr ⟨fl_144, List.forall_mem_cons.mpr ⟨fl_145, List.forall_mem_cons.mpr ⟨fl_146, List.forall_mem_cons.mpr ⟨fl_147, List.forall_mem_cons.mpr ⟨fl_148, List.forall_mem_cons.mpr ⟨fl_149, List.forall_mem_cons.mpr ⟨fl_150, List.forall_mem_cons.mpr ⟨fl_151, List.forall_mem_cons.mpr ⟨fl_152, List.forall_mem_cons.mpr ⟨fl_153, List.forall_mem_cons.mpr ⟨fl_154, List.forall_mem_cons.mpr ⟨fl_155, List.forall_mem_cons.mpr ⟨fl_156, List.forall_mem_cons.mpr ⟨fl_157, List.forall_mem_cons.mpr ⟨fl_158, List.forall_mem_cons.mpr ⟨fl_159, fun _ h => absurd h List.not_mem_nil⟩⟩⟩⟩⟩⟩⟩⟩⟩⟩⟩⟩⟩⟩⟩⟩⟩⟩⟩⟩⟩⟩⟩⟩⟩⟩⟩⟩⟩⟩⟩⟩⟩⟩⟩⟩⟩⟩⟩⟩
theorem FL_c4 : ∀ r ∈ ([(9, 357, 4, 0), (9, 368, 0, 12), (10, 9, 10, 0), (10, 13, 10, 1), (10, 17, 10, 3), (10, 21, 10, 9), (10, 24, 10, 10), (10, 27, 10, 11), (10, 30, 10, 13), (10, 33, 10, 14), (10, 36, 10, 15), (10, 39, 10, 16), (10, 42, 10, 19), (10, 45, 10, 20), (10, 52, 10, 5), (10, 56, 10, 4), (10, 71, 10, 2), (10, 74, 10, 6), (10, 77, 10, 7), (10, 79, 10, 8), (10, 186, 10, 12), (10, 297, 10, 17), (10, 300, 10, 18)] : List (Nat × Nat × Nat × Nat)), FLok r := List.forall_mem_cons.mpr ⟨fl_160, List.forall_mem_cons.mpr ⟨fl_161, List.forall_mem_cons.mpr ⟨fl_162, List.forall_mem_cons.mpr ⟨fl_163, List.forall_mem_cons.mpr ⟨fl_164, List.forall_mem_cons.mpr ⟨fl_165, List.forall_mem_cons.mpr ⟨fl_166, List.forall_mem_cons.mpr ⟨fl_167, List.forall_mem_cons.mpr ⟨fl_168, List.forall_mem_cons.mpr ⟨fl_169, List.forall_mem_cons.mpr ⟨fl_170, List.forall_mem_cons.mpr ⟨fl_171, List.forall_mem_cons.mpr ⟨fl_172, List.forall_mem_cons.mpr ⟨fl_173, List.forall_mem_cons.mpr ⟨fl_174, List.forall_mem_cons.mpr ⟨fl_175, List.forall_mem_cons.mpr ⟨fl_176, List.forall_mem_cons.mpr ⟨fl_177, List.forall_mem_cons.mpr ⟨fl_178, List.forall_mem_cons.mpr ⟨fl_179, List.forall_mem_cons.mpr ⟨fl_180, List.forall_mem_cons.mpr ⟨fl_181, List.forall_mem_cons.mpr ⟨fl_182, fun _ h => absurd h List.not_mem_nil⟩⟩⟩⟩⟩⟩⟩⟩⟩⟩⟩⟩⟩⟩⟩⟩⟩⟩⟩⟩⟩⟩⟩
theorem FL_ok : ∀ r ∈ FL, FLok r := by
  intro r h
  rw [show FL = [(0, 9, 0, 0), (0, 18, 0, 1), (0, 24, 0, 2), (0, 37, 1, 0), (0, 42, 0, 3), (0, 49, 0, 4), (0, 52, 0, 5), (0, 55, 0, 6), (0, 58, 0, 7), (0, 61, 0, 8), (0, 64, 0, 9), (0, 67, 0, 10), (0, 70, 0, 11), (0, 73, 0, 12), (0, 81, 8, 6), (0, 84, 8, 3), (0, 87, 8, 4), (0, 90, 8, 5), (0, 93, 8, 0), (0, 97, 6, 1), (0, 102, 6, 3), (0, 105, 6, 2), (0, 108, 8, 7), (0, 111, 8, 8), (0, 114, 8, 9), (0, 117, 8, 10), (0, 120, 8, 1), (0, 124, 2, 0), (0, 133, 8, 2), (0, 142, 3, 0), (0, 161, 6, 0), (0, 188, 2, 1), (0, 191, 2, 5), (0, 223, 2, 2), (0, 229, 2, 3), (0, 231, 2, 4), (0, 238, 2, 6), (0, 241, 2, 8), (0, 244, 2, 7), (0, 247, 2, 9)] ++ ([(0, 250, 2, 10), (0, 253, 2, 11), (0, 256, 2, 12), (0, 267, 8, 12), (0, 278, 3, 6), (0, 281, 3, 7), (0, 284, 3, 8), (0, 304, 3, 2), (0, 315, 3, 1), (0, 333, 3, 3), (0, 334, 3, 4), (0, 337, 3, 5), (1, 7, 1, 0), (2, 9, 2, 0), (2, 15, 2, 1), (2, 19, 2, 2), (2, 22, 2, 3), (2, 25, 2, 4), (2, 28, 2, 5), (2, 31, 2, 6), (2, 34, 2, 7), (2, 37, 2, 8), (2, 40, 2, 9), (2, 43, 2, 10), (2, 46, 2, 11), (2, 49, 2, 12), (3, 9, 3, 0), (3, 15, 3, 1), (3, 24, 3, 2), (3, 28, 3, 3), (3, 31, 3, 4), (3, 34, 3, 5), (3, 37, 3, 6), (3, 40, 3, 7), (3, 43, 3, 8), (4, 9, 4, 0), (4, 15, 4, 1), (5, 11, 5, 0), (5, 18, 5, 2), (5, 26, 5, 1)] ++ ([(6, 9, 6, 0), (6, 21, 6, 1), (6, 25, 6, 2), (6, 28, 6, 3), (7, 9, 7, 0), (7, 15, 7, 1), (8, 11, 8, 0), (8, 20, 8, 1), (8, 27, 8, 2), (8, 31, 8, 3), (8, 35, 8, 4), (8, 38, 8, 5), (8, 41, 8, 11), (8, 62, 8, 6), (8, 65, 8, 7), (8, 68, 8, 8), (8, 71, 8, 9), (8, 74, 8, 10), (8, 77, 8, 12), (8, 80, 2, 0), (8, 84, 6, 1), (9, 10, 9, 0), (9, 16, 9, 1), (9, 22, 9, 2), (9, 29, 9, 3), (9, 33, 9, 4), (9, 37, 9, 5), (9, 44, 9, 6), (9, 51, 9, 7), (9, 55, 9, 8), (9, 63, 7, 1), (9, 86, 0, 1), (9, 89, 1, 0), (9, 95, 0, 0), (9, 112, 0, 3), (9, 146, 0, 2), (9, 150, 8, 7), (9, 155, 8, 8), (9, 162, 8, 11), (9, 165, 8, 12)] ++ ([(9, 168, 8, 6), (9, 174, 8, 0), (9, 178, 6, 1), (9, 183, 6, 3), (9, 186, 6, 2), (9, 193, 6, 0), (9, 196, 8, 1), (9, 200, 2, 0), (9, 206, 2, 1), (9, 209, 2, 2), (9, 212, 2, 3), (9, 214, 2, 4), (9, 217, 2, 5), (9, 220, 2, 6), (9, 223, 2, 7), (9, 226, 0, 4), (9, 229, 0, 6), (9, 232, 0, 7), (9, 239, 0, 5), (9, 242, 8, 10), (9, 245, 8, 9), (9, 251, 8, 5), (9, 254, 8, 3), (9, 257, 8, 4), (9, 269, 4, 1), (9, 270, 8, 2), (9, 274, 3, 0), (9, 279, 3, 3), (9, 282, 3, 4), (9, 285, 3, 5), (9, 288, 3, 2), (9, 294, 3, 1), (9, 297, 3, 6), (9, 300, 3, 7), (9, 303, 3, 8), (9, 309, 0, 10), (9, 312, 0, 11), (9, 315, 0, 9), (9, 331, 0, 8), (9, 350, 5, 1)] ++ ([(9, 357, 4, 0), (9, 368, 0, 12), (10, 9, 10, 0), (10, 13, 10, 1), (10, 17, 10, 3), (10, 21, 10, 9), (10, 24, 10, 10), (10, 27, 10, 11), (10, 30, 10, 13), (10, 33, 10, 14), (10, 36, 10, 15), (10, 39, 10, 16), (10, 42, 10, 19), (10, 45, 10, 20), (10, 52, 10, 5), (10, 56, 10, 4), (10, 71, 10, 2), (10, 74, 10, 6), (10, 77, 10, 7), (10, 79, 10, 8), (10, 186, 10, 12), (10, 297, 10, 17), (10, 300, 10, 18)])))) from rfl] at h
  simp only [List.mem_append] at h
  rcases h with h | h | h | h | h
  · exact FL_c0 r h
  · exact FL_c1 r h
  · exact FL_c2 r h
  · exact FL_c3 r h
  · exact FL_c4 r h
def mtb : List (MethodName × ByteArray × Nat × Option FieldType × Nat × Nat × Nat) := [(yX0_become, cX0_become, 3, none, 0, 3, 64), (yX0_startAnew, cX0_startAnew, 4, none, 0, 2, 48), (yX0_startStation, cX0_startStation, 7, none, 0, 1, 22), (yX0_hear, cX0_hear, 3, (some .boolean), 0, 0, 0), (yX0_sumOf, cX0_sumOf, 4, (some .int), 0, 0, 0), (yX0_waiting, cX0_waiting, 3, (some .int), 0, 1, 22), (yX0_exchangesOn, cX0_exchangesOn, 3, (some .int), 0, 0, 0), (yX0_emptyQueues, cX0_emptyQueues, 3, none, 0, 0, 0), (yX0_whyNotOffer, cX0_whyNotOffer, 5, (some .int), 0, 1, 22), (yX0_takeFrame, cX0_takeFrame, 6, (some .int), 0, 1, 24), (yX0_markLast, cX0_markLast, 4, none, 0, 0, 0), (yX0_drawAll, cX0_drawAll, 5, (some .int), 0, 1, 21), (yX0_isReady, cX0_isReady, 4, (some .boolean), 0, 0, 0), (yX0_passSlot, cX0_passSlot, 3, none, 0, 4, 95), (yX0_runningSpans, cX0_runningSpans, 3, (some .int), 0, 0, 0), (yX0_beginOf, cX0_beginOf, 4, none, 0, 3, 72), (yX0_beginExchange, cX0_beginExchange, 7, none, 0, 2, 46), (yX0_placesOf, cX0_placesOf, 5, (some .int), 0, 1, 22), (yX0_senders, cX0_senders, 4, (some .int), 0, 1, 20), (yX0_sendsNow, cX0_sendsNow, 2, (some .boolean), 0, 0, 0), (yX0_isClear, cX0_isClear, 3, (some .boolean), 0, 1, 21), (yX0_clearOnes, cX0_clearOnes, 4, (some .int), 0, 1, 21), (yX0_noteSlot, cX0_noteSlot, 4, none, 0, 1, 22), (yX0_spread, cX0_spread, 7, none, 0, 2, 43), (yX0_goAsk, cX0_goAsk, 4, none, 0, 3, 69), (yX0_goGrant, cX0_goGrant, 5, none, 0, 3, 69), (yX0_goData, cX0_goData, 5, none, 0, 3, 69), (yX0_noteSpoilt, cX0_noteSpoilt, 3, none, 0, 0, 0), (yX0_goPlace, cX0_goPlace, 3, none, 0, 2, 46), (yX0_goAnswer, cX0_goAnswer, 6, none, 0, 3, 69), (yX0_deliver, cX0_deliver, 7, none, 0, 2, 43), (yX0_failExchange, cX0_failExchange, 4, none, 0, 2, 45), (yX0_failFirst, cX0_failFirst, 4, none, 0, 1, 22), (yX0_settle, cX0_settle, 6, none, 0, 1, 21), (yX1_draw, cX1_draw, 2, (some .int), 1, 0, 0), (yX2_become, cX2_become, 2, none, 2, 0, 0), (yX2_sends, cX2_sends, 1, (some .boolean), 2, 0, 0), (yX3_become, cX3_become, 2, none, 3, 1, 21), (yX3_startAnew, cX3_startAnew, 2, none, 3, 0, 0), (yX3_delivered, cX3_delivered, 3, none, 3, 1, 21), (yX4_forget, cX4_forget, 1, none, 4, 0, 0), (yX4_add, cX4_add, 3, none, 4, 0, 0), (yX4_tellOne, cX4_tellOne, 3, none, 4, 1, 22), (yX4_tellTwo, cX4_tellTwo, 5, none, 4, 2, 44), (yX4_tellThree, cX4_tellThree, 7, none, 4, 3, 68), (yX4_tellPart, cX4_tellPart, 12, none, 4, 3, 68), (yX5_push, cX5_push, 2, none, 5, 4, 86), (yX5_popInto, cX5_popInto, 2, (some .boolean), 5, 4, 86), (yX6_become, cX6_become, 2, none, 6, 1, 21), (yX6_fieldOf, cX6_fieldOf, 3, (some .int), 6, 0, 0), (yX6_addLast, cX6_addLast, 5, none, 6, 0, 0), (yX6_tryAgain, cX6_tryAgain, 2, (some .int), 6, 0, 0), (yX6_removeAt, cX6_removeAt, 3, none, 6, 0, 0), (yX6_alikeAtFirst, cX6_alikeAtFirst, 4, (some .int), 6, 1, 22), (yX7_addFour, cX7_addFour, 3, (some .boolean), 7, 0, 0), (yX7_cutTo, cX7_cutTo, 2, (some .boolean), 7, 0, 0), (yX7_at, cX7_at, 2, (some .int), 7, 0, 0), (yX7_digitAt, cX7_digitAt, 5, (some .int), 7, 1, 21), (yX7_letterAt, cX7_letterAt, 4, (some .int), 7, 1, 21), (yX8_become, cX8_become, 3, none, 8, 2, 42), (yX8_isFree, cX8_isFree, 1, (some .boolean), 8, 0, 0), (yX8_waiting, cX8_waiting, 3, (some .int), 8, 0, 0), (yX8_setOwing, cX8_setOwing, 3, none, 8, 0, 0), (yX8_pays, cX8_pays, 3, (some .boolean), 8, 1, 22), (yX8_listen, cX8_listen, 4, none, 8, 0, 0), (yX9_sign, cX9_sign, 2, (some .int), 9, 1, 22), (yX9_end, cX9_end, 2, (some .boolean), 9, 1, 21), (yX9_net, cX9_net, 4, (some .int), 9, 5, 107), (yX9_sets, cX9_sets, 4, (some .int), 9, 5, 107), (yX9_setting, cX9_setting, 2, (some .int), 9, 8, 150), (yX9_sheet, cX9_sheet, 8, (some .int), 9, 3, 73), (yX9_offers, cX9_offers, 6, (some .int), 9, 5, 107), (yX9_slots, cX9_slots, 7, (some .int), 9, 5, 117), (yX9_draws, cX9_draws, 1, (some .int), 9, 5, 107), (yX9_station, cX9_station, 4, (some .int), 9, 8, 150), (yX9_rank, cX9_rank, 5, (some .int), 9, 8, 150), (yX9_frame, cX9_frame, 6, (some .int), 9, 8, 150), (yX9_exchange, cX9_exchange, 4, (some .int), 9, 1, 21), (yX9_sent, cX9_sent, 1, (some .int), 9, 3, 68), (yX9_spanOf, cX9_spanOf, 3, (some .int), 9, 3, 68), (yX9_rate, cX9_rate, 4, (some .int), 9, 3, 68), (yX9_hidden, cX9_hidden, 4, (some .int), 9, 1, 22), (yX9_tally, cX9_tally, 3, (some .int), 9, 8, 150), (yX9_why, cX9_why, 3, (some .int), 9, 3, 68), (yX9_spoilt, cX9_spoilt, 4, (some .int), 9, 2, 44), (yX9_held, cX9_held, 3, (some .int), 9, 4, 94), (yX9_even, cX9_even, 8, (some .int), 9, 4, 99), (yX9_busy, cX9_busy, 1, (some .int), 9, 3, 68), (yX9_odds, cX9_odds, 3, (some .int), 9, 4, 99), (yX9_window, cX9_window, 4, (some .int), 9, 2, 48), (yX9_ahead, cX9_ahead, 4, (some .int), 9, 5, 117), (yX9_quiet, cX9_quiet, 2, (some .int), 9, 5, 117), (yX9_next, cX9_next, 2, (some .int), 9, 5, 117), (yX9_soonest, cX9_soonest, 6, (some .int), 9, 6, 140), (yX9_day, cX9_day, 6, (some .int), 9, 6, 143), (yX9_undo, cX9_undo, 1, (some .int), 9, 5, 107), (yX9_years, cX9_years, 6, (some .int), 9, 5, 117), (yX9_keep, cX9_keep, 2, (some .boolean), 9, 4, 86), (yX9_again, cX9_again, 2, (some .boolean), 9, 4, 86), (yX9_count, cX9_count, 2, (some .int), 9, 2, 44), (yX9_row, cX9_row, 2, (some .long), 9, 8, 150), (yX9_isStation, cX9_isStation, 2, (some .boolean), 9, 0, 0), (yX9_isRank, cX9_isRank, 1, (some .boolean), 9, 0, 0), (yX9_readPairs, cX9_readPairs, 6, (some .int), 9, 2, 45), (yX9_entryOf, cX9_entryOf, 2, (some .int), 9, 0, 0), (yX9_comesFromEntry, cX9_comesFromEntry, 5, (some .boolean), 9, 2, 49), (yX9_waysAlone, cX9_waysAlone, 5, (some .long), 9, 1, 24), (yX9_power, cX9_power, 5, (some .long), 9, 0, 0), (yX9_slotsTillDelivered, cX9_slotsTillDelivered, 4, (some .int), 9, 5, 117), (yX9_actLength, cX9_actLength, 3, (some .int), 9, 1, 21), (yX9_faultInDay, cX9_faultInDay, 4, (some .int), 9, 3, 67), (yX9_faultInAct, cX9_faultInAct, 3, (some .int), 9, 2, 45), (yX9_doAct, cX9_doAct, 7, (some .boolean), 9, 5, 117), (yX9_offerDrawn, cX9_offerDrawn, 5, none, 9, 2, 49), (yX10_thrown, cX10_thrown, 1, (some .int), 10, 0, 0), (yX10_in, cX10_in, 3, (some .boolean), 10, 0, 0), (yX10_has, cX10_has, 2, (some .boolean), 10, 0, 0), (yX10_lost, cX10_lost, 1, (some .int), 10, 0, 0), (yX10_tell, cX10_tell, 3, none, 10, 0, 0), (yX10_common, cX10_common, 5, (some .int), 10, 0, 0), (yX10_commonLong, cX10_commonLong, 10, (some .long), 10, 0, 0), (yX10_isStation, cX10_isStation, 2, (some .boolean), 10, 1, 22), (yX10_isRank, cX10_isRank, 1, (some .boolean), 10, 1, 22), (yX10_quality, cX10_quality, 3, (some .int), 10, 0, 0), (yX10_hears, cX10_hears, 3, (some .boolean), 10, 1, 22), (yX10_at, cX10_at, 2, (some .int), 10, 0, 0), (yX10_frameAt, cX10_frameAt, 3, (some .int), 10, 1, 21), (yX10_exchangeAt, cX10_exchangeAt, 1, (some .int), 10, 0, 0), (yX10_draw, cX10_draw, 2, (some .int), 10, 0, 0), (yX10_sign, cX10_sign, 3, (some .int), 10, 0, 0), (yX10_end, cX10_end, 2, (some .boolean), 10, 1, 22), (yX10_begin, cX10_begin, 1, none, 10, 0, 0), (yX10_here, cX10_here, 1, (some .int), 10, 0, 0), (yX10_fine, cX10_fine, 1, (some .boolean), 10, 0, 0), (yX10_fault, cX10_fault, 2, none, 10, 1, 20), (yX10_oneOf, cX10_oneOf, 3, (some .int), 10, 2, 41), (yX10_twoDigits, cX10_twoDigits, 2, (some .int), 10, 3, 63), (yX10_wasRight, cX10_wasRight, 1, (some .boolean), 10, 2, 41), (yX10_readPair, cX10_readPair, 5, (some .int), 10, 3, 63), (yX10_net, cX10_net, 5, (some .int), 10, 4, 87), (yX10_highOf, cX10_highOf, 1, (some .int), 10, 0, 0), (yX10_sets, cX10_sets, 4, (some .int), 10, 2, 42), (yX10_setting, cX10_setting, 2, (some .int), 10, 1, 22), (yX10_goesOn, cX10_goesOn, 2, (some .boolean), 10, 1, 20), (yX10_sheet, cX10_sheet, 11, (some .int), 10, 3, 69), (yX10_put, cX10_put, 7, none, 10, 2, 43), (yX10_leaves, cX10_leaves, 6, none, 10, 2, 43), (yX10_refusesOffer, cX10_refusesOffer, 5, (some .int), 10, 2, 44), (yX10_offers, cX10_offers, 6, (some .int), 10, 3, 69), (yX10_isFree, cX10_isFree, 2, (some .boolean), 10, 1, 20), (yX10_isReady, cX10_isReady, 3, (some .boolean), 10, 1, 21), (yX10_had, cX10_had, 4, none, 10, 0, 0), (yX10_drawsCount, cX10_drawsCount, 3, none, 10, 1, 21), (yX10_isLost, cX10_isLost, 4, none, 10, 3, 68), (yX10_fails, cX10_fails, 5, none, 10, 4, 91), (yX10_roundedUp, cX10_roundedUp, 2, (some .int), 10, 0, 0), (yX10_begins, cX10_begins, 8, none, 10, 2, 43), (yX10_stepBegin, cX10_stepBegin, 4, none, 10, 5, 115), (yX10_stepSend, cX10_stepSend, 5, none, 10, 4, 89), (yX10_hearsOthers, cX10_hearsOthers, 4, (some .boolean), 10, 2, 44), (yX10_isClear, cX10_isClear, 3, (some .boolean), 10, 3, 67), (yX10_spans, cX10_spans, 6, none, 10, 4, 89), (yX10_owes, cX10_owes, 4, none, 10, 0, 0), (yX10_sendsIt, cX10_sendsIt, 4, (some .boolean), 10, 4, 89), (yX10_failsBy, cX10_failsBy, 6, none, 10, 5, 115), (yX10_stepData, cX10_stepData, 6, none, 10, 5, 114), (yX10_delivers, cX10_delivers, 8, none, 10, 4, 91), (yX10_stepSender, cX10_stepSender, 4, none, 10, 6, 140), (yX10_stepEnd, cX10_stepEnd, 4, none, 10, 3, 67), (yX10_stepHeld, cX10_stepHeld, 2, none, 10, 3, 67), (yX10_slot, cX10_slot, 2, none, 10, 7, 163), (yX10_goSlots, cX10_goSlots, 3, none, 10, 8, 184), (yX10_slots, cX10_slots, 6, (some .int), 10, 9, 206), (yX10_drawAll, cX10_drawAll, 4, (some .int), 10, 2, 43), (yX10_draws, cX10_draws, 1, (some .int), 10, 3, 66), (yX10_waiting, cX10_waiting, 4, (some .int), 10, 1, 21), (yX10_allWaiting, cX10_allWaiting, 3, (some .int), 10, 2, 44), (yX10_heardBy, cX10_heardBy, 4, (some .int), 10, 2, 44), (yX10_station, cX10_station, 3, (some .int), 10, 3, 67), (yX10_rank, cX10_rank, 4, (some .int), 10, 2, 43), (yX10_frame, cX10_frame, 5, (some .int), 10, 2, 43), (yX10_exchange, cX10_exchange, 4, (some .int), 10, 2, 43), (yX10_placesOf, cX10_placesOf, 4, (some .int), 10, 0, 0), (yX10_sent, cX10_sent, 1, (some .int), 10, 1, 22), (yX10_spanOf, cX10_spanOf, 2, (some .int), 10, 2, 43), (yX10_rate, cX10_rate, 3, (some .int), 10, 2, 44), (yX10_hidden, cX10_hidden, 3, (some .int), 10, 3, 67), (yX10_tally, cX10_tally, 3, (some .int), 10, 2, 43), (yX10_held, cX10_held, 4, (some .int), 10, 2, 43), (yX10_why, cX10_why, 2, (some .int), 10, 2, 43), (yX10_spoilt, cX10_spoilt, 3, (some .int), 10, 2, 43), (yX10_even, cX10_even, 8, (some .int), 10, 1, 29), (yX10_busy, cX10_busy, 1, (some .int), 10, 1, 22), (yX10_power, cX10_power, 4, (some .int), 10, 0, 0), (yX10_waysAlone, cX10_waysAlone, 4, (some .int), 10, 1, 23), (yX10_odds, cX10_odds, 6, (some .int), 10, 2, 46), (yX10_window, cX10_window, 4, (some .int), 10, 2, 46), (yX10_layAside, cX10_layAside, 2, none, 10, 0, 0), (yX10_comesBack, cX10_comesBack, 2, none, 10, 0, 0), (yX10_ahead, cX10_ahead, 4, (some .int), 10, 9, 206), (yX10_isQuiet, cX10_isQuiet, 1, (some .boolean), 10, 3, 66), (yX10_quiet, cX10_quiet, 4, (some .int), 10, 8, 184), (yX10_next, cX10_next, 3, (some .int), 10, 8, 184), (yX10_takes, cX10_takes, 5, (some .int), 10, 8, 184), (yX10_soonest, cX10_soonest, 6, (some .int), 10, 9, 208), (yX10_readAct, cX10_readAct, 3, none, 10, 4, 84), (yX10_act, cX10_act, 2, (some .boolean), 10, 9, 206), (yX10_day, cX10_day, 4, (some .int), 10, 10, 227), (yX10_change, cX10_change, 2, none, 10, 1, 21), (yX10_note, cX10_note, 2, none, 10, 0, 0), (yX10_undo, cX10_undo, 2, (some .int), 10, 0, 0), (yX10_drawBeside, cX10_drawBeside, 2, (some .int), 10, 0, 0), (yX10_years, cX10_years, 8, (some .int), 10, 9, 206), (yX10_keep, cX10_keep, 3, (some .boolean), 10, 1, 22), (yX10_again, cX10_again, 3, (some .boolean), 10, 1, 22), (yX10_exchanges, cX10_exchanges, 3, (some .int), 10, 1, 20), (yX10_count, cX10_count, 2, (some .int), 10, 3, 66), (yX10_row, cX10_row, 2, (some .long), 10, 1, 22), (yJ6_bitCount_0f7a4, cJ6_bitCount_0f7a4, 1, (some .int), 12, 0, 0), (yL_setting, cL_setting, 4, (some .int), 11, 9, 171), (yL_station, cL_station, 5, (some .int), 11, 9, 173), (yL_rank, cL_rank, 6, (some .int), 11, 9, 174), (yL_frame, cL_frame, 7, (some .int), 11, 9, 175), (yL_tally, cL_tally, 5, (some .int), 11, 9, 172), (yL_row, cL_row, 4, (some .int), 11, 9, 171), (yL_law, cL_law, 8, (some .boolean), 11, 11, 250)]
def mrow (j : Nat) : MethodName × ByteArray × Nat × Option FieldType × Nat × Nat × Nat := mtb.getD j (yX9_end, cX9_end, 0, none, 0, 0, 0)
def MOk (j : Nat) : Prop := Cond.code (mrow j).1 (mrow j).2.1 (mrow j).2.2.1 (mrow j).2.2.2.1 ∈ mBig
theorem mo_0 : MOk 0 := mB (mt2 (List.mem_of_getElem? (i := 209) rfl)) rfl
theorem mo_1 : MOk 1 := mB (mt2 (List.mem_of_getElem? (i := 232) rfl)) rfl
theorem mo_2 : MOk 2 := mB (mt2 (List.mem_of_getElem? (i := 236) rfl)) rfl
theorem mo_3 : MOk 3 := mB (mt3 (List.mem_of_getElem? (i := 36) rfl)) rfl
theorem mo_4 : MOk 4 := mB (mt3 (List.mem_of_getElem? (i := 62) rfl)) rfl
theorem mo_5 : MOk 5 := mB (mt4 (List.mem_of_getElem? (i := 72) rfl)) rfl
theorem mo_6 : MOk 6 := mB (mt3 (List.mem_of_getElem? (i := 21) rfl)) rfl
theorem mo_7 : MOk 7 := mB (mt3 (List.mem_of_getElem? (i := 25) rfl)) rfl
theorem mo_8 : MOk 8 := mB (mt3 (List.mem_of_getElem? (i := 52) rfl)) rfl
theorem mo_9 : MOk 9 := mB (mt3 (List.mem_of_getElem? (i := 40) rfl)) rfl
theorem mo_10 : MOk 10 := mB (mt4 (List.mem_of_getElem? (i := 92) rfl)) rfl
theorem mo_11 : MOk 11 := mB (mt3 (List.mem_of_getElem? (i := 235) rfl)) rfl
theorem mo_12 : MOk 12 := mB (mt3 (List.mem_of_getElem? (i := 82) rfl)) rfl
theorem mo_13 : MOk 13 := mB (mt3 (List.mem_of_getElem? (i := 66) rfl)) rfl
theorem mo_14 : MOk 14 := mB (mt3 (List.mem_of_getElem? (i := 70) rfl)) rfl
theorem mo_15 : MOk 15 := mB (mt3 (List.mem_of_getElem? (i := 78) rfl)) rfl
theorem mo_16 : MOk 16 := mB (mt3 (List.mem_of_getElem? (i := 86) rfl)) rfl
theorem mo_17 : MOk 17 := mB (mt3 (List.mem_of_getElem? (i := 98) rfl)) rfl
theorem mo_18 : MOk 18 := mB (mt3 (List.mem_of_getElem? (i := 125) rfl)) rfl
theorem mo_19 : MOk 19 := mB (mt3 (List.mem_of_getElem? (i := 143) rfl)) rfl
theorem mo_20 : MOk 20 := mB (mt3 (List.mem_of_getElem? (i := 159) rfl)) rfl
theorem mo_21 : MOk 21 := mB (mt3 (List.mem_of_getElem? (i := 133) rfl)) rfl
theorem mo_22 : MOk 22 := mB (mt3 (List.mem_of_getElem? (i := 147) rfl)) rfl
theorem mo_23 : MOk 23 := mB (mt3 (List.mem_of_getElem? (i := 163) rfl)) rfl
theorem mo_24 : MOk 24 := mB (mt3 (List.mem_of_getElem? (i := 155) rfl)) rfl
theorem mo_25 : MOk 25 := mB (mt3 (List.mem_of_getElem? (i := 171) rfl)) rfl
theorem mo_26 : MOk 26 := mB (mt3 (List.mem_of_getElem? (i := 184) rfl)) rfl
theorem mo_27 : MOk 27 := mB (mt3 (List.mem_of_getElem? (i := 187) rfl)) rfl
theorem mo_28 : MOk 28 := mB (mt3 (List.mem_of_getElem? (i := 190) rfl)) rfl
theorem mo_29 : MOk 29 := mB (mt3 (List.mem_of_getElem? (i := 194) rfl)) rfl
theorem mo_30 : MOk 30 := mB (mt3 (List.mem_of_getElem? (i := 198) rfl)) rfl
theorem mo_31 : MOk 31 := mB (mt3 (List.mem_of_getElem? (i := 180) rfl)) rfl
theorem mo_32 : MOk 32 := mB (mt3 (List.mem_of_getElem? (i := 105) rfl)) rfl
theorem mo_33 : MOk 33 := mB (mt3 (List.mem_of_getElem? (i := 207) rfl)) rfl
theorem mo_34 : MOk 34 := mB (mt3 (List.mem_of_getElem? (i := 120) rfl)) rfl
theorem mo_35 : MOk 35 := mB (mt2 (List.mem_of_getElem? (i := 222) rfl)) rfl
theorem mo_36 : MOk 36 := mB (mt3 (List.mem_of_getElem? (i := 129) rfl)) rfl
theorem mo_37 : MOk 37 := mB (mt2 (List.mem_of_getElem? (i := 226) rfl)) rfl
theorem mo_38 : MOk 38 := mB (mt3 (List.mem_of_getElem? (i := 4) rfl)) rfl
theorem mo_39 : MOk 39 := mB (mt3 (List.mem_of_getElem? (i := 202) rfl)) rfl
theorem mo_40 : MOk 40 := mB (mt3 (List.mem_of_getElem? (i := 223) rfl)) rfl
theorem mo_41 : MOk 41 := mB (mt3 (List.mem_of_getElem? (i := 227) rfl)) rfl
theorem mo_42 : MOk 42 := mB (mt3 (List.mem_of_getElem? (i := 219) rfl)) rfl
theorem mo_43 : MOk 43 := mB (mt3 (List.mem_of_getElem? (i := 215) rfl)) rfl
theorem mo_44 : MOk 44 := mB (mt3 (List.mem_of_getElem? (i := 211) rfl)) rfl
theorem mo_45 : MOk 45 := mB (mt4 (List.mem_of_getElem? (i := 44) rfl)) rfl
theorem mo_46 : MOk 46 := mB (mt2 (List.mem_of_getElem? (i := 205) rfl)) rfl
theorem mo_47 : MOk 47 := mB (mt4 (List.mem_of_getElem? (i := 121) rfl)) rfl
theorem mo_48 : MOk 48 := mB (mt2 (List.mem_of_getElem? (i := 217) rfl)) rfl
theorem mo_49 : MOk 49 := mB (mt3 (List.mem_of_getElem? (i := 90) rfl)) rfl
theorem mo_50 : MOk 50 := mB (mt3 (List.mem_of_getElem? (i := 44) rfl)) rfl
theorem mo_51 : MOk 51 := mB (mt3 (List.mem_of_getElem? (i := 109) rfl)) rfl
theorem mo_52 : MOk 52 := mB (mt3 (List.mem_of_getElem? (i := 113) rfl)) rfl
theorem mo_53 : MOk 53 := mB (mt3 (List.mem_of_getElem? (i := 94) rfl)) rfl
theorem mo_54 : MOk 54 := mB (mt2 (List.mem_of_getElem? (i := 173) rfl)) rfl
theorem mo_55 : MOk 55 := mB (mt2 (List.mem_of_getElem? (i := 181) rfl)) rfl
theorem mo_56 : MOk 56 := mB (mt2 (List.mem_of_getElem? (i := 193) rfl)) rfl
theorem mo_57 : MOk 57 := mB (mt2 (List.mem_of_getElem? (i := 189) rfl)) rfl
theorem mo_58 : MOk 58 := mB (mt2 (List.mem_of_getElem? (i := 201) rfl)) rfl
theorem mo_59 : MOk 59 := mB (mt2 (List.mem_of_getElem? (i := 213) rfl)) rfl
theorem mo_60 : MOk 60 := mB (mt3 (List.mem_of_getElem? (i := 74) rfl)) rfl
theorem mo_61 : MOk 61 := mB (mt3 (List.mem_of_getElem? (i := 151) rfl)) rfl
theorem mo_62 : MOk 62 := mB (mt3 (List.mem_of_getElem? (i := 0) rfl)) rfl
theorem mo_63 : MOk 63 := mB (mt3 (List.mem_of_getElem? (i := 175) rfl)) rfl
theorem mo_64 : MOk 64 := mB (mt3 (List.mem_of_getElem? (i := 167) rfl)) rfl
theorem mo_65 : MOk 65 := mB (mt2 (List.mem_of_getElem? (i := 169) rfl)) rfl
theorem mo_66 : MOk 66 := mB (mt2 (List.mem_of_getElem? (i := 177) rfl)) rfl
theorem mo_67 : MOk 67 := mB (mt2 (List.mem_of_getElem? (i := 185) rfl)) rfl
theorem mo_68 : MOk 68 := mB (mt3 (List.mem_of_getElem? (i := 8) rfl)) rfl
theorem mo_69 : MOk 69 := mB (mt4 (List.mem_of_getElem? (i := 150) rfl)) rfl
theorem mo_70 : MOk 70 := mB (mt3 (List.mem_of_getElem? (i := 14) rfl)) rfl
theorem mo_71 : MOk 71 := mB (mt3 (List.mem_of_getElem? (i := 48) rfl)) rfl
theorem mo_72 : MOk 72 := mB (mt3 (List.mem_of_getElem? (i := 58) rfl)) rfl
theorem mo_73 : MOk 73 := mB (mt3 (List.mem_of_getElem? (i := 231) rfl)) rfl
theorem mo_74 : MOk 74 := mB (mt4 (List.mem_of_getElem? (i := 218) rfl)) rfl
theorem mo_75 : MOk 75 := mB (mt4 (List.mem_of_getElem? (i := 227) rfl)) rfl
theorem mo_76 : MOk 76 := mB (mt4 (List.mem_of_getElem? (i := 235) rfl)) rfl
theorem mo_77 : MOk 77 := mB (mt3 (List.mem_of_getElem? (i := 239) rfl)) rfl
theorem mo_78 : MOk 78 := mB (mt4 (List.mem_of_getElem? (i := 7) rfl)) rfl
theorem mo_79 : MOk 79 := mB (mt4 (List.mem_of_getElem? (i := 12) rfl)) rfl
theorem mo_80 : MOk 80 := mB (mt4 (List.mem_of_getElem? (i := 16) rfl)) rfl
theorem mo_81 : MOk 81 := mB (mt4 (List.mem_of_getElem? (i := 20) rfl)) rfl
theorem mo_82 : MOk 82 := mB (mt5 (List.mem_of_getElem? (i := 2) rfl)) rfl
theorem mo_83 : MOk 83 := mB (mt4 (List.mem_of_getElem? (i := 27) rfl)) rfl
theorem mo_84 : MOk 84 := mB (mt4 (List.mem_of_getElem? (i := 31) rfl)) rfl
theorem mo_85 : MOk 85 := mB (mt4 (List.mem_of_getElem? (i := 36) rfl)) rfl
theorem mo_86 : MOk 86 := mB (mt4 (List.mem_of_getElem? (i := 40) rfl)) rfl
theorem mo_87 : MOk 87 := mB (mt4 (List.mem_of_getElem? (i := 48) rfl)) rfl
theorem mo_88 : MOk 88 := mB (mt4 (List.mem_of_getElem? (i := 52) rfl)) rfl
theorem mo_89 : MOk 89 := mB (mt4 (List.mem_of_getElem? (i := 62) rfl)) rfl
theorem mo_90 : MOk 90 := mB (mt4 (List.mem_of_getElem? (i := 67) rfl)) rfl
theorem mo_91 : MOk 91 := mB (mt4 (List.mem_of_getElem? (i := 76) rfl)) rfl
theorem mo_92 : MOk 92 := mB (mt4 (List.mem_of_getElem? (i := 80) rfl)) rfl
theorem mo_93 : MOk 93 := mB (mt4 (List.mem_of_getElem? (i := 84) rfl)) rfl
theorem mo_94 : MOk 94 := mB (mt4 (List.mem_of_getElem? (i := 96) rfl)) rfl
theorem mo_95 : MOk 95 := mB (mt4 (List.mem_of_getElem? (i := 117) rfl)) rfl
theorem mo_96 : MOk 96 := mB (mt4 (List.mem_of_getElem? (i := 125) rfl)) rfl
theorem mo_97 : MOk 97 := mB (mt4 (List.mem_of_getElem? (i := 134) rfl)) rfl
theorem mo_98 : MOk 98 := mB (mt4 (List.mem_of_getElem? (i := 138) rfl)) rfl
theorem mo_99 : MOk 99 := mB (mt4 (List.mem_of_getElem? (i := 142) rfl)) rfl
theorem mo_100 : MOk 100 := mB (mt5 (List.mem_of_getElem? (i := 9) rfl)) rfl
theorem mo_101 : MOk 101 := mB (mt4 (List.mem_of_getElem? (i := 3) rfl)) rfl
theorem mo_102 : MOk 102 := mB (mt3 (List.mem_of_getElem? (i := 17) rfl)) rfl
theorem mo_103 : MOk 103 := mB (mt2 (List.mem_of_getElem? (i := 197) rfl)) rfl
theorem mo_104 : MOk 104 := mB (mt3 (List.mem_of_getElem? (i := 28) rfl)) rfl
theorem mo_105 : MOk 105 := mB (mt3 (List.mem_of_getElem? (i := 32) rfl)) rfl
theorem mo_106 : MOk 106 := mB (mt4 (List.mem_of_getElem? (i := 55) rfl)) rfl
theorem mo_107 : MOk 107 := mB (mt4 (List.mem_of_getElem? (i := 58) rfl)) rfl
theorem mo_108 : MOk 108 := mB (mt4 (List.mem_of_getElem? (i := 88) rfl)) rfl
theorem mo_109 : MOk 109 := mB (mt4 (List.mem_of_getElem? (i := 109) rfl)) rfl
theorem mo_110 : MOk 110 := mB (mt4 (List.mem_of_getElem? (i := 100) rfl)) rfl
theorem mo_111 : MOk 111 := mB (mt4 (List.mem_of_getElem? (i := 104) rfl)) rfl
theorem mo_112 : MOk 112 := mB (mt4 (List.mem_of_getElem? (i := 113) rfl)) rfl
theorem mo_113 : MOk 113 := mB (mt4 (List.mem_of_getElem? (i := 130) rfl)) rfl
theorem mo_114 : MOk 114 := mB (mt5 (List.mem_of_getElem? (i := 86) rfl)) rfl
theorem mo_115 : MOk 115 := mB (mt5 (List.mem_of_getElem? (i := 97) rfl)) rfl
theorem mo_116 : MOk 116 := mB (mt5 (List.mem_of_getElem? (i := 219) rfl)) rfl
theorem mo_117 : MOk 117 := mB (mt5 (List.mem_of_getElem? (i := 155) rfl)) rfl
theorem mo_118 : MOk 118 := mB (mt6 (List.mem_of_getElem? (i := 73) rfl)) rfl
theorem mo_119 : MOk 119 := mB (mt6 (List.mem_of_getElem? (i := 161) rfl)) rfl
theorem mo_120 : MOk 120 := mB (mt6 (List.mem_of_getElem? (i := 144) rfl)) rfl
theorem mo_121 : MOk 121 := mB (mt5 (List.mem_of_getElem? (i := 196) rfl)) rfl
theorem mo_122 : MOk 122 := mB (mt5 (List.mem_of_getElem? (i := 162) rfl)) rfl
theorem mo_123 : MOk 123 := mB (mt5 (List.mem_of_getElem? (i := 177) rfl)) rfl
theorem mo_124 : MOk 124 := mB (mt5 (List.mem_of_getElem? (i := 173) rfl)) rfl
theorem mo_125 : MOk 125 := mB (mt5 (List.mem_of_getElem? (i := 140) rfl)) rfl
theorem mo_126 : MOk 126 := mB (mt5 (List.mem_of_getElem? (i := 184) rfl)) rfl
theorem mo_127 : MOk 127 := mB (mt5 (List.mem_of_getElem? (i := 169) rfl)) rfl
theorem mo_128 : MOk 128 := mB (mt6 (List.mem_of_getElem? (i := 15) rfl)) rfl
theorem mo_129 : MOk 129 := mB (mt5 (List.mem_of_getElem? (i := 90) rfl)) rfl
theorem mo_130 : MOk 130 := mB (mt5 (List.mem_of_getElem? (i := 94) rfl)) rfl
theorem mo_131 : MOk 131 := mB (mt5 (List.mem_of_getElem? (i := 105) rfl)) rfl
theorem mo_132 : MOk 132 := mB (mt5 (List.mem_of_getElem? (i := 117) rfl)) rfl
theorem mo_133 : MOk 133 := mB (mt5 (List.mem_of_getElem? (i := 113) rfl)) rfl
theorem mo_134 : MOk 134 := mB (mt5 (List.mem_of_getElem? (i := 121) rfl)) rfl
theorem mo_135 : MOk 135 := mB (mt5 (List.mem_of_getElem? (i := 109) rfl)) rfl
theorem mo_136 : MOk 136 := mB (mt6 (List.mem_of_getElem? (i := 214) rfl)) rfl
theorem mo_137 : MOk 137 := mB (mt5 (List.mem_of_getElem? (i := 129) rfl)) rfl
theorem mo_138 : MOk 138 := mB (mt5 (List.mem_of_getElem? (i := 125) rfl)) rfl
theorem mo_139 : MOk 139 := mB (mt5 (List.mem_of_getElem? (i := 101) rfl)) rfl
theorem mo_140 : MOk 140 := mB (mt5 (List.mem_of_getElem? (i := 147) rfl)) rfl
theorem mo_141 : MOk 141 := mB (mt5 (List.mem_of_getElem? (i := 144) rfl)) rfl
theorem mo_142 : MOk 142 := mB (mt5 (List.mem_of_getElem? (i := 151) rfl)) rfl
theorem mo_143 : MOk 143 := mB (mt5 (List.mem_of_getElem? (i := 166) rfl)) rfl
theorem mo_144 : MOk 144 := mB (mt5 (List.mem_of_getElem? (i := 159) rfl)) rfl
theorem mo_145 : MOk 145 := mB (mt5 (List.mem_of_getElem? (i := 181) rfl)) rfl
theorem mo_146 : MOk 146 := mB (mt6 (List.mem_of_getElem? (i := 6) rfl)) rfl
theorem mo_147 : MOk 147 := mB (mt5 (List.mem_of_getElem? (i := 192) rfl)) rfl
theorem mo_148 : MOk 148 := mB (mt5 (List.mem_of_getElem? (i := 188) rfl)) rfl
theorem mo_149 : MOk 149 := mB (mt5 (List.mem_of_getElem? (i := 216) rfl)) rfl
theorem mo_150 : MOk 150 := mB (mt5 (List.mem_of_getElem? (i := 223) rfl)) rfl
theorem mo_151 : MOk 151 := mB (mt5 (List.mem_of_getElem? (i := 234) rfl)) rfl
theorem mo_152 : MOk 152 := mB (mt6 (List.mem_of_getElem? (i := 11) rfl)) rfl
theorem mo_153 : MOk 153 := mB (mt6 (List.mem_of_getElem? (i := 2) rfl)) rfl
theorem mo_154 : MOk 154 := mB (mt5 (List.mem_of_getElem? (i := 238) rfl)) rfl
theorem mo_155 : MOk 155 := mB (mt5 (List.mem_of_getElem? (i := 230) rfl)) rfl
theorem mo_156 : MOk 156 := mB (mt5 (List.mem_of_getElem? (i := 227) rfl)) rfl
theorem mo_157 : MOk 157 := mB (mt5 (List.mem_of_getElem? (i := 212) rfl)) rfl
theorem mo_158 : MOk 158 := mB (mt6 (List.mem_of_getElem? (i := 20) rfl)) rfl
theorem mo_159 : MOk 159 := mB (mt6 (List.mem_of_getElem? (i := 28) rfl)) rfl
theorem mo_160 : MOk 160 := mB (mt6 (List.mem_of_getElem? (i := 24) rfl)) rfl
theorem mo_161 : MOk 161 := mB (mt6 (List.mem_of_getElem? (i := 48) rfl)) rfl
theorem mo_162 : MOk 162 := mB (mt6 (List.mem_of_getElem? (i := 44) rfl)) rfl
theorem mo_163 : MOk 163 := mB (mt6 (List.mem_of_getElem? (i := 52) rfl)) rfl
theorem mo_164 : MOk 164 := mB (mt6 (List.mem_of_getElem? (i := 56) rfl)) rfl
theorem mo_165 : MOk 165 := mB (mt6 (List.mem_of_getElem? (i := 61) rfl)) rfl
theorem mo_166 : MOk 166 := mB (mt6 (List.mem_of_getElem? (i := 65) rfl)) rfl
theorem mo_167 : MOk 167 := mB (mt6 (List.mem_of_getElem? (i := 40) rfl)) rfl
theorem mo_168 : MOk 168 := mB (mt6 (List.mem_of_getElem? (i := 69) rfl)) rfl
theorem mo_169 : MOk 169 := mB (mt6 (List.mem_of_getElem? (i := 32) rfl)) rfl
theorem mo_170 : MOk 170 := mB (mt5 (List.mem_of_getElem? (i := 208) rfl)) rfl
theorem mo_171 : MOk 171 := mB (mt5 (List.mem_of_getElem? (i := 204) rfl)) rfl
theorem mo_172 : MOk 172 := mB (mt5 (List.mem_of_getElem? (i := 200) rfl)) rfl
theorem mo_173 : MOk 173 := mB (mt6 (List.mem_of_getElem? (i := 81) rfl)) rfl
theorem mo_174 : MOk 174 := mB (mt6 (List.mem_of_getElem? (i := 77) rfl)) rfl
theorem mo_175 : MOk 175 := mB (mt6 (List.mem_of_getElem? (i := 36) rfl)) rfl
theorem mo_176 : MOk 176 := mB (mt6 (List.mem_of_getElem? (i := 178) rfl)) rfl
theorem mo_177 : MOk 177 := mB (mt6 (List.mem_of_getElem? (i := 89) rfl)) rfl
theorem mo_178 : MOk 178 := mB (mt6 (List.mem_of_getElem? (i := 85) rfl)) rfl
theorem mo_179 : MOk 179 := mB (mt6 (List.mem_of_getElem? (i := 93) rfl)) rfl
theorem mo_180 : MOk 180 := mB (mt6 (List.mem_of_getElem? (i := 97) rfl)) rfl
theorem mo_181 : MOk 181 := mB (mt6 (List.mem_of_getElem? (i := 101) rfl)) rfl
theorem mo_182 : MOk 182 := mB (mt6 (List.mem_of_getElem? (i := 105) rfl)) rfl
theorem mo_183 : MOk 183 := mB (mt6 (List.mem_of_getElem? (i := 109) rfl)) rfl
theorem mo_184 : MOk 184 := mB (mt6 (List.mem_of_getElem? (i := 113) rfl)) rfl
theorem mo_185 : MOk 185 := mB (mt6 (List.mem_of_getElem? (i := 117) rfl)) rfl
theorem mo_186 : MOk 186 := mB (mt6 (List.mem_of_getElem? (i := 121) rfl)) rfl
theorem mo_187 : MOk 187 := mB (mt6 (List.mem_of_getElem? (i := 125) rfl)) rfl
theorem mo_188 : MOk 188 := mB (mt6 (List.mem_of_getElem? (i := 129) rfl)) rfl
theorem mo_189 : MOk 189 := mB (mt6 (List.mem_of_getElem? (i := 133) rfl)) rfl
theorem mo_190 : MOk 190 := mB (mt6 (List.mem_of_getElem? (i := 137) rfl)) rfl
theorem mo_191 : MOk 191 := mB (mt6 (List.mem_of_getElem? (i := 141) rfl)) rfl
theorem mo_192 : MOk 192 := mB (mt6 (List.mem_of_getElem? (i := 148) rfl)) rfl
theorem mo_193 : MOk 193 := mB (mt6 (List.mem_of_getElem? (i := 158) rfl)) rfl
theorem mo_194 : MOk 194 := mB (mt6 (List.mem_of_getElem? (i := 155) rfl)) rfl
theorem mo_195 : MOk 195 := mB (mt6 (List.mem_of_getElem? (i := 152) rfl)) rfl
theorem mo_196 : MOk 196 := mB (mt6 (List.mem_of_getElem? (i := 165) rfl)) rfl
theorem mo_197 : MOk 197 := mB (mt6 (List.mem_of_getElem? (i := 174) rfl)) rfl
theorem mo_198 : MOk 198 := mB (mt6 (List.mem_of_getElem? (i := 182) rfl)) rfl
theorem mo_199 : MOk 199 := mB (mt6 (List.mem_of_getElem? (i := 170) rfl)) rfl
theorem mo_200 : MOk 200 := mB (mt6 (List.mem_of_getElem? (i := 190) rfl)) rfl
theorem mo_201 : MOk 201 := mB (mt6 (List.mem_of_getElem? (i := 186) rfl)) rfl
theorem mo_202 : MOk 202 := mB (mt6 (List.mem_of_getElem? (i := 194) rfl)) rfl
theorem mo_203 : MOk 203 := mB (mt6 (List.mem_of_getElem? (i := 202) rfl)) rfl
theorem mo_204 : MOk 204 := mB (mt6 (List.mem_of_getElem? (i := 198) rfl)) rfl
theorem mo_205 : MOk 205 := mB (mt6 (List.mem_of_getElem? (i := 210) rfl)) rfl
theorem mo_206 : MOk 206 := mB (mt6 (List.mem_of_getElem? (i := 218) rfl)) rfl
theorem mo_207 : MOk 207 := mB (mt6 (List.mem_of_getElem? (i := 206) rfl)) rfl
theorem mo_208 : MOk 208 := mB (mt5 (List.mem_of_getElem? (i := 133) rfl)) rfl
theorem mo_209 : MOk 209 := mB (mt5 (List.mem_of_getElem? (i := 137) rfl)) rfl
theorem mo_210 : MOk 210 := mB (mt6 (List.mem_of_getElem? (i := 222) rfl)) rfl
theorem mo_211 : MOk 211 := mB (mt6 (List.mem_of_getElem? (i := 230) rfl)) rfl
theorem mo_212 : MOk 212 := mB (mt6 (List.mem_of_getElem? (i := 226) rfl)) rfl
theorem mo_213 : MOk 213 := mB (mt6 (List.mem_of_getElem? (i := 234) rfl)) rfl
theorem mo_214 : MOk 214 := mB (mt6 (List.mem_of_getElem? (i := 238) rfl)) rfl
theorem mo_215 : MOk 215 := mB (mt7 (List.mem_of_getElem? (i := 6) rfl)) rfl
theorem mo_216 : MOk 216 := mB (mt7 (List.mem_of_getElem? (i := 2) rfl)) rfl
theorem mo_217 : MOk 217 := mB (mt7 (List.mem_of_getElem? (i := 10) rfl)) rfl
theorem mo_218 : MOk 218 := mB (mt3 (List.mem_of_getElem? (i := 136) rfl)) rfl
def MLok (r : Nat × Nat × Nat × Nat × Nat) : Prop := match r.2.2.2.1 with
  | 0 => Cond.methodLink (cn r.1) r.2.1 (mrow r.2.2.1).1 ∈ mBig ∧ Cond.instanceMethod (mrow r.2.2.1).1 ∈ mBig ∧ Cond.selects (mrow r.2.2.1).1.cls (mrow r.2.2.1).1 (mrow r.2.2.1).1 ∈ mBig ∧ Cond.initialized (mrow r.2.2.1).1.cls ∈ mBig ∧ ((mrow r.2.2.1).1.cls ≠ "java/lang/invoke/MethodHandle" ∧ (mrow r.2.2.1).1.cls ≠ "java/lang/invoke/VarHandle" ∧ (parseMethodDescriptor (mrow r.2.2.1).1.desc).map (fun d => d.parameters.length + 1) = some r.2.2.2.2) ∧ MOk r.2.2.1 ∧ (mrow r.2.2.1).1.cls = cn (mrow r.2.2.1).2.2.2.2.1
  | _ => (Cond.methodLink (cn r.1) r.2.1 (mrow r.2.2.1).1 ∈ mBig ∨ Cond.methodLinkNest (cn r.1) r.2.1 (mrow r.2.2.1).1 "SharedAir" ∈ tables_1) ∧ Cond.static (mrow r.2.2.1).1 ∈ mBig ∧ Cond.initialized (mrow r.2.2.1).1.cls ∈ mBig ∧ ((mrow r.2.2.1).1.cls ≠ "java/lang/invoke/MethodHandle" ∧ (mrow r.2.2.1).1.cls ≠ "java/lang/invoke/VarHandle" ∧ (parseMethodDescriptor (mrow r.2.2.1).1.desc).map (fun d => d.parameters.length) = some r.2.2.2.2) ∧ MOk r.2.2.1 ∧ (mrow r.2.2.1).1.cls = cn (mrow r.2.2.1).2.2.2.2.1
theorem ml_0 : MLok (0, 45, 59, 0, 2) := ⟨mB (mt2 (List.mem_of_getElem? (i := 210) (by decide +kernel))) rfl, mB (mt2 (List.mem_of_getElem? (i := 211) (by decide +kernel))) rfl, mB (mt2 (List.mem_of_getElem? (i := 212) (by decide +kernel))) rfl, mB (mt1 (List.mem_of_getElem? (i := 5) (by decide +kernel))) rfl, ⟨by decide +kernel, by decide +kernel, by decide +kernel⟩, mo_59, rfl⟩
theorem ml_1 : MLok (0, 77, 2, 0, 3) := ⟨mB (mt2 (List.mem_of_getElem? (i := 233) (by decide +kernel))) rfl, mB (mt2 (List.mem_of_getElem? (i := 235) (by decide +kernel))) rfl, mB (List.mem_append_left _ (List.mem_of_getElem? (i := 1) (by decide +kernel))) rfl, mB (mt1 (List.mem_of_getElem? (i := 2) (by decide +kernel))) rfl, ⟨by decide +kernel, by decide +kernel, by decide +kernel⟩, mo_2, rfl⟩
theorem ml_2 : MLok (0, 129, 62, 0, 3) := ⟨mB (mt2 (List.mem_of_getElem? (i := 237) (by decide +kernel))) rfl, mB (mt2 (List.mem_of_getElem? (i := 238) (by decide +kernel))) rfl, mB (mt2 (List.mem_of_getElem? (i := 239) (by decide +kernel))) rfl, mB (mt1 (List.mem_of_getElem? (i := 5) (by decide +kernel))) rfl, ⟨by decide +kernel, by decide +kernel, by decide +kernel⟩, mo_62, rfl⟩
theorem ml_3 : MLok (0, 137, 38, 0, 1) := ⟨mB (mt3 (List.mem_of_getElem? (i := 1) (by decide +kernel))) rfl, mB (mt3 (List.mem_of_getElem? (i := 2) (by decide +kernel))) rfl, mB (mt3 (List.mem_of_getElem? (i := 3) (by decide +kernel))) rfl, mB (mt1 (List.mem_of_getElem? (i := 7) (by decide +kernel))) rfl, ⟨by decide +kernel, by decide +kernel, by decide +kernel⟩, mo_38, rfl⟩
theorem ml_4 : MLok (0, 145, 61, 0, 1) := ⟨mB (mt3 (List.mem_of_getElem? (i := 148) (by decide +kernel))) rfl, mB (mt3 (List.mem_of_getElem? (i := 149) (by decide +kernel))) rfl, mB (mt3 (List.mem_of_getElem? (i := 150) (by decide +kernel))) rfl, mB (mt1 (List.mem_of_getElem? (i := 5) (by decide +kernel))) rfl, ⟨by decide +kernel, by decide +kernel, by decide +kernel⟩, mo_61, rfl⟩
theorem ml_5 : MLok (0, 149, 102, 1, 1) := ⟨Or.inr (mu3 (List.mem_of_getElem? (i := 53) (by decide +kernel))), mB (mt3 (List.mem_of_getElem? (i := 16) (by decide +kernel))) rfl, mB (mt1 (List.mem_of_getElem? (i := 1) (by decide +kernel))) rfl, ⟨by decide +kernel, by decide +kernel, by decide +kernel⟩, mo_102, rfl⟩
theorem ml_6 : MLok (0, 153, 3, 0, 3) := ⟨mB (mt3 (List.mem_of_getElem? (i := 54) (by decide +kernel))) rfl, mB (mt3 (List.mem_of_getElem? (i := 34) (by decide +kernel))) rfl, mB (mt3 (List.mem_of_getElem? (i := 35) (by decide +kernel))) rfl, mB (mt1 (List.mem_of_getElem? (i := 2) (by decide +kernel))) rfl, ⟨by decide +kernel, by decide +kernel, by decide +kernel⟩, mo_3, rfl⟩
theorem ml_7 : MLok (0, 157, 50, 0, 4) := ⟨mB (mt3 (List.mem_of_getElem? (i := 41) (by decide +kernel))) rfl, mB (mt3 (List.mem_of_getElem? (i := 42) (by decide +kernel))) rfl, mB (mt3 (List.mem_of_getElem? (i := 43) (by decide +kernel))) rfl, mB (mt1 (List.mem_of_getElem? (i := 8) (by decide +kernel))) rfl, ⟨by decide +kernel, by decide +kernel, by decide +kernel⟩, mo_50, rfl⟩
theorem ml_8 : MLok (0, 164, 34, 0, 2) := ⟨mB (mt3 (List.mem_of_getElem? (i := 117) (by decide +kernel))) rfl, mB (mt3 (List.mem_of_getElem? (i := 118) (by decide +kernel))) rfl, mB (mt3 (List.mem_of_getElem? (i := 119) (by decide +kernel))) rfl, mB (mt1 (List.mem_of_getElem? (i := 3) (by decide +kernel))) rfl, ⟨by decide +kernel, by decide +kernel, by decide +kernel⟩, mo_34, rfl⟩
theorem ml_9 : MLok (0, 168, 14, 0, 1) := ⟨mB (mt3 (List.mem_of_getElem? (i := 67) (by decide +kernel))) rfl, mB (mt3 (List.mem_of_getElem? (i := 69) (by decide +kernel))) rfl, mB (List.mem_append_left _ (List.mem_of_getElem? (i := 3) (by decide +kernel))) rfl, mB (mt1 (List.mem_of_getElem? (i := 2) (by decide +kernel))) rfl, ⟨by decide +kernel, by decide +kernel, by decide +kernel⟩, mo_14, rfl⟩
theorem ml_10 : MLok (0, 171, 60, 0, 1) := ⟨mB (mt3 (List.mem_of_getElem? (i := 71) (by decide +kernel))) rfl, mB (mt3 (List.mem_of_getElem? (i := 72) (by decide +kernel))) rfl, mB (mt3 (List.mem_of_getElem? (i := 73) (by decide +kernel))) rfl, mB (mt1 (List.mem_of_getElem? (i := 5) (by decide +kernel))) rfl, ⟨by decide +kernel, by decide +kernel, by decide +kernel⟩, mo_60, rfl⟩
theorem ml_11 : MLok (0, 175, 15, 0, 2) := ⟨mB (mt3 (List.mem_of_getElem? (i := 75) (by decide +kernel))) rfl, mB (mt3 (List.mem_of_getElem? (i := 77) (by decide +kernel))) rfl, mB (List.mem_append_left _ (List.mem_of_getElem? (i := 4) (by decide +kernel))) rfl, mB (mt1 (List.mem_of_getElem? (i := 2) (by decide +kernel))) rfl, ⟨by decide +kernel, by decide +kernel, by decide +kernel⟩, mo_15, rfl⟩
theorem ml_12 : MLok (0, 179, 18, 0, 1) := ⟨mB (mt3 (List.mem_of_getElem? (i := 122) (by decide +kernel))) rfl, mB (mt3 (List.mem_of_getElem? (i := 124) (by decide +kernel))) rfl, mB (List.mem_append_left _ (List.mem_of_getElem? (i := 7) (by decide +kernel))) rfl, mB (mt1 (List.mem_of_getElem? (i := 2) (by decide +kernel))) rfl, ⟨by decide +kernel, by decide +kernel, by decide +kernel⟩, mo_18, rfl⟩
theorem ml_13 : MLok (0, 182, 21, 0, 1) := ⟨mB (mt3 (List.mem_of_getElem? (i := 130) (by decide +kernel))) rfl, mB (mt3 (List.mem_of_getElem? (i := 132) (by decide +kernel))) rfl, mB (List.mem_append_left _ (List.mem_of_getElem? (i := 8) (by decide +kernel))) rfl, mB (mt1 (List.mem_of_getElem? (i := 2) (by decide +kernel))) rfl, ⟨by decide +kernel, by decide +kernel, by decide +kernel⟩, mo_21, rfl⟩
theorem ml_14 : MLok (0, 185, 22, 0, 1) := ⟨mB (mt3 (List.mem_of_getElem? (i := 144) (by decide +kernel))) rfl, mB (mt3 (List.mem_of_getElem? (i := 146) (by decide +kernel))) rfl, mB (List.mem_append_left _ (List.mem_of_getElem? (i := 10) (by decide +kernel))) rfl, mB (mt1 (List.mem_of_getElem? (i := 2) (by decide +kernel))) rfl, ⟨by decide +kernel, by decide +kernel, by decide +kernel⟩, mo_22, rfl⟩
theorem ml_15 : MLok (0, 194, 24, 0, 4) := ⟨mB (mt3 (List.mem_of_getElem? (i := 152) (by decide +kernel))) rfl, mB (mt3 (List.mem_of_getElem? (i := 154) (by decide +kernel))) rfl, mB (List.mem_append_left _ (List.mem_of_getElem? (i := 11) (by decide +kernel))) rfl, mB (mt1 (List.mem_of_getElem? (i := 2) (by decide +kernel))) rfl, ⟨by decide +kernel, by decide +kernel, by decide +kernel⟩, mo_24, rfl⟩
theorem ml_16 : MLok (0, 198, 25, 0, 4) := ⟨mB (mt3 (List.mem_of_getElem? (i := 168) (by decide +kernel))) rfl, mB (mt3 (List.mem_of_getElem? (i := 170) (by decide +kernel))) rfl, mB (List.mem_append_left _ (List.mem_of_getElem? (i := 14) (by decide +kernel))) rfl, mB (mt1 (List.mem_of_getElem? (i := 2) (by decide +kernel))) rfl, ⟨by decide +kernel, by decide +kernel, by decide +kernel⟩, mo_25, rfl⟩
theorem ml_17 : MLok (0, 201, 26, 0, 4) := ⟨mB (mt3 (List.mem_of_getElem? (i := 181) (by decide +kernel))) rfl, mB (mt3 (List.mem_of_getElem? (i := 183) (by decide +kernel))) rfl, mB (List.mem_append_left _ (List.mem_of_getElem? (i := 16) (by decide +kernel))) rfl, mB (mt1 (List.mem_of_getElem? (i := 2) (by decide +kernel))) rfl, ⟨by decide +kernel, by decide +kernel, by decide +kernel⟩, mo_26, rfl⟩
theorem ml_18 : MLok (0, 204, 29, 0, 4) := ⟨mB (mt3 (List.mem_of_getElem? (i := 191) (by decide +kernel))) rfl, mB (mt3 (List.mem_of_getElem? (i := 193) (by decide +kernel))) rfl, mB (List.mem_append_left _ (List.mem_of_getElem? (i := 17) (by decide +kernel))) rfl, mB (mt1 (List.mem_of_getElem? (i := 2) (by decide +kernel))) rfl, ⟨by decide +kernel, by decide +kernel, by decide +kernel⟩, mo_29, rfl⟩
theorem ml_19 : MLok (0, 207, 33, 0, 2) := ⟨mB (mt3 (List.mem_of_getElem? (i := 204) (by decide +kernel))) rfl, mB (mt3 (List.mem_of_getElem? (i := 206) (by decide +kernel))) rfl, mB (List.mem_append_left _ (List.mem_of_getElem? (i := 19) (by decide +kernel))) rfl, mB (mt1 (List.mem_of_getElem? (i := 2) (by decide +kernel))) rfl, ⟨by decide +kernel, by decide +kernel, by decide +kernel⟩, mo_33, rfl⟩
theorem ml_20 : MLok (0, 210, 12, 0, 3) := ⟨mB (mt3 (List.mem_of_getElem? (i := 79) (by decide +kernel))) rfl, mB (mt3 (List.mem_of_getElem? (i := 80) (by decide +kernel))) rfl, mB (mt3 (List.mem_of_getElem? (i := 81) (by decide +kernel))) rfl, mB (mt1 (List.mem_of_getElem? (i := 2) (by decide +kernel))) rfl, ⟨by decide +kernel, by decide +kernel, by decide +kernel⟩, mo_12, rfl⟩
theorem ml_21 : MLok (0, 213, 16, 0, 3) := ⟨mB (mt3 (List.mem_of_getElem? (i := 83) (by decide +kernel))) rfl, mB (mt3 (List.mem_of_getElem? (i := 85) (by decide +kernel))) rfl, mB (List.mem_append_left _ (List.mem_of_getElem? (i := 5) (by decide +kernel))) rfl, mB (mt1 (List.mem_of_getElem? (i := 2) (by decide +kernel))) rfl, ⟨by decide +kernel, by decide +kernel, by decide +kernel⟩, mo_16, rfl⟩
theorem ml_22 : MLok (0, 216, 32, 0, 3) := ⟨mB (mt3 (List.mem_of_getElem? (i := 102) (by decide +kernel))) rfl, mB (mt3 (List.mem_of_getElem? (i := 104) (by decide +kernel))) rfl, mB (List.mem_append_left _ (List.mem_of_getElem? (i := 6) (by decide +kernel))) rfl, mB (mt1 (List.mem_of_getElem? (i := 2) (by decide +kernel))) rfl, ⟨by decide +kernel, by decide +kernel, by decide +kernel⟩, mo_32, rfl⟩
theorem ml_23 : MLok (0, 219, 49, 0, 3) := ⟨mB (mt3 (List.mem_of_getElem? (i := 87) (by decide +kernel))) rfl, mB (mt3 (List.mem_of_getElem? (i := 88) (by decide +kernel))) rfl, mB (mt3 (List.mem_of_getElem? (i := 89) (by decide +kernel))) rfl, mB (mt1 (List.mem_of_getElem? (i := 8) (by decide +kernel))) rfl, ⟨by decide +kernel, by decide +kernel, by decide +kernel⟩, mo_49, rfl⟩
theorem ml_24 : MLok (0, 226, 53, 0, 2) := ⟨mB (mt3 (List.mem_of_getElem? (i := 91) (by decide +kernel))) rfl, mB (mt3 (List.mem_of_getElem? (i := 92) (by decide +kernel))) rfl, mB (mt3 (List.mem_of_getElem? (i := 93) (by decide +kernel))) rfl, mB (mt1 (List.mem_of_getElem? (i := 8) (by decide +kernel))) rfl, ⟨by decide +kernel, by decide +kernel, by decide +kernel⟩, mo_53, rfl⟩
theorem ml_25 : MLok (0, 234, 17, 1, 2) := ⟨Or.inl (mB (mt3 (List.mem_of_getElem? (i := 96) (by decide +kernel))) rfl), mB (mt3 (List.mem_of_getElem? (i := 97) (by decide +kernel))) rfl, mB (mt1 (List.mem_of_getElem? (i := 2) (by decide +kernel))) rfl, ⟨by decide +kernel, by decide +kernel, by decide +kernel⟩, mo_17, rfl⟩
theorem ml_26 : MLok (0, 264, 36, 0, 1) := ⟨mB (mt3 (List.mem_of_getElem? (i := 126) (by decide +kernel))) rfl, mB (mt3 (List.mem_of_getElem? (i := 127) (by decide +kernel))) rfl, mB (mt3 (List.mem_of_getElem? (i := 128) (by decide +kernel))) rfl, mB (mt1 (List.mem_of_getElem? (i := 6) (by decide +kernel))) rfl, ⟨by decide +kernel, by decide +kernel, by decide +kernel⟩, mo_36, rfl⟩
theorem ml_27 : MLok (0, 270, 19, 0, 2) := ⟨mB (mt3 (List.mem_of_getElem? (i := 140) (by decide +kernel))) rfl, mB (mt3 (List.mem_of_getElem? (i := 142) (by decide +kernel))) rfl, mB (List.mem_append_left _ (List.mem_of_getElem? (i := 9) (by decide +kernel))) rfl, mB (mt1 (List.mem_of_getElem? (i := 2) (by decide +kernel))) rfl, ⟨by decide +kernel, by decide +kernel, by decide +kernel⟩, mo_19, rfl⟩
theorem ml_28 : MLok (0, 273, 218, 1, 1) := ⟨Or.inl (mB (mt3 (List.mem_of_getElem? (i := 134) (by decide +kernel))) rfl), mB (mt3 (List.mem_of_getElem? (i := 135) (by decide +kernel))) rfl, mB (mt1 (List.mem_of_getElem? (i := 18) (by decide +kernel))) rfl, ⟨by decide +kernel, by decide +kernel, by decide +kernel⟩, mo_218, rfl⟩
theorem ml_29 : MLok (0, 287, 20, 0, 3) := ⟨mB (mt3 (List.mem_of_getElem? (i := 156) (by decide +kernel))) rfl, mB (mt3 (List.mem_of_getElem? (i := 158) (by decide +kernel))) rfl, mB (List.mem_append_left _ (List.mem_of_getElem? (i := 12) (by decide +kernel))) rfl, mB (mt1 (List.mem_of_getElem? (i := 2) (by decide +kernel))) rfl, ⟨by decide +kernel, by decide +kernel, by decide +kernel⟩, mo_20, rfl⟩
theorem ml_30 : MLok (0, 290, 64, 0, 4) := ⟨mB (mt3 (List.mem_of_getElem? (i := 164) (by decide +kernel))) rfl, mB (mt3 (List.mem_of_getElem? (i := 165) (by decide +kernel))) rfl, mB (mt3 (List.mem_of_getElem? (i := 166) (by decide +kernel))) rfl, mB (mt1 (List.mem_of_getElem? (i := 5) (by decide +kernel))) rfl, ⟨by decide +kernel, by decide +kernel, by decide +kernel⟩, mo_64, rfl⟩
theorem ml_31 : MLok (0, 293, 23, 0, 6) := ⟨mB (mt3 (List.mem_of_getElem? (i := 160) (by decide +kernel))) rfl, mB (mt3 (List.mem_of_getElem? (i := 162) (by decide +kernel))) rfl, mB (List.mem_append_left _ (List.mem_of_getElem? (i := 13) (by decide +kernel))) rfl, mB (mt1 (List.mem_of_getElem? (i := 2) (by decide +kernel))) rfl, ⟨by decide +kernel, by decide +kernel, by decide +kernel⟩, mo_23, rfl⟩
theorem ml_32 : MLok (0, 297, 63, 0, 3) := ⟨mB (mt3 (List.mem_of_getElem? (i := 172) (by decide +kernel))) rfl, mB (mt3 (List.mem_of_getElem? (i := 173) (by decide +kernel))) rfl, mB (mt3 (List.mem_of_getElem? (i := 174) (by decide +kernel))) rfl, mB (mt1 (List.mem_of_getElem? (i := 5) (by decide +kernel))) rfl, ⟨by decide +kernel, by decide +kernel, by decide +kernel⟩, mo_63, rfl⟩
theorem ml_33 : MLok (0, 300, 31, 0, 3) := ⟨mB (mt3 (List.mem_of_getElem? (i := 177) (by decide +kernel))) rfl, mB (mt3 (List.mem_of_getElem? (i := 179) (by decide +kernel))) rfl, mB (List.mem_append_left _ (List.mem_of_getElem? (i := 15) (by decide +kernel))) rfl, mB (mt1 (List.mem_of_getElem? (i := 2) (by decide +kernel))) rfl, ⟨by decide +kernel, by decide +kernel, by decide +kernel⟩, mo_31, rfl⟩
theorem ml_34 : MLok (0, 307, 27, 1, 2) := ⟨Or.inl (mB (mt3 (List.mem_of_getElem? (i := 185) (by decide +kernel))) rfl), mB (mt3 (List.mem_of_getElem? (i := 186) (by decide +kernel))) rfl, mB (mt1 (List.mem_of_getElem? (i := 2) (by decide +kernel))) rfl, ⟨by decide +kernel, by decide +kernel, by decide +kernel⟩, mo_27, rfl⟩
theorem ml_35 : MLok (0, 311, 28, 1, 2) := ⟨Or.inl (mB (mt3 (List.mem_of_getElem? (i := 188) (by decide +kernel))) rfl), mB (mt3 (List.mem_of_getElem? (i := 189) (by decide +kernel))) rfl, mB (mt1 (List.mem_of_getElem? (i := 2) (by decide +kernel))) rfl, ⟨by decide +kernel, by decide +kernel, by decide +kernel⟩, mo_28, rfl⟩
theorem ml_36 : MLok (0, 318, 30, 0, 3) := ⟨mB (mt3 (List.mem_of_getElem? (i := 195) (by decide +kernel))) rfl, mB (mt3 (List.mem_of_getElem? (i := 197) (by decide +kernel))) rfl, mB (List.mem_append_left _ (List.mem_of_getElem? (i := 18) (by decide +kernel))) rfl, mB (mt1 (List.mem_of_getElem? (i := 2) (by decide +kernel))) rfl, ⟨by decide +kernel, by decide +kernel, by decide +kernel⟩, mo_30, rfl⟩
theorem ml_37 : MLok (0, 324, 39, 0, 3) := ⟨mB (mt3 (List.mem_of_getElem? (i := 199) (by decide +kernel))) rfl, mB (mt3 (List.mem_of_getElem? (i := 200) (by decide +kernel))) rfl, mB (mt3 (List.mem_of_getElem? (i := 201) (by decide +kernel))) rfl, mB (mt1 (List.mem_of_getElem? (i := 7) (by decide +kernel))) rfl, ⟨by decide +kernel, by decide +kernel, by decide +kernel⟩, mo_39, rfl⟩
theorem ml_38 : MLok (0, 327, 52, 0, 2) := ⟨mB (mt3 (List.mem_of_getElem? (i := 110) (by decide +kernel))) rfl, mB (mt3 (List.mem_of_getElem? (i := 111) (by decide +kernel))) rfl, mB (mt3 (List.mem_of_getElem? (i := 112) (by decide +kernel))) rfl, mB (mt1 (List.mem_of_getElem? (i := 8) (by decide +kernel))) rfl, ⟨by decide +kernel, by decide +kernel, by decide +kernel⟩, mo_52, rfl⟩
theorem ml_39 : MLok (0, 330, 51, 0, 2) := ⟨mB (mt3 (List.mem_of_getElem? (i := 106) (by decide +kernel))) rfl, mB (mt3 (List.mem_of_getElem? (i := 107) (by decide +kernel))) rfl, mB (mt3 (List.mem_of_getElem? (i := 108) (by decide +kernel))) rfl, mB (mt1 (List.mem_of_getElem? (i := 8) (by decide +kernel))) rfl, ⟨by decide +kernel, by decide +kernel, by decide +kernel⟩, mo_51, rfl⟩
theorem ml_40 : MLok (4, 19, 40, 0, 1) := ⟨mB (mt3 (List.mem_of_getElem? (i := 220) (by decide +kernel))) rfl, mB (mt3 (List.mem_of_getElem? (i := 221) (by decide +kernel))) rfl, mB (mt3 (List.mem_of_getElem? (i := 222) (by decide +kernel))) rfl, mB (mt1 (List.mem_of_getElem? (i := 11) (by decide +kernel))) rfl, ⟨by decide +kernel, by decide +kernel, by decide +kernel⟩, mo_40, rfl⟩
theorem ml_41 : MLok (4, 22, 41, 0, 2) := ⟨mB (mt3 (List.mem_of_getElem? (i := 224) (by decide +kernel))) rfl, mB (mt3 (List.mem_of_getElem? (i := 225) (by decide +kernel))) rfl, mB (mt3 (List.mem_of_getElem? (i := 226) (by decide +kernel))) rfl, mB (mt1 (List.mem_of_getElem? (i := 11) (by decide +kernel))) rfl, ⟨by decide +kernel, by decide +kernel, by decide +kernel⟩, mo_41, rfl⟩
theorem ml_42 : MLok (4, 26, 42, 0, 2) := ⟨mB (mt3 (List.mem_of_getElem? (i := 216) (by decide +kernel))) rfl, mB (mt3 (List.mem_of_getElem? (i := 217) (by decide +kernel))) rfl, mB (mt3 (List.mem_of_getElem? (i := 218) (by decide +kernel))) rfl, mB (mt1 (List.mem_of_getElem? (i := 11) (by decide +kernel))) rfl, ⟨by decide +kernel, by decide +kernel, by decide +kernel⟩, mo_42, rfl⟩
theorem ml_43 : MLok (4, 29, 43, 0, 3) := ⟨mB (mt3 (List.mem_of_getElem? (i := 212) (by decide +kernel))) rfl, mB (mt3 (List.mem_of_getElem? (i := 213) (by decide +kernel))) rfl, mB (mt3 (List.mem_of_getElem? (i := 214) (by decide +kernel))) rfl, mB (mt1 (List.mem_of_getElem? (i := 11) (by decide +kernel))) rfl, ⟨by decide +kernel, by decide +kernel, by decide +kernel⟩, mo_43, rfl⟩
theorem ml_44 : MLok (5, 22, 0, 0, 2) := ⟨mB (mt2 (List.mem_of_getElem? (i := 206) (by decide +kernel))) rfl, mB (mt2 (List.mem_of_getElem? (i := 207) (by decide +kernel))) rfl, mB (mt2 (List.mem_of_getElem? (i := 208) (by decide +kernel))) rfl, mB (mt1 (List.mem_of_getElem? (i := 2) (by decide +kernel))) rfl, ⟨by decide +kernel, by decide +kernel, by decide +kernel⟩, mo_0, rfl⟩
theorem ml_45 : MLok (6, 31, 49, 0, 3) := ⟨mB (mt3 (List.mem_of_getElem? (i := 95) (by decide +kernel))) rfl, mB (mt3 (List.mem_of_getElem? (i := 88) (by decide +kernel))) rfl, mB (mt3 (List.mem_of_getElem? (i := 89) (by decide +kernel))) rfl, mB (mt1 (List.mem_of_getElem? (i := 8) (by decide +kernel))) rfl, ⟨by decide +kernel, by decide +kernel, by decide +kernel⟩, mo_49, rfl⟩
theorem ml_46 : MLok (7, 19, 56, 0, 2) := ⟨mB (mt2 (List.mem_of_getElem? (i := 190) (by decide +kernel))) rfl, mB (mt2 (List.mem_of_getElem? (i := 191) (by decide +kernel))) rfl, mB (mt2 (List.mem_of_getElem? (i := 192) (by decide +kernel))) rfl, mB (mt1 (List.mem_of_getElem? (i := 10) (by decide +kernel))) rfl, ⟨by decide +kernel, by decide +kernel, by decide +kernel⟩, mo_56, rfl⟩
theorem ml_47 : MLok (8, 46, 48, 0, 2) := ⟨mB (mt2 (List.mem_of_getElem? (i := 214) (by decide +kernel))) rfl, mB (mt2 (List.mem_of_getElem? (i := 215) (by decide +kernel))) rfl, mB (mt2 (List.mem_of_getElem? (i := 216) (by decide +kernel))) rfl, mB (mt1 (List.mem_of_getElem? (i := 8) (by decide +kernel))) rfl, ⟨by decide +kernel, by decide +kernel, by decide +kernel⟩, mo_48, rfl⟩
theorem ml_48 : MLok (8, 50, 35, 0, 2) := ⟨mB (mt2 (List.mem_of_getElem? (i := 219) (by decide +kernel))) rfl, mB (mt2 (List.mem_of_getElem? (i := 220) (by decide +kernel))) rfl, mB (mt2 (List.mem_of_getElem? (i := 221) (by decide +kernel))) rfl, mB (mt1 (List.mem_of_getElem? (i := 6) (by decide +kernel))) rfl, ⟨by decide +kernel, by decide +kernel, by decide +kernel⟩, mo_35, rfl⟩
theorem ml_49 : MLok (8, 53, 37, 0, 2) := ⟨mB (mt2 (List.mem_of_getElem? (i := 223) (by decide +kernel))) rfl, mB (mt2 (List.mem_of_getElem? (i := 224) (by decide +kernel))) rfl, mB (mt2 (List.mem_of_getElem? (i := 225) (by decide +kernel))) rfl, mB (mt1 (List.mem_of_getElem? (i := 7) (by decide +kernel))) rfl, ⟨by decide +kernel, by decide +kernel, by decide +kernel⟩, mo_37, rfl⟩
theorem ml_50 : MLok (8, 87, 62, 0, 3) := ⟨mB (mt3 (List.mem_of_getElem? (i := 176) (by decide +kernel))) rfl, mB (mt2 (List.mem_of_getElem? (i := 238) (by decide +kernel))) rfl, mB (mt2 (List.mem_of_getElem? (i := 239) (by decide +kernel))) rfl, mB (mt1 (List.mem_of_getElem? (i := 5) (by decide +kernel))) rfl, ⟨by decide +kernel, by decide +kernel, by decide +kernel⟩, mo_62, rfl⟩
theorem ml_51 : MLok (9, 59, 54, 0, 2) := ⟨mB (mt2 (List.mem_of_getElem? (i := 170) (by decide +kernel))) rfl, mB (mt2 (List.mem_of_getElem? (i := 171) (by decide +kernel))) rfl, mB (mt2 (List.mem_of_getElem? (i := 172) (by decide +kernel))) rfl, mB (mt1 (List.mem_of_getElem? (i := 10) (by decide +kernel))) rfl, ⟨by decide +kernel, by decide +kernel, by decide +kernel⟩, mo_54, rfl⟩
theorem ml_52 : MLok (9, 67, 55, 0, 2) := ⟨mB (mt2 (List.mem_of_getElem? (i := 178) (by decide +kernel))) rfl, mB (mt2 (List.mem_of_getElem? (i := 179) (by decide +kernel))) rfl, mB (mt2 (List.mem_of_getElem? (i := 180) (by decide +kernel))) rfl, mB (mt1 (List.mem_of_getElem? (i := 10) (by decide +kernel))) rfl, ⟨by decide +kernel, by decide +kernel, by decide +kernel⟩, mo_55, rfl⟩
theorem ml_53 : MLok (9, 70, 57, 0, 4) := ⟨mB (mt2 (List.mem_of_getElem? (i := 186) (by decide +kernel))) rfl, mB (mt2 (List.mem_of_getElem? (i := 187) (by decide +kernel))) rfl, mB (mt2 (List.mem_of_getElem? (i := 188) (by decide +kernel))) rfl, mB (mt1 (List.mem_of_getElem? (i := 10) (by decide +kernel))) rfl, ⟨by decide +kernel, by decide +kernel, by decide +kernel⟩, mo_57, rfl⟩
theorem ml_54 : MLok (9, 74, 103, 0, 2) := ⟨mB (mt2 (List.mem_of_getElem? (i := 194) (by decide +kernel))) rfl, mB (mt2 (List.mem_of_getElem? (i := 196) (by decide +kernel))) rfl, mB (List.mem_append_left _ (List.mem_of_getElem? (i := 0) (by decide +kernel))) rfl, mB (mt1 (List.mem_of_getElem? (i := 1) (by decide +kernel))) rfl, ⟨by decide +kernel, by decide +kernel, by decide +kernel⟩, mo_103, rfl⟩
theorem ml_55 : MLok (9, 78, 46, 0, 2) := ⟨mB (mt2 (List.mem_of_getElem? (i := 202) (by decide +kernel))) rfl, mB (mt2 (List.mem_of_getElem? (i := 203) (by decide +kernel))) rfl, mB (mt2 (List.mem_of_getElem? (i := 204) (by decide +kernel))) rfl, mB (mt1 (List.mem_of_getElem? (i := 9) (by decide +kernel))) rfl, ⟨by decide +kernel, by decide +kernel, by decide +kernel⟩, mo_46, rfl⟩
theorem ml_56 : MLok (9, 82, 1, 0, 3) := ⟨mB (mt2 (List.mem_of_getElem? (i := 229) (by decide +kernel))) rfl, mB (mt2 (List.mem_of_getElem? (i := 230) (by decide +kernel))) rfl, mB (mt2 (List.mem_of_getElem? (i := 231) (by decide +kernel))) rfl, mB (mt1 (List.mem_of_getElem? (i := 2) (by decide +kernel))) rfl, ⟨by decide +kernel, by decide +kernel, by decide +kernel⟩, mo_1, rfl⟩
theorem ml_57 : MLok (9, 101, 102, 1, 1) := ⟨Or.inl (mB (mt3 (List.mem_of_getElem? (i := 15) (by decide +kernel))) rfl), mB (mt3 (List.mem_of_getElem? (i := 16) (by decide +kernel))) rfl, mB (mt1 (List.mem_of_getElem? (i := 1) (by decide +kernel))) rfl, ⟨by decide +kernel, by decide +kernel, by decide +kernel⟩, mo_102, rfl⟩
theorem ml_58 : MLok (9, 104, 6, 0, 1) := ⟨mB (mt3 (List.mem_of_getElem? (i := 18) (by decide +kernel))) rfl, mB (mt3 (List.mem_of_getElem? (i := 19) (by decide +kernel))) rfl, mB (mt3 (List.mem_of_getElem? (i := 20) (by decide +kernel))) rfl, mB (mt1 (List.mem_of_getElem? (i := 2) (by decide +kernel))) rfl, ⟨by decide +kernel, by decide +kernel, by decide +kernel⟩, mo_6, rfl⟩
theorem ml_59 : MLok (9, 108, 7, 0, 2) := ⟨mB (mt3 (List.mem_of_getElem? (i := 22) (by decide +kernel))) rfl, mB (mt3 (List.mem_of_getElem? (i := 23) (by decide +kernel))) rfl, mB (mt3 (List.mem_of_getElem? (i := 24) (by decide +kernel))) rfl, mB (mt1 (List.mem_of_getElem? (i := 2) (by decide +kernel))) rfl, ⟨by decide +kernel, by decide +kernel, by decide +kernel⟩, mo_7, rfl⟩
theorem ml_60 : MLok (9, 115, 104, 1, 2) := ⟨Or.inl (mB (mt3 (List.mem_of_getElem? (i := 26) (by decide +kernel))) rfl), mB (mt3 (List.mem_of_getElem? (i := 27) (by decide +kernel))) rfl, mB (mt1 (List.mem_of_getElem? (i := 1) (by decide +kernel))) rfl, ⟨by decide +kernel, by decide +kernel, by decide +kernel⟩, mo_104, rfl⟩
theorem ml_61 : MLok (9, 119, 105, 0, 4) := ⟨mB (mt3 (List.mem_of_getElem? (i := 29) (by decide +kernel))) rfl, mB (mt3 (List.mem_of_getElem? (i := 31) (by decide +kernel))) rfl, mB (List.mem_append_left _ (List.mem_of_getElem? (i := 2) (by decide +kernel))) rfl, mB (mt1 (List.mem_of_getElem? (i := 1) (by decide +kernel))) rfl, ⟨by decide +kernel, by decide +kernel, by decide +kernel⟩, mo_105, rfl⟩
theorem ml_62 : MLok (9, 123, 8, 0, 5) := ⟨mB (mt3 (List.mem_of_getElem? (i := 49) (by decide +kernel))) rfl, mB (mt3 (List.mem_of_getElem? (i := 50) (by decide +kernel))) rfl, mB (mt3 (List.mem_of_getElem? (i := 51) (by decide +kernel))) rfl, mB (mt1 (List.mem_of_getElem? (i := 2) (by decide +kernel))) rfl, ⟨by decide +kernel, by decide +kernel, by decide +kernel⟩, mo_8, rfl⟩
theorem ml_63 : MLok (9, 127, 9, 0, 5) := ⟨mB (mt3 (List.mem_of_getElem? (i := 37) (by decide +kernel))) rfl, mB (mt3 (List.mem_of_getElem? (i := 38) (by decide +kernel))) rfl, mB (mt3 (List.mem_of_getElem? (i := 39) (by decide +kernel))) rfl, mB (mt1 (List.mem_of_getElem? (i := 2) (by decide +kernel))) rfl, ⟨by decide +kernel, by decide +kernel, by decide +kernel⟩, mo_9, rfl⟩
theorem ml_64 : MLok (9, 130, 4, 0, 2) := ⟨mB (mt3 (List.mem_of_getElem? (i := 59) (by decide +kernel))) rfl, mB (mt3 (List.mem_of_getElem? (i := 60) (by decide +kernel))) rfl, mB (mt3 (List.mem_of_getElem? (i := 61) (by decide +kernel))) rfl, mB (mt1 (List.mem_of_getElem? (i := 2) (by decide +kernel))) rfl, ⟨by decide +kernel, by decide +kernel, by decide +kernel⟩, mo_4, rfl⟩
theorem ml_65 : MLok (9, 133, 13, 0, 1) := ⟨mB (mt3 (List.mem_of_getElem? (i := 63) (by decide +kernel))) rfl, mB (mt3 (List.mem_of_getElem? (i := 64) (by decide +kernel))) rfl, mB (mt3 (List.mem_of_getElem? (i := 65) (by decide +kernel))) rfl, mB (mt1 (List.mem_of_getElem? (i := 2) (by decide +kernel))) rfl, ⟨by decide +kernel, by decide +kernel, by decide +kernel⟩, mo_13, rfl⟩
theorem ml_66 : MLok (9, 136, 44, 0, 4) := ⟨mB (mt3 (List.mem_of_getElem? (i := 208) (by decide +kernel))) rfl, mB (mt3 (List.mem_of_getElem? (i := 209) (by decide +kernel))) rfl, mB (mt3 (List.mem_of_getElem? (i := 210) (by decide +kernel))) rfl, mB (mt1 (List.mem_of_getElem? (i := 11) (by decide +kernel))) rfl, ⟨by decide +kernel, by decide +kernel, by decide +kernel⟩, mo_44, rfl⟩
theorem ml_67 : MLok (9, 140, 11, 0, 1) := ⟨mB (mt3 (List.mem_of_getElem? (i := 232) (by decide +kernel))) rfl, mB (mt3 (List.mem_of_getElem? (i := 233) (by decide +kernel))) rfl, mB (mt3 (List.mem_of_getElem? (i := 234) (by decide +kernel))) rfl, mB (mt1 (List.mem_of_getElem? (i := 2) (by decide +kernel))) rfl, ⟨by decide +kernel, by decide +kernel, by decide +kernel⟩, mo_11, rfl⟩
theorem ml_68 : MLok (9, 143, 101, 0, 2) := ⟨mB (mt4 (List.mem_of_getElem? (i := 0) (by decide +kernel))) rfl, mB (mt4 (List.mem_of_getElem? (i := 2) (by decide +kernel))) rfl, mB (List.mem_append_left _ (List.mem_of_getElem? (i := 20) (by decide +kernel))) rfl, mB (mt1 (List.mem_of_getElem? (i := 1) (by decide +kernel))) rfl, ⟨by decide +kernel, by decide +kernel, by decide +kernel⟩, mo_101, rfl⟩
theorem ml_69 : MLok (9, 158, 60, 0, 1) := ⟨mB (mt4 (List.mem_of_getElem? (i := 219) (by decide +kernel))) rfl, mB (mt3 (List.mem_of_getElem? (i := 72) (by decide +kernel))) rfl, mB (mt3 (List.mem_of_getElem? (i := 73) (by decide +kernel))) rfl, mB (mt1 (List.mem_of_getElem? (i := 5) (by decide +kernel))) rfl, ⟨by decide +kernel, by decide +kernel, by decide +kernel⟩, mo_60, rfl⟩
theorem ml_70 : MLok (9, 171, 61, 0, 1) := ⟨mB (mt4 (List.mem_of_getElem? (i := 220) (by decide +kernel))) rfl, mB (mt3 (List.mem_of_getElem? (i := 149) (by decide +kernel))) rfl, mB (mt3 (List.mem_of_getElem? (i := 150) (by decide +kernel))) rfl, mB (mt1 (List.mem_of_getElem? (i := 5) (by decide +kernel))) rfl, ⟨by decide +kernel, by decide +kernel, by decide +kernel⟩, mo_61, rfl⟩
theorem ml_71 : MLok (9, 189, 12, 0, 3) := ⟨mB (mt4 (List.mem_of_getElem? (i := 228) (by decide +kernel))) rfl, mB (mt3 (List.mem_of_getElem? (i := 80) (by decide +kernel))) rfl, mB (mt3 (List.mem_of_getElem? (i := 81) (by decide +kernel))) rfl, mB (mt1 (List.mem_of_getElem? (i := 2) (by decide +kernel))) rfl, ⟨by decide +kernel, by decide +kernel, by decide +kernel⟩, mo_12, rfl⟩
theorem ml_72 : MLok (9, 235, 43, 0, 3) := ⟨mB (mt4 (List.mem_of_getElem? (i := 8) (by decide +kernel))) rfl, mB (mt3 (List.mem_of_getElem? (i := 213) (by decide +kernel))) rfl, mB (mt3 (List.mem_of_getElem? (i := 214) (by decide +kernel))) rfl, mB (mt1 (List.mem_of_getElem? (i := 11) (by decide +kernel))) rfl, ⟨by decide +kernel, by decide +kernel, by decide +kernel⟩, mo_43, rfl⟩
theorem ml_73 : MLok (9, 248, 3, 0, 3) := ⟨mB (mt3 (List.mem_of_getElem? (i := 33) (by decide +kernel))) rfl, mB (mt3 (List.mem_of_getElem? (i := 34) (by decide +kernel))) rfl, mB (mt3 (List.mem_of_getElem? (i := 35) (by decide +kernel))) rfl, mB (mt1 (List.mem_of_getElem? (i := 2) (by decide +kernel))) rfl, ⟨by decide +kernel, by decide +kernel, by decide +kernel⟩, mo_3, rfl⟩
theorem ml_74 : MLok (9, 260, 40, 0, 1) := ⟨mB (mt4 (List.mem_of_getElem? (i := 21) (by decide +kernel))) rfl, mB (mt3 (List.mem_of_getElem? (i := 221) (by decide +kernel))) rfl, mB (mt3 (List.mem_of_getElem? (i := 222) (by decide +kernel))) rfl, mB (mt1 (List.mem_of_getElem? (i := 11) (by decide +kernel))) rfl, ⟨by decide +kernel, by decide +kernel, by decide +kernel⟩, mo_40, rfl⟩
theorem ml_75 : MLok (9, 265, 41, 0, 2) := ⟨mB (mt4 (List.mem_of_getElem? (i := 23) (by decide +kernel))) rfl, mB (mt3 (List.mem_of_getElem? (i := 225) (by decide +kernel))) rfl, mB (mt3 (List.mem_of_getElem? (i := 226) (by decide +kernel))) rfl, mB (mt1 (List.mem_of_getElem? (i := 11) (by decide +kernel))) rfl, ⟨by decide +kernel, by decide +kernel, by decide +kernel⟩, mo_41, rfl⟩
theorem ml_76 : MLok (9, 291, 42, 0, 2) := ⟨mB (mt4 (List.mem_of_getElem? (i := 32) (by decide +kernel))) rfl, mB (mt3 (List.mem_of_getElem? (i := 217) (by decide +kernel))) rfl, mB (mt3 (List.mem_of_getElem? (i := 218) (by decide +kernel))) rfl, mB (mt1 (List.mem_of_getElem? (i := 11) (by decide +kernel))) rfl, ⟨by decide +kernel, by decide +kernel, by decide +kernel⟩, mo_42, rfl⟩
theorem ml_77 : MLok (9, 306, 45, 0, 3) := ⟨mB (mt4 (List.mem_of_getElem? (i := 41) (by decide +kernel))) rfl, mB (mt4 (List.mem_of_getElem? (i := 42) (by decide +kernel))) rfl, mB (mt4 (List.mem_of_getElem? (i := 43) (by decide +kernel))) rfl, mB (mt1 (List.mem_of_getElem? (i := 11) (by decide +kernel))) rfl, ⟨by decide +kernel, by decide +kernel, by decide +kernel⟩, mo_45, rfl⟩
theorem ml_78 : MLok (9, 318, 106, 1, 2) := ⟨Or.inl (mB (mt4 (List.mem_of_getElem? (i := 53) (by decide +kernel))) rfl), mB (mt4 (List.mem_of_getElem? (i := 54) (by decide +kernel))) rfl, mB (mt1 (List.mem_of_getElem? (i := 1) (by decide +kernel))) rfl, ⟨by decide +kernel, by decide +kernel, by decide +kernel⟩, mo_106, rfl⟩
theorem ml_79 : MLok (9, 322, 107, 1, 2) := ⟨Or.inl (mB (mt4 (List.mem_of_getElem? (i := 56) (by decide +kernel))) rfl), mB (mt4 (List.mem_of_getElem? (i := 57) (by decide +kernel))) rfl, mB (mt1 (List.mem_of_getElem? (i := 1) (by decide +kernel))) rfl, ⟨by decide +kernel, by decide +kernel, by decide +kernel⟩, mo_107, rfl⟩
theorem ml_80 : MLok (9, 327, 0, 0, 2) := ⟨mB (mt4 (List.mem_of_getElem? (i := 68) (by decide +kernel))) rfl, mB (mt2 (List.mem_of_getElem? (i := 207) (by decide +kernel))) rfl, mB (mt2 (List.mem_of_getElem? (i := 208) (by decide +kernel))) rfl, mB (mt1 (List.mem_of_getElem? (i := 2) (by decide +kernel))) rfl, ⟨by decide +kernel, by decide +kernel, by decide +kernel⟩, mo_0, rfl⟩
theorem ml_81 : MLok (9, 330, 5, 0, 1) := ⟨mB (mt4 (List.mem_of_getElem? (i := 69) (by decide +kernel))) rfl, mB (mt4 (List.mem_of_getElem? (i := 70) (by decide +kernel))) rfl, mB (mt4 (List.mem_of_getElem? (i := 71) (by decide +kernel))) rfl, mB (mt1 (List.mem_of_getElem? (i := 2) (by decide +kernel))) rfl, ⟨by decide +kernel, by decide +kernel, by decide +kernel⟩, mo_5, rfl⟩
theorem ml_82 : MLok (9, 334, 108, 0, 3) := ⟨mB (mt4 (List.mem_of_getElem? (i := 85) (by decide +kernel))) rfl, mB (mt4 (List.mem_of_getElem? (i := 87) (by decide +kernel))) rfl, mB (List.mem_append_left _ (List.mem_of_getElem? (i := 21) (by decide +kernel))) rfl, mB (mt1 (List.mem_of_getElem? (i := 1) (by decide +kernel))) rfl, ⟨by decide +kernel, by decide +kernel, by decide +kernel⟩, mo_108, rfl⟩
theorem ml_83 : MLok (9, 337, 110, 0, 1) := ⟨mB (mt4 (List.mem_of_getElem? (i := 97) (by decide +kernel))) rfl, mB (mt4 (List.mem_of_getElem? (i := 99) (by decide +kernel))) rfl, mB (List.mem_append_left _ (List.mem_of_getElem? (i := 22) (by decide +kernel))) rfl, mB (mt1 (List.mem_of_getElem? (i := 1) (by decide +kernel))) rfl, ⟨by decide +kernel, by decide +kernel, by decide +kernel⟩, mo_110, rfl⟩
theorem ml_84 : MLok (9, 340, 112, 0, 2) := ⟨mB (mt4 (List.mem_of_getElem? (i := 110) (by decide +kernel))) rfl, mB (mt4 (List.mem_of_getElem? (i := 112) (by decide +kernel))) rfl, mB (List.mem_append_left _ (List.mem_of_getElem? (i := 25) (by decide +kernel))) rfl, mB (mt1 (List.mem_of_getElem? (i := 1) (by decide +kernel))) rfl, ⟨by decide +kernel, by decide +kernel, by decide +kernel⟩, mo_112, rfl⟩
theorem ml_85 : MLok (9, 343, 109, 0, 2) := ⟨mB (mt4 (List.mem_of_getElem? (i := 106) (by decide +kernel))) rfl, mB (mt4 (List.mem_of_getElem? (i := 108) (by decide +kernel))) rfl, mB (List.mem_append_left _ (List.mem_of_getElem? (i := 24) (by decide +kernel))) rfl, mB (mt1 (List.mem_of_getElem? (i := 1) (by decide +kernel))) rfl, ⟨by decide +kernel, by decide +kernel, by decide +kernel⟩, mo_109, rfl⟩
theorem ml_86 : MLok (9, 346, 47, 0, 2) := ⟨mB (mt4 (List.mem_of_getElem? (i := 118) (by decide +kernel))) rfl, mB (mt4 (List.mem_of_getElem? (i := 119) (by decide +kernel))) rfl, mB (mt4 (List.mem_of_getElem? (i := 120) (by decide +kernel))) rfl, mB (mt1 (List.mem_of_getElem? (i := 9) (by decide +kernel))) rfl, ⟨by decide +kernel, by decide +kernel, by decide +kernel⟩, mo_47, rfl⟩
theorem ml_87 : MLok (9, 351, 34, 0, 2) := ⟨mB (mt4 (List.mem_of_getElem? (i := 126) (by decide +kernel))) rfl, mB (mt3 (List.mem_of_getElem? (i := 118) (by decide +kernel))) rfl, mB (mt3 (List.mem_of_getElem? (i := 119) (by decide +kernel))) rfl, mB (mt1 (List.mem_of_getElem? (i := 3) (by decide +kernel))) rfl, ⟨by decide +kernel, by decide +kernel, by decide +kernel⟩, mo_34, rfl⟩
theorem ml_88 : MLok (9, 354, 113, 0, 1) := ⟨mB (mt4 (List.mem_of_getElem? (i := 127) (by decide +kernel))) rfl, mB (mt4 (List.mem_of_getElem? (i := 129) (by decide +kernel))) rfl, mB (List.mem_append_left _ (List.mem_of_getElem? (i := 26) (by decide +kernel))) rfl, mB (mt1 (List.mem_of_getElem? (i := 1) (by decide +kernel))) rfl, ⟨by decide +kernel, by decide +kernel, by decide +kernel⟩, mo_113, rfl⟩
theorem ml_89 : MLok (9, 361, 58, 0, 3) := ⟨mB (mt2 (List.mem_of_getElem? (i := 198) (by decide +kernel))) rfl, mB (mt2 (List.mem_of_getElem? (i := 199) (by decide +kernel))) rfl, mB (mt2 (List.mem_of_getElem? (i := 200) (by decide +kernel))) rfl, mB (mt1 (List.mem_of_getElem? (i := 10) (by decide +kernel))) rfl, ⟨by decide +kernel, by decide +kernel, by decide +kernel⟩, mo_58, rfl⟩
theorem ml_90 : MLok (9, 364, 10, 0, 3) := ⟨mB (mt4 (List.mem_of_getElem? (i := 89) (by decide +kernel))) rfl, mB (mt4 (List.mem_of_getElem? (i := 90) (by decide +kernel))) rfl, mB (mt4 (List.mem_of_getElem? (i := 91) (by decide +kernel))) rfl, mB (mt1 (List.mem_of_getElem? (i := 2) (by decide +kernel))) rfl, ⟨by decide +kernel, by decide +kernel, by decide +kernel⟩, mo_10, rfl⟩
theorem ml_91 : MLok (9, 371, 56, 0, 2) := ⟨mB (mt4 (List.mem_of_getElem? (i := 105) (by decide +kernel))) rfl, mB (mt2 (List.mem_of_getElem? (i := 191) (by decide +kernel))) rfl, mB (mt2 (List.mem_of_getElem? (i := 192) (by decide +kernel))) rfl, mB (mt1 (List.mem_of_getElem? (i := 10) (by decide +kernel))) rfl, ⟨by decide +kernel, by decide +kernel, by decide +kernel⟩, mo_56, rfl⟩
theorem ml_92 : MLok (9, 374, 111, 0, 2) := ⟨mB (mt4 (List.mem_of_getElem? (i := 101) (by decide +kernel))) rfl, mB (mt4 (List.mem_of_getElem? (i := 103) (by decide +kernel))) rfl, mB (List.mem_append_left _ (List.mem_of_getElem? (i := 23) (by decide +kernel))) rfl, mB (mt1 (List.mem_of_getElem? (i := 1) (by decide +kernel))) rfl, ⟨by decide +kernel, by decide +kernel, by decide +kernel⟩, mo_111, rfl⟩
theorem ml_93 : MLok (10, 59, 115, 1, 3) := ⟨Or.inl (mB (mt5 (List.mem_of_getElem? (i := 95) (by decide +kernel))) rfl), mB (mt5 (List.mem_of_getElem? (i := 96) (by decide +kernel))) rfl, mB (mt1 (List.mem_of_getElem? (i := 12) (by decide +kernel))) rfl, ⟨by decide +kernel, by decide +kernel, by decide +kernel⟩, mo_115, rfl⟩
theorem ml_94 : MLok (10, 63, 123, 0, 3) := ⟨mB (mt5 (List.mem_of_getElem? (i := 174) (by decide +kernel))) rfl, mB (mt5 (List.mem_of_getElem? (i := 176) (by decide +kernel))) rfl, mB (List.mem_append_left _ (List.mem_of_getElem? (i := 40) (by decide +kernel))) rfl, mB (mt1 (List.mem_of_getElem? (i := 12) (by decide +kernel))) rfl, ⟨by decide +kernel, by decide +kernel, by decide +kernel⟩, mo_123, rfl⟩
theorem ml_95 : MLok (10, 67, 125, 1, 2) := ⟨Or.inl (mB (mt5 (List.mem_of_getElem? (i := 138) (by decide +kernel))) rfl), mB (mt5 (List.mem_of_getElem? (i := 139) (by decide +kernel))) rfl, mB (mt1 (List.mem_of_getElem? (i := 12) (by decide +kernel))) rfl, ⟨by decide +kernel, by decide +kernel, by decide +kernel⟩, mo_125, rfl⟩
theorem ml_96 : MLok (10, 82, 133, 0, 1) := ⟨mB (mt5 (List.mem_of_getElem? (i := 110) (by decide +kernel))) rfl, mB (mt5 (List.mem_of_getElem? (i := 112) (by decide +kernel))) rfl, mB (List.mem_append_left _ (List.mem_of_getElem? (i := 30) (by decide +kernel))) rfl, mB (mt1 (List.mem_of_getElem? (i := 12) (by decide +kernel))) rfl, ⟨by decide +kernel, by decide +kernel, by decide +kernel⟩, mo_133, rfl⟩
theorem ml_97 : MLok (10, 86, 132, 0, 1) := ⟨mB (mt5 (List.mem_of_getElem? (i := 114) (by decide +kernel))) rfl, mB (mt5 (List.mem_of_getElem? (i := 116) (by decide +kernel))) rfl, mB (List.mem_append_left _ (List.mem_of_getElem? (i := 31) (by decide +kernel))) rfl, mB (mt1 (List.mem_of_getElem? (i := 12) (by decide +kernel))) rfl, ⟨by decide +kernel, by decide +kernel, by decide +kernel⟩, mo_132, rfl⟩
theorem ml_98 : MLok (10, 90, 134, 0, 2) := ⟨mB (mt5 (List.mem_of_getElem? (i := 118) (by decide +kernel))) rfl, mB (mt5 (List.mem_of_getElem? (i := 120) (by decide +kernel))) rfl, mB (List.mem_append_left _ (List.mem_of_getElem? (i := 32) (by decide +kernel))) rfl, mB (mt1 (List.mem_of_getElem? (i := 12) (by decide +kernel))) rfl, ⟨by decide +kernel, by decide +kernel, by decide +kernel⟩, mo_134, rfl⟩
theorem ml_99 : MLok (10, 94, 135, 0, 3) := ⟨mB (mt5 (List.mem_of_getElem? (i := 106) (by decide +kernel))) rfl, mB (mt5 (List.mem_of_getElem? (i := 108) (by decide +kernel))) rfl, mB (List.mem_append_left _ (List.mem_of_getElem? (i := 29) (by decide +kernel))) rfl, mB (mt1 (List.mem_of_getElem? (i := 12) (by decide +kernel))) rfl, ⟨by decide +kernel, by decide +kernel, by decide +kernel⟩, mo_135, rfl⟩
theorem ml_100 : MLok (10, 98, 131, 0, 1) := ⟨mB (mt5 (List.mem_of_getElem? (i := 102) (by decide +kernel))) rfl, mB (mt5 (List.mem_of_getElem? (i := 104) (by decide +kernel))) rfl, mB (List.mem_append_left _ (List.mem_of_getElem? (i := 28) (by decide +kernel))) rfl, mB (mt1 (List.mem_of_getElem? (i := 12) (by decide +kernel))) rfl, ⟨by decide +kernel, by decide +kernel, by decide +kernel⟩, mo_131, rfl⟩
theorem ml_101 : MLok (10, 101, 138, 0, 2) := ⟨mB (mt5 (List.mem_of_getElem? (i := 122) (by decide +kernel))) rfl, mB (mt5 (List.mem_of_getElem? (i := 124) (by decide +kernel))) rfl, mB (List.mem_append_left _ (List.mem_of_getElem? (i := 33) (by decide +kernel))) rfl, mB (mt1 (List.mem_of_getElem? (i := 12) (by decide +kernel))) rfl, ⟨by decide +kernel, by decide +kernel, by decide +kernel⟩, mo_138, rfl⟩
theorem ml_102 : MLok (10, 105, 137, 0, 1) := ⟨mB (mt5 (List.mem_of_getElem? (i := 126) (by decide +kernel))) rfl, mB (mt5 (List.mem_of_getElem? (i := 128) (by decide +kernel))) rfl, mB (List.mem_append_left _ (List.mem_of_getElem? (i := 34) (by decide +kernel))) rfl, mB (mt1 (List.mem_of_getElem? (i := 12) (by decide +kernel))) rfl, ⟨by decide +kernel, by decide +kernel, by decide +kernel⟩, mo_137, rfl⟩
theorem ml_103 : MLok (10, 108, 208, 0, 1) := ⟨mB (mt5 (List.mem_of_getElem? (i := 130) (by decide +kernel))) rfl, mB (mt5 (List.mem_of_getElem? (i := 132) (by decide +kernel))) rfl, mB (List.mem_append_left _ (List.mem_of_getElem? (i := 35) (by decide +kernel))) rfl, mB (mt1 (List.mem_of_getElem? (i := 12) (by decide +kernel))) rfl, ⟨by decide +kernel, by decide +kernel, by decide +kernel⟩, mo_208, rfl⟩
theorem ml_104 : MLok (10, 111, 140, 1, 1) := ⟨Or.inl (mB (mt5 (List.mem_of_getElem? (i := 145) (by decide +kernel))) rfl), mB (mt5 (List.mem_of_getElem? (i := 146) (by decide +kernel))) rfl, mB (mt1 (List.mem_of_getElem? (i := 12) (by decide +kernel))) rfl, ⟨by decide +kernel, by decide +kernel, by decide +kernel⟩, mo_140, rfl⟩
theorem ml_105 : MLok (10, 114, 117, 0, 1) := ⟨mB (mt5 (List.mem_of_getElem? (i := 152) (by decide +kernel))) rfl, mB (mt5 (List.mem_of_getElem? (i := 154) (by decide +kernel))) rfl, mB (List.mem_append_left _ (List.mem_of_getElem? (i := 37) (by decide +kernel))) rfl, mB (mt1 (List.mem_of_getElem? (i := 12) (by decide +kernel))) rfl, ⟨by decide +kernel, by decide +kernel, by decide +kernel⟩, mo_117, rfl⟩
theorem ml_106 : MLok (10, 117, 127, 1, 1) := ⟨Or.inl (mB (mt5 (List.mem_of_getElem? (i := 167) (by decide +kernel))) rfl), mB (mt5 (List.mem_of_getElem? (i := 168) (by decide +kernel))) rfl, mB (mt1 (List.mem_of_getElem? (i := 12) (by decide +kernel))) rfl, ⟨by decide +kernel, by decide +kernel, by decide +kernel⟩, mo_127, rfl⟩
theorem ml_107 : MLok (10, 120, 122, 1, 1) := ⟨Or.inl (mB (mt5 (List.mem_of_getElem? (i := 160) (by decide +kernel))) rfl), mB (mt5 (List.mem_of_getElem? (i := 161) (by decide +kernel))) rfl, mB (mt1 (List.mem_of_getElem? (i := 12) (by decide +kernel))) rfl, ⟨by decide +kernel, by decide +kernel, by decide +kernel⟩, mo_122, rfl⟩
theorem ml_108 : MLok (10, 124, 143, 0, 1) := ⟨mB (mt5 (List.mem_of_getElem? (i := 163) (by decide +kernel))) rfl, mB (mt5 (List.mem_of_getElem? (i := 165) (by decide +kernel))) rfl, mB (List.mem_append_left _ (List.mem_of_getElem? (i := 38) (by decide +kernel))) rfl, mB (mt1 (List.mem_of_getElem? (i := 12) (by decide +kernel))) rfl, ⟨by decide +kernel, by decide +kernel, by decide +kernel⟩, mo_143, rfl⟩
theorem ml_109 : MLok (10, 127, 124, 0, 3) := ⟨mB (mt5 (List.mem_of_getElem? (i := 170) (by decide +kernel))) rfl, mB (mt5 (List.mem_of_getElem? (i := 172) (by decide +kernel))) rfl, mB (List.mem_append_left _ (List.mem_of_getElem? (i := 39) (by decide +kernel))) rfl, mB (mt1 (List.mem_of_getElem? (i := 12) (by decide +kernel))) rfl, ⟨by decide +kernel, by decide +kernel, by decide +kernel⟩, mo_124, rfl⟩
theorem ml_110 : MLok (10, 131, 145, 0, 6) := ⟨mB (mt5 (List.mem_of_getElem? (i := 178) (by decide +kernel))) rfl, mB (mt5 (List.mem_of_getElem? (i := 180) (by decide +kernel))) rfl, mB (List.mem_append_left _ (List.mem_of_getElem? (i := 41) (by decide +kernel))) rfl, mB (mt1 (List.mem_of_getElem? (i := 12) (by decide +kernel))) rfl, ⟨by decide +kernel, by decide +kernel, by decide +kernel⟩, mo_145, rfl⟩
theorem ml_111 : MLok (10, 135, 126, 1, 3) := ⟨Or.inl (mB (mt5 (List.mem_of_getElem? (i := 182) (by decide +kernel))) rfl), mB (mt5 (List.mem_of_getElem? (i := 183) (by decide +kernel))) rfl, mB (mt1 (List.mem_of_getElem? (i := 12) (by decide +kernel))) rfl, ⟨by decide +kernel, by decide +kernel, by decide +kernel⟩, mo_126, rfl⟩
theorem ml_112 : MLok (10, 139, 121, 0, 2) := ⟨mB (mt5 (List.mem_of_getElem? (i := 193) (by decide +kernel))) rfl, mB (mt5 (List.mem_of_getElem? (i := 195) (by decide +kernel))) rfl, mB (List.mem_append_left _ (List.mem_of_getElem? (i := 43) (by decide +kernel))) rfl, mB (mt1 (List.mem_of_getElem? (i := 12) (by decide +kernel))) rfl, ⟨by decide +kernel, by decide +kernel, by decide +kernel⟩, mo_121, rfl⟩
theorem ml_113 : MLok (10, 142, 147, 0, 5) := ⟨mB (mt5 (List.mem_of_getElem? (i := 189) (by decide +kernel))) rfl, mB (mt5 (List.mem_of_getElem? (i := 191) (by decide +kernel))) rfl, mB (List.mem_append_left _ (List.mem_of_getElem? (i := 42) (by decide +kernel))) rfl, mB (mt1 (List.mem_of_getElem? (i := 12) (by decide +kernel))) rfl, ⟨by decide +kernel, by decide +kernel, by decide +kernel⟩, mo_147, rfl⟩
theorem ml_114 : MLok (10, 146, 128, 0, 2) := ⟨mB (mt6 (List.mem_of_getElem? (i := 12) (by decide +kernel))) rfl, mB (mt6 (List.mem_of_getElem? (i := 14) (by decide +kernel))) rfl, mB (List.mem_append_left _ (List.mem_of_getElem? (i := 55) (by decide +kernel))) rfl, mB (mt1 (List.mem_of_getElem? (i := 12) (by decide +kernel))) rfl, ⟨by decide +kernel, by decide +kernel, by decide +kernel⟩, mo_128, rfl⟩
theorem ml_115 : MLok (10, 149, 146, 0, 4) := ⟨mB (mt6 (List.mem_of_getElem? (i := 3) (by decide +kernel))) rfl, mB (mt6 (List.mem_of_getElem? (i := 5) (by decide +kernel))) rfl, mB (List.mem_append_left _ (List.mem_of_getElem? (i := 53) (by decide +kernel))) rfl, mB (mt1 (List.mem_of_getElem? (i := 12) (by decide +kernel))) rfl, ⟨by decide +kernel, by decide +kernel, by decide +kernel⟩, mo_146, rfl⟩
theorem ml_116 : MLok (10, 153, 151, 0, 4) := ⟨mB (mt5 (List.mem_of_getElem? (i := 231) (by decide +kernel))) rfl, mB (mt5 (List.mem_of_getElem? (i := 233) (by decide +kernel))) rfl, mB (List.mem_append_left _ (List.mem_of_getElem? (i := 50) (by decide +kernel))) rfl, mB (mt1 (List.mem_of_getElem? (i := 12) (by decide +kernel))) rfl, ⟨by decide +kernel, by decide +kernel, by decide +kernel⟩, mo_151, rfl⟩
theorem ml_117 : MLok (10, 156, 153, 0, 4) := ⟨mB (mt5 (List.mem_of_getElem? (i := 239) (by decide +kernel))) rfl, mB (mt6 (List.mem_of_getElem? (i := 1) (by decide +kernel))) rfl, mB (List.mem_append_left _ (List.mem_of_getElem? (i := 52) (by decide +kernel))) rfl, mB (mt1 (List.mem_of_getElem? (i := 12) (by decide +kernel))) rfl, ⟨by decide +kernel, by decide +kernel, by decide +kernel⟩, mo_153, rfl⟩
theorem ml_118 : MLok (10, 164, 152, 0, 3) := ⟨mB (mt6 (List.mem_of_getElem? (i := 8) (by decide +kernel))) rfl, mB (mt6 (List.mem_of_getElem? (i := 10) (by decide +kernel))) rfl, mB (List.mem_append_left _ (List.mem_of_getElem? (i := 54) (by decide +kernel))) rfl, mB (mt1 (List.mem_of_getElem? (i := 12) (by decide +kernel))) rfl, ⟨by decide +kernel, by decide +kernel, by decide +kernel⟩, mo_152, rfl⟩
theorem ml_119 : MLok (10, 168, 155, 1, 2) := ⟨Or.inl (mB (mt5 (List.mem_of_getElem? (i := 228) (by decide +kernel))) rfl), mB (mt5 (List.mem_of_getElem? (i := 229) (by decide +kernel))) rfl, mB (mt1 (List.mem_of_getElem? (i := 12) (by decide +kernel))) rfl, ⟨by decide +kernel, by decide +kernel, by decide +kernel⟩, mo_155, rfl⟩
theorem ml_120 : MLok (10, 171, 149, 0, 2) := ⟨mB (mt5 (List.mem_of_getElem? (i := 213) (by decide +kernel))) rfl, mB (mt5 (List.mem_of_getElem? (i := 215) (by decide +kernel))) rfl, mB (List.mem_append_left _ (List.mem_of_getElem? (i := 47) (by decide +kernel))) rfl, mB (mt1 (List.mem_of_getElem? (i := 12) (by decide +kernel))) rfl, ⟨by decide +kernel, by decide +kernel, by decide +kernel⟩, mo_149, rfl⟩
theorem ml_121 : MLok (10, 174, 116, 1, 2) := ⟨Or.inl (mB (mt5 (List.mem_of_getElem? (i := 217) (by decide +kernel))) rfl), mB (mt5 (List.mem_of_getElem? (i := 218) (by decide +kernel))) rfl, mB (mt1 (List.mem_of_getElem? (i := 12) (by decide +kernel))) rfl, ⟨by decide +kernel, by decide +kernel, by decide +kernel⟩, mo_116, rfl⟩
theorem ml_122 : MLok (10, 177, 150, 0, 3) := ⟨mB (mt5 (List.mem_of_getElem? (i := 220) (by decide +kernel))) rfl, mB (mt5 (List.mem_of_getElem? (i := 222) (by decide +kernel))) rfl, mB (List.mem_append_left _ (List.mem_of_getElem? (i := 48) (by decide +kernel))) rfl, mB (mt1 (List.mem_of_getElem? (i := 12) (by decide +kernel))) rfl, ⟨by decide +kernel, by decide +kernel, by decide +kernel⟩, mo_150, rfl⟩
theorem ml_123 : MLok (10, 180, 156, 0, 3) := ⟨mB (mt5 (List.mem_of_getElem? (i := 224) (by decide +kernel))) rfl, mB (mt5 (List.mem_of_getElem? (i := 226) (by decide +kernel))) rfl, mB (List.mem_append_left _ (List.mem_of_getElem? (i := 49) (by decide +kernel))) rfl, mB (mt1 (List.mem_of_getElem? (i := 12) (by decide +kernel))) rfl, ⟨by decide +kernel, by decide +kernel, by decide +kernel⟩, mo_156, rfl⟩
theorem ml_124 : MLok (10, 183, 154, 0, 3) := ⟨mB (mt5 (List.mem_of_getElem? (i := 235) (by decide +kernel))) rfl, mB (mt5 (List.mem_of_getElem? (i := 237) (by decide +kernel))) rfl, mB (List.mem_append_left _ (List.mem_of_getElem? (i := 51) (by decide +kernel))) rfl, mB (mt1 (List.mem_of_getElem? (i := 12) (by decide +kernel))) rfl, ⟨by decide +kernel, by decide +kernel, by decide +kernel⟩, mo_154, rfl⟩
theorem ml_125 : MLok (10, 189, 160, 0, 3) := ⟨mB (mt6 (List.mem_of_getElem? (i := 21) (by decide +kernel))) rfl, mB (mt6 (List.mem_of_getElem? (i := 23) (by decide +kernel))) rfl, mB (List.mem_append_left _ (List.mem_of_getElem? (i := 57) (by decide +kernel))) rfl, mB (mt1 (List.mem_of_getElem? (i := 12) (by decide +kernel))) rfl, ⟨by decide +kernel, by decide +kernel, by decide +kernel⟩, mo_160, rfl⟩
theorem ml_126 : MLok (10, 192, 159, 0, 3) := ⟨mB (mt6 (List.mem_of_getElem? (i := 25) (by decide +kernel))) rfl, mB (mt6 (List.mem_of_getElem? (i := 27) (by decide +kernel))) rfl, mB (List.mem_append_left _ (List.mem_of_getElem? (i := 58) (by decide +kernel))) rfl, mB (mt1 (List.mem_of_getElem? (i := 12) (by decide +kernel))) rfl, ⟨by decide +kernel, by decide +kernel, by decide +kernel⟩, mo_159, rfl⟩
theorem ml_127 : MLok (10, 198, 161, 0, 5) := ⟨mB (mt6 (List.mem_of_getElem? (i := 45) (by decide +kernel))) rfl, mB (mt6 (List.mem_of_getElem? (i := 47) (by decide +kernel))) rfl, mB (List.mem_append_left _ (List.mem_of_getElem? (i := 63) (by decide +kernel))) rfl, mB (mt1 (List.mem_of_getElem? (i := 12) (by decide +kernel))) rfl, ⟨by decide +kernel, by decide +kernel, by decide +kernel⟩, mo_161, rfl⟩
theorem ml_128 : MLok (10, 202, 162, 0, 4) := ⟨mB (mt6 (List.mem_of_getElem? (i := 41) (by decide +kernel))) rfl, mB (mt6 (List.mem_of_getElem? (i := 43) (by decide +kernel))) rfl, mB (List.mem_append_left _ (List.mem_of_getElem? (i := 62) (by decide +kernel))) rfl, mB (mt1 (List.mem_of_getElem? (i := 12) (by decide +kernel))) rfl, ⟨by decide +kernel, by decide +kernel, by decide +kernel⟩, mo_162, rfl⟩
theorem ml_129 : MLok (10, 205, 163, 0, 4) := ⟨mB (mt6 (List.mem_of_getElem? (i := 49) (by decide +kernel))) rfl, mB (mt6 (List.mem_of_getElem? (i := 51) (by decide +kernel))) rfl, mB (List.mem_append_left _ (List.mem_of_getElem? (i := 64) (by decide +kernel))) rfl, mB (mt1 (List.mem_of_getElem? (i := 12) (by decide +kernel))) rfl, ⟨by decide +kernel, by decide +kernel, by decide +kernel⟩, mo_163, rfl⟩
theorem ml_130 : MLok (10, 208, 164, 0, 3) := ⟨mB (mt6 (List.mem_of_getElem? (i := 53) (by decide +kernel))) rfl, mB (mt6 (List.mem_of_getElem? (i := 55) (by decide +kernel))) rfl, mB (List.mem_append_left _ (List.mem_of_getElem? (i := 65) (by decide +kernel))) rfl, mB (mt1 (List.mem_of_getElem? (i := 12) (by decide +kernel))) rfl, ⟨by decide +kernel, by decide +kernel, by decide +kernel⟩, mo_164, rfl⟩
theorem ml_131 : MLok (10, 212, 165, 0, 2) := ⟨mB (mt6 (List.mem_of_getElem? (i := 58) (by decide +kernel))) rfl, mB (mt6 (List.mem_of_getElem? (i := 60) (by decide +kernel))) rfl, mB (List.mem_append_left _ (List.mem_of_getElem? (i := 66) (by decide +kernel))) rfl, mB (mt1 (List.mem_of_getElem? (i := 12) (by decide +kernel))) rfl, ⟨by decide +kernel, by decide +kernel, by decide +kernel⟩, mo_165, rfl⟩
theorem ml_132 : MLok (10, 215, 166, 0, 2) := ⟨mB (mt6 (List.mem_of_getElem? (i := 62) (by decide +kernel))) rfl, mB (mt6 (List.mem_of_getElem? (i := 64) (by decide +kernel))) rfl, mB (List.mem_append_left _ (List.mem_of_getElem? (i := 67) (by decide +kernel))) rfl, mB (mt1 (List.mem_of_getElem? (i := 12) (by decide +kernel))) rfl, ⟨by decide +kernel, by decide +kernel, by decide +kernel⟩, mo_166, rfl⟩
theorem ml_133 : MLok (10, 218, 175, 0, 2) := ⟨mB (mt6 (List.mem_of_getElem? (i := 33) (by decide +kernel))) rfl, mB (mt6 (List.mem_of_getElem? (i := 35) (by decide +kernel))) rfl, mB (List.mem_append_left _ (List.mem_of_getElem? (i := 60) (by decide +kernel))) rfl, mB (mt1 (List.mem_of_getElem? (i := 12) (by decide +kernel))) rfl, ⟨by decide +kernel, by decide +kernel, by decide +kernel⟩, mo_175, rfl⟩
theorem ml_134 : MLok (10, 221, 157, 0, 1) := ⟨mB (mt5 (List.mem_of_getElem? (i := 209) (by decide +kernel))) rfl, mB (mt5 (List.mem_of_getElem? (i := 211) (by decide +kernel))) rfl, mB (List.mem_append_left _ (List.mem_of_getElem? (i := 46) (by decide +kernel))) rfl, mB (mt1 (List.mem_of_getElem? (i := 12) (by decide +kernel))) rfl, ⟨by decide +kernel, by decide +kernel, by decide +kernel⟩, mo_157, rfl⟩
theorem ml_135 : MLok (10, 224, 158, 0, 1) := ⟨mB (mt6 (List.mem_of_getElem? (i := 17) (by decide +kernel))) rfl, mB (mt6 (List.mem_of_getElem? (i := 19) (by decide +kernel))) rfl, mB (List.mem_append_left _ (List.mem_of_getElem? (i := 56) (by decide +kernel))) rfl, mB (mt1 (List.mem_of_getElem? (i := 12) (by decide +kernel))) rfl, ⟨by decide +kernel, by decide +kernel, by decide +kernel⟩, mo_158, rfl⟩
theorem ml_136 : MLok (10, 227, 169, 0, 1) := ⟨mB (mt6 (List.mem_of_getElem? (i := 29) (by decide +kernel))) rfl, mB (mt6 (List.mem_of_getElem? (i := 31) (by decide +kernel))) rfl, mB (List.mem_append_left _ (List.mem_of_getElem? (i := 59) (by decide +kernel))) rfl, mB (mt1 (List.mem_of_getElem? (i := 12) (by decide +kernel))) rfl, ⟨by decide +kernel, by decide +kernel, by decide +kernel⟩, mo_169, rfl⟩
theorem ml_137 : MLok (10, 230, 167, 0, 2) := ⟨mB (mt6 (List.mem_of_getElem? (i := 37) (by decide +kernel))) rfl, mB (mt6 (List.mem_of_getElem? (i := 39) (by decide +kernel))) rfl, mB (List.mem_append_left _ (List.mem_of_getElem? (i := 61) (by decide +kernel))) rfl, mB (mt1 (List.mem_of_getElem? (i := 12) (by decide +kernel))) rfl, ⟨by decide +kernel, by decide +kernel, by decide +kernel⟩, mo_167, rfl⟩
theorem ml_138 : MLok (10, 233, 168, 0, 1) := ⟨mB (mt6 (List.mem_of_getElem? (i := 66) (by decide +kernel))) rfl, mB (mt6 (List.mem_of_getElem? (i := 68) (by decide +kernel))) rfl, mB (List.mem_append_left _ (List.mem_of_getElem? (i := 68) (by decide +kernel))) rfl, mB (mt1 (List.mem_of_getElem? (i := 12) (by decide +kernel))) rfl, ⟨by decide +kernel, by decide +kernel, by decide +kernel⟩, mo_168, rfl⟩
theorem ml_139 : MLok (10, 236, 170, 0, 1) := ⟨mB (mt5 (List.mem_of_getElem? (i := 205) (by decide +kernel))) rfl, mB (mt5 (List.mem_of_getElem? (i := 207) (by decide +kernel))) rfl, mB (List.mem_append_left _ (List.mem_of_getElem? (i := 45) (by decide +kernel))) rfl, mB (mt1 (List.mem_of_getElem? (i := 12) (by decide +kernel))) rfl, ⟨by decide +kernel, by decide +kernel, by decide +kernel⟩, mo_170, rfl⟩
theorem ml_140 : MLok (10, 239, 171, 0, 2) := ⟨mB (mt5 (List.mem_of_getElem? (i := 201) (by decide +kernel))) rfl, mB (mt5 (List.mem_of_getElem? (i := 203) (by decide +kernel))) rfl, mB (List.mem_append_left _ (List.mem_of_getElem? (i := 44) (by decide +kernel))) rfl, mB (mt1 (List.mem_of_getElem? (i := 12) (by decide +kernel))) rfl, ⟨by decide +kernel, by decide +kernel, by decide +kernel⟩, mo_171, rfl⟩
theorem ml_141 : MLok (10, 242, 118, 0, 2) := ⟨mB (mt6 (List.mem_of_getElem? (i := 70) (by decide +kernel))) rfl, mB (mt6 (List.mem_of_getElem? (i := 72) (by decide +kernel))) rfl, mB (List.mem_append_left _ (List.mem_of_getElem? (i := 69) (by decide +kernel))) rfl, mB (mt1 (List.mem_of_getElem? (i := 12) (by decide +kernel))) rfl, ⟨by decide +kernel, by decide +kernel, by decide +kernel⟩, mo_118, rfl⟩
theorem ml_142 : MLok (10, 246, 173, 0, 1) := ⟨mB (mt6 (List.mem_of_getElem? (i := 78) (by decide +kernel))) rfl, mB (mt6 (List.mem_of_getElem? (i := 80) (by decide +kernel))) rfl, mB (List.mem_append_left _ (List.mem_of_getElem? (i := 70) (by decide +kernel))) rfl, mB (mt1 (List.mem_of_getElem? (i := 12) (by decide +kernel))) rfl, ⟨by decide +kernel, by decide +kernel, by decide +kernel⟩, mo_173, rfl⟩
theorem ml_143 : MLok (10, 249, 177, 0, 2) := ⟨mB (mt6 (List.mem_of_getElem? (i := 86) (by decide +kernel))) rfl, mB (mt6 (List.mem_of_getElem? (i := 88) (by decide +kernel))) rfl, mB (List.mem_append_left _ (List.mem_of_getElem? (i := 71) (by decide +kernel))) rfl, mB (mt1 (List.mem_of_getElem? (i := 12) (by decide +kernel))) rfl, ⟨by decide +kernel, by decide +kernel, by decide +kernel⟩, mo_177, rfl⟩
theorem ml_144 : MLok (10, 252, 182, 0, 2) := ⟨mB (mt6 (List.mem_of_getElem? (i := 102) (by decide +kernel))) rfl, mB (mt6 (List.mem_of_getElem? (i := 104) (by decide +kernel))) rfl, mB (List.mem_append_left _ (List.mem_of_getElem? (i := 72) (by decide +kernel))) rfl, mB (mt1 (List.mem_of_getElem? (i := 12) (by decide +kernel))) rfl, ⟨by decide +kernel, by decide +kernel, by decide +kernel⟩, mo_182, rfl⟩
theorem ml_145 : MLok (10, 255, 120, 1, 2) := ⟨Or.inl (mB (mt6 (List.mem_of_getElem? (i := 142) (by decide +kernel))) rfl), mB (mt6 (List.mem_of_getElem? (i := 143) (by decide +kernel))) rfl, mB (mt1 (List.mem_of_getElem? (i := 12) (by decide +kernel))) rfl, ⟨by decide +kernel, by decide +kernel, by decide +kernel⟩, mo_120, rfl⟩
theorem ml_146 : MLok (10, 259, 193, 1, 2) := ⟨Or.inl (mB (mt6 (List.mem_of_getElem? (i := 156) (by decide +kernel))) rfl), mB (mt6 (List.mem_of_getElem? (i := 157) (by decide +kernel))) rfl, mB (mt1 (List.mem_of_getElem? (i := 12) (by decide +kernel))) rfl, ⟨by decide +kernel, by decide +kernel, by decide +kernel⟩, mo_193, rfl⟩
theorem ml_147 : MLok (10, 262, 194, 1, 2) := ⟨Or.inl (mB (mt6 (List.mem_of_getElem? (i := 153) (by decide +kernel))) rfl), mB (mt6 (List.mem_of_getElem? (i := 154) (by decide +kernel))) rfl, mB (mt1 (List.mem_of_getElem? (i := 12) (by decide +kernel))) rfl, ⟨by decide +kernel, by decide +kernel, by decide +kernel⟩, mo_194, rfl⟩
theorem ml_148 : MLok (10, 265, 119, 1, 2) := ⟨Or.inl (mB (mt6 (List.mem_of_getElem? (i := 159) (by decide +kernel))) rfl), mB (mt6 (List.mem_of_getElem? (i := 160) (by decide +kernel))) rfl, mB (mt1 (List.mem_of_getElem? (i := 12) (by decide +kernel))) rfl, ⟨by decide +kernel, by decide +kernel, by decide +kernel⟩, mo_119, rfl⟩
theorem ml_149 : MLok (10, 270, 197, 0, 1) := ⟨mB (mt6 (List.mem_of_getElem? (i := 171) (by decide +kernel))) rfl, mB (mt6 (List.mem_of_getElem? (i := 173) (by decide +kernel))) rfl, mB (List.mem_append_left _ (List.mem_of_getElem? (i := 73) (by decide +kernel))) rfl, mB (mt1 (List.mem_of_getElem? (i := 12) (by decide +kernel))) rfl, ⟨by decide +kernel, by decide +kernel, by decide +kernel⟩, mo_197, rfl⟩
theorem ml_150 : MLok (10, 273, 176, 0, 1) := ⟨mB (mt6 (List.mem_of_getElem? (i := 175) (by decide +kernel))) rfl, mB (mt6 (List.mem_of_getElem? (i := 177) (by decide +kernel))) rfl, mB (List.mem_append_left _ (List.mem_of_getElem? (i := 74) (by decide +kernel))) rfl, mB (mt1 (List.mem_of_getElem? (i := 12) (by decide +kernel))) rfl, ⟨by decide +kernel, by decide +kernel, by decide +kernel⟩, mo_176, rfl⟩
theorem ml_151 : MLok (10, 276, 198, 0, 1) := ⟨mB (mt6 (List.mem_of_getElem? (i := 179) (by decide +kernel))) rfl, mB (mt6 (List.mem_of_getElem? (i := 181) (by decide +kernel))) rfl, mB (List.mem_append_left _ (List.mem_of_getElem? (i := 75) (by decide +kernel))) rfl, mB (mt1 (List.mem_of_getElem? (i := 12) (by decide +kernel))) rfl, ⟨by decide +kernel, by decide +kernel, by decide +kernel⟩, mo_198, rfl⟩
theorem ml_152 : MLok (10, 279, 200, 0, 1) := ⟨mB (mt6 (List.mem_of_getElem? (i := 187) (by decide +kernel))) rfl, mB (mt6 (List.mem_of_getElem? (i := 189) (by decide +kernel))) rfl, mB (List.mem_append_left _ (List.mem_of_getElem? (i := 76) (by decide +kernel))) rfl, mB (mt1 (List.mem_of_getElem? (i := 12) (by decide +kernel))) rfl, ⟨by decide +kernel, by decide +kernel, by decide +kernel⟩, mo_200, rfl⟩
theorem ml_153 : MLok (10, 282, 203, 0, 3) := ⟨mB (mt6 (List.mem_of_getElem? (i := 199) (by decide +kernel))) rfl, mB (mt6 (List.mem_of_getElem? (i := 201) (by decide +kernel))) rfl, mB (List.mem_append_left _ (List.mem_of_getElem? (i := 77) (by decide +kernel))) rfl, mB (mt1 (List.mem_of_getElem? (i := 12) (by decide +kernel))) rfl, ⟨by decide +kernel, by decide +kernel, by decide +kernel⟩, mo_203, rfl⟩
theorem ml_154 : MLok (10, 285, 136, 0, 1) := ⟨mB (mt6 (List.mem_of_getElem? (i := 211) (by decide +kernel))) rfl, mB (mt6 (List.mem_of_getElem? (i := 213) (by decide +kernel))) rfl, mB (List.mem_append_left _ (List.mem_of_getElem? (i := 79) (by decide +kernel))) rfl, mB (mt1 (List.mem_of_getElem? (i := 12) (by decide +kernel))) rfl, ⟨by decide +kernel, by decide +kernel, by decide +kernel⟩, mo_136, rfl⟩
theorem ml_155 : MLok (10, 288, 205, 0, 2) := ⟨mB (mt6 (List.mem_of_getElem? (i := 207) (by decide +kernel))) rfl, mB (mt6 (List.mem_of_getElem? (i := 209) (by decide +kernel))) rfl, mB (List.mem_append_left _ (List.mem_of_getElem? (i := 78) (by decide +kernel))) rfl, mB (mt1 (List.mem_of_getElem? (i := 12) (by decide +kernel))) rfl, ⟨by decide +kernel, by decide +kernel, by decide +kernel⟩, mo_205, rfl⟩
theorem ml_156 : MLok (10, 291, 206, 0, 2) := ⟨mB (mt6 (List.mem_of_getElem? (i := 215) (by decide +kernel))) rfl, mB (mt6 (List.mem_of_getElem? (i := 217) (by decide +kernel))) rfl, mB (List.mem_append_left _ (List.mem_of_getElem? (i := 80) (by decide +kernel))) rfl, mB (mt1 (List.mem_of_getElem? (i := 12) (by decide +kernel))) rfl, ⟨by decide +kernel, by decide +kernel, by decide +kernel⟩, mo_206, rfl⟩
theorem ml_157 : MLok (10, 294, 209, 0, 1) := ⟨mB (mt5 (List.mem_of_getElem? (i := 134) (by decide +kernel))) rfl, mB (mt5 (List.mem_of_getElem? (i := 136) (by decide +kernel))) rfl, mB (List.mem_append_left _ (List.mem_of_getElem? (i := 36) (by decide +kernel))) rfl, mB (mt1 (List.mem_of_getElem? (i := 12) (by decide +kernel))) rfl, ⟨by decide +kernel, by decide +kernel, by decide +kernel⟩, mo_209, rfl⟩
theorem ml_158 : MLok (10, 303, 211, 0, 2) := ⟨mB (mt6 (List.mem_of_getElem? (i := 227) (by decide +kernel))) rfl, mB (mt6 (List.mem_of_getElem? (i := 229) (by decide +kernel))) rfl, mB (List.mem_append_left _ (List.mem_of_getElem? (i := 81) (by decide +kernel))) rfl, mB (mt1 (List.mem_of_getElem? (i := 12) (by decide +kernel))) rfl, ⟨by decide +kernel, by decide +kernel, by decide +kernel⟩, mo_211, rfl⟩
theorem ml_159 : MLok (10, 306, 215, 0, 1) := ⟨mB (mt7 (List.mem_of_getElem? (i := 3) (by decide +kernel))) rfl, mB (mt7 (List.mem_of_getElem? (i := 5) (by decide +kernel))) rfl, mB (List.mem_append_left _ (List.mem_of_getElem? (i := 82) (by decide +kernel))) rfl, mB (mt1 (List.mem_of_getElem? (i := 12) (by decide +kernel))) rfl, ⟨by decide +kernel, by decide +kernel, by decide +kernel⟩, mo_215, rfl⟩
theorem ml_160 : MLok (11, 7, 69, 0, 2) := ⟨mB (mt4 (List.mem_of_getElem? (i := 147) (by decide +kernel))) rfl, mB (mt4 (List.mem_of_getElem? (i := 148) (by decide +kernel))) rfl, mB (mt4 (List.mem_of_getElem? (i := 149) (by decide +kernel))) rfl, mB (mt1 (List.mem_of_getElem? (i := 1) (by decide +kernel))) rfl, ⟨by decide +kernel, by decide +kernel, by decide +kernel⟩, mo_69, rfl⟩
theorem ml_161 : MLok (11, 15, 74, 0, 3) := ⟨mB (mt4 (List.mem_of_getElem? (i := 215) (by decide +kernel))) rfl, mB (mt4 (List.mem_of_getElem? (i := 216) (by decide +kernel))) rfl, mB (mt4 (List.mem_of_getElem? (i := 217) (by decide +kernel))) rfl, mB (mt1 (List.mem_of_getElem? (i := 1) (by decide +kernel))) rfl, ⟨by decide +kernel, by decide +kernel, by decide +kernel⟩, mo_74, rfl⟩
theorem ml_162 : MLok (11, 19, 75, 0, 4) := ⟨mB (mt4 (List.mem_of_getElem? (i := 224) (by decide +kernel))) rfl, mB (mt4 (List.mem_of_getElem? (i := 225) (by decide +kernel))) rfl, mB (mt4 (List.mem_of_getElem? (i := 226) (by decide +kernel))) rfl, mB (mt1 (List.mem_of_getElem? (i := 1) (by decide +kernel))) rfl, ⟨by decide +kernel, by decide +kernel, by decide +kernel⟩, mo_75, rfl⟩
theorem ml_163 : MLok (11, 23, 76, 0, 5) := ⟨mB (mt4 (List.mem_of_getElem? (i := 232) (by decide +kernel))) rfl, mB (mt4 (List.mem_of_getElem? (i := 233) (by decide +kernel))) rfl, mB (mt4 (List.mem_of_getElem? (i := 234) (by decide +kernel))) rfl, mB (mt1 (List.mem_of_getElem? (i := 1) (by decide +kernel))) rfl, ⟨by decide +kernel, by decide +kernel, by decide +kernel⟩, mo_76, rfl⟩
theorem ml_164 : MLok (11, 27, 82, 0, 3) := ⟨mB (mt4 (List.mem_of_getElem? (i := 239) (by decide +kernel))) rfl, mB (mt5 (List.mem_of_getElem? (i := 0) (by decide +kernel))) rfl, mB (mt5 (List.mem_of_getElem? (i := 1) (by decide +kernel))) rfl, mB (mt1 (List.mem_of_getElem? (i := 1) (by decide +kernel))) rfl, ⟨by decide +kernel, by decide +kernel, by decide +kernel⟩, mo_82, rfl⟩
theorem ml_165 : MLok (11, 30, 100, 0, 2) := ⟨mB (mt5 (List.mem_of_getElem? (i := 6) (by decide +kernel))) rfl, mB (mt5 (List.mem_of_getElem? (i := 7) (by decide +kernel))) rfl, mB (mt5 (List.mem_of_getElem? (i := 8) (by decide +kernel))) rfl, mB (mt1 (List.mem_of_getElem? (i := 1) (by decide +kernel))) rfl, ⟨by decide +kernel, by decide +kernel, by decide +kernel⟩, mo_100, rfl⟩
theorem ml_166 : MLok (11, 38, 65, 0, 2) := ⟨mB (mt2 (List.mem_of_getElem? (i := 166) (by decide +kernel))) rfl, mB (mt2 (List.mem_of_getElem? (i := 167) (by decide +kernel))) rfl, mB (mt2 (List.mem_of_getElem? (i := 168) (by decide +kernel))) rfl, mB (mt1 (List.mem_of_getElem? (i := 1) (by decide +kernel))) rfl, ⟨by decide +kernel, by decide +kernel, by decide +kernel⟩, mo_65, rfl⟩
theorem ml_167 : MLok (11, 41, 129, 0, 2) := ⟨mB (mt5 (List.mem_of_getElem? (i := 87) (by decide +kernel))) rfl, mB (mt5 (List.mem_of_getElem? (i := 88) (by decide +kernel))) rfl, mB (mt5 (List.mem_of_getElem? (i := 89) (by decide +kernel))) rfl, mB (mt1 (List.mem_of_getElem? (i := 12) (by decide +kernel))) rfl, ⟨by decide +kernel, by decide +kernel, by decide +kernel⟩, mo_129, rfl⟩
theorem ml_168 : MLok (11, 42, 66, 0, 2) := ⟨mB (mt2 (List.mem_of_getElem? (i := 174) (by decide +kernel))) rfl, mB (mt2 (List.mem_of_getElem? (i := 175) (by decide +kernel))) rfl, mB (mt2 (List.mem_of_getElem? (i := 176) (by decide +kernel))) rfl, mB (mt1 (List.mem_of_getElem? (i := 1) (by decide +kernel))) rfl, ⟨by decide +kernel, by decide +kernel, by decide +kernel⟩, mo_66, rfl⟩
theorem ml_169 : MLok (11, 46, 130, 0, 2) := ⟨mB (mt5 (List.mem_of_getElem? (i := 91) (by decide +kernel))) rfl, mB (mt5 (List.mem_of_getElem? (i := 92) (by decide +kernel))) rfl, mB (mt5 (List.mem_of_getElem? (i := 93) (by decide +kernel))) rfl, mB (mt1 (List.mem_of_getElem? (i := 12) (by decide +kernel))) rfl, ⟨by decide +kernel, by decide +kernel, by decide +kernel⟩, mo_130, rfl⟩
theorem ml_170 : MLok (11, 47, 67, 0, 1) := ⟨mB (mt2 (List.mem_of_getElem? (i := 182) (by decide +kernel))) rfl, mB (mt2 (List.mem_of_getElem? (i := 183) (by decide +kernel))) rfl, mB (mt2 (List.mem_of_getElem? (i := 184) (by decide +kernel))) rfl, mB (mt1 (List.mem_of_getElem? (i := 1) (by decide +kernel))) rfl, ⟨by decide +kernel, by decide +kernel, by decide +kernel⟩, mo_67, rfl⟩
theorem ml_171 : MLok (11, 51, 139, 0, 1) := ⟨mB (mt5 (List.mem_of_getElem? (i := 98) (by decide +kernel))) rfl, mB (mt5 (List.mem_of_getElem? (i := 99) (by decide +kernel))) rfl, mB (mt5 (List.mem_of_getElem? (i := 100) (by decide +kernel))) rfl, mB (mt1 (List.mem_of_getElem? (i := 12) (by decide +kernel))) rfl, ⟨by decide +kernel, by decide +kernel, by decide +kernel⟩, mo_139, rfl⟩
theorem ml_172 : MLok (11, 52, 68, 0, 3) := ⟨mB (mt3 (List.mem_of_getElem? (i := 5) (by decide +kernel))) rfl, mB (mt3 (List.mem_of_getElem? (i := 6) (by decide +kernel))) rfl, mB (mt3 (List.mem_of_getElem? (i := 7) (by decide +kernel))) rfl, mB (mt1 (List.mem_of_getElem? (i := 1) (by decide +kernel))) rfl, ⟨by decide +kernel, by decide +kernel, by decide +kernel⟩, mo_68, rfl⟩
theorem ml_173 : MLok (11, 55, 141, 0, 3) := ⟨mB (mt5 (List.mem_of_getElem? (i := 141) (by decide +kernel))) rfl, mB (mt5 (List.mem_of_getElem? (i := 142) (by decide +kernel))) rfl, mB (mt5 (List.mem_of_getElem? (i := 143) (by decide +kernel))) rfl, mB (mt1 (List.mem_of_getElem? (i := 12) (by decide +kernel))) rfl, ⟨by decide +kernel, by decide +kernel, by decide +kernel⟩, mo_141, rfl⟩
theorem ml_174 : MLok (11, 61, 142, 0, 2) := ⟨mB (mt5 (List.mem_of_getElem? (i := 148) (by decide +kernel))) rfl, mB (mt5 (List.mem_of_getElem? (i := 149) (by decide +kernel))) rfl, mB (mt5 (List.mem_of_getElem? (i := 150) (by decide +kernel))) rfl, mB (mt1 (List.mem_of_getElem? (i := 12) (by decide +kernel))) rfl, ⟨by decide +kernel, by decide +kernel, by decide +kernel⟩, mo_142, rfl⟩
theorem ml_175 : MLok (11, 62, 114, 0, 1) := ⟨mB (mt5 (List.mem_of_getElem? (i := 83) (by decide +kernel))) rfl, mB (mt5 (List.mem_of_getElem? (i := 84) (by decide +kernel))) rfl, mB (mt5 (List.mem_of_getElem? (i := 85) (by decide +kernel))) rfl, mB (mt1 (List.mem_of_getElem? (i := 12) (by decide +kernel))) rfl, ⟨by decide +kernel, by decide +kernel, by decide +kernel⟩, mo_114, rfl⟩
theorem ml_176 : MLok (11, 65, 70, 0, 6) := ⟨mB (mt3 (List.mem_of_getElem? (i := 11) (by decide +kernel))) rfl, mB (mt3 (List.mem_of_getElem? (i := 12) (by decide +kernel))) rfl, mB (mt3 (List.mem_of_getElem? (i := 13) (by decide +kernel))) rfl, mB (mt1 (List.mem_of_getElem? (i := 1) (by decide +kernel))) rfl, ⟨by decide +kernel, by decide +kernel, by decide +kernel⟩, mo_70, rfl⟩
theorem ml_177 : MLok (11, 69, 144, 0, 6) := ⟨mB (mt5 (List.mem_of_getElem? (i := 156) (by decide +kernel))) rfl, mB (mt5 (List.mem_of_getElem? (i := 157) (by decide +kernel))) rfl, mB (mt5 (List.mem_of_getElem? (i := 158) (by decide +kernel))) rfl, mB (mt1 (List.mem_of_getElem? (i := 12) (by decide +kernel))) rfl, ⟨by decide +kernel, by decide +kernel, by decide +kernel⟩, mo_144, rfl⟩
theorem ml_178 : MLok (11, 70, 71, 0, 5) := ⟨mB (mt3 (List.mem_of_getElem? (i := 45) (by decide +kernel))) rfl, mB (mt3 (List.mem_of_getElem? (i := 46) (by decide +kernel))) rfl, mB (mt3 (List.mem_of_getElem? (i := 47) (by decide +kernel))) rfl, mB (mt1 (List.mem_of_getElem? (i := 1) (by decide +kernel))) rfl, ⟨by decide +kernel, by decide +kernel, by decide +kernel⟩, mo_71, rfl⟩
theorem ml_179 : MLok (11, 73, 148, 0, 5) := ⟨mB (mt5 (List.mem_of_getElem? (i := 185) (by decide +kernel))) rfl, mB (mt5 (List.mem_of_getElem? (i := 186) (by decide +kernel))) rfl, mB (mt5 (List.mem_of_getElem? (i := 187) (by decide +kernel))) rfl, mB (mt1 (List.mem_of_getElem? (i := 12) (by decide +kernel))) rfl, ⟨by decide +kernel, by decide +kernel, by decide +kernel⟩, mo_148, rfl⟩
theorem ml_180 : MLok (11, 74, 72, 0, 2) := ⟨mB (mt3 (List.mem_of_getElem? (i := 55) (by decide +kernel))) rfl, mB (mt3 (List.mem_of_getElem? (i := 56) (by decide +kernel))) rfl, mB (mt3 (List.mem_of_getElem? (i := 57) (by decide +kernel))) rfl, mB (mt1 (List.mem_of_getElem? (i := 1) (by decide +kernel))) rfl, ⟨by decide +kernel, by decide +kernel, by decide +kernel⟩, mo_72, rfl⟩
theorem ml_181 : MLok (11, 77, 172, 0, 2) := ⟨mB (mt5 (List.mem_of_getElem? (i := 197) (by decide +kernel))) rfl, mB (mt5 (List.mem_of_getElem? (i := 198) (by decide +kernel))) rfl, mB (mt5 (List.mem_of_getElem? (i := 199) (by decide +kernel))) rfl, mB (mt1 (List.mem_of_getElem? (i := 12) (by decide +kernel))) rfl, ⟨by decide +kernel, by decide +kernel, by decide +kernel⟩, mo_172, rfl⟩
theorem ml_182 : MLok (11, 78, 73, 0, 1) := ⟨mB (mt3 (List.mem_of_getElem? (i := 228) (by decide +kernel))) rfl, mB (mt3 (List.mem_of_getElem? (i := 229) (by decide +kernel))) rfl, mB (mt3 (List.mem_of_getElem? (i := 230) (by decide +kernel))) rfl, mB (mt1 (List.mem_of_getElem? (i := 1) (by decide +kernel))) rfl, ⟨by decide +kernel, by decide +kernel, by decide +kernel⟩, mo_73, rfl⟩
theorem ml_183 : MLok (11, 81, 174, 0, 1) := ⟨mB (mt6 (List.mem_of_getElem? (i := 74) (by decide +kernel))) rfl, mB (mt6 (List.mem_of_getElem? (i := 75) (by decide +kernel))) rfl, mB (mt6 (List.mem_of_getElem? (i := 76) (by decide +kernel))) rfl, mB (mt1 (List.mem_of_getElem? (i := 12) (by decide +kernel))) rfl, ⟨by decide +kernel, by decide +kernel, by decide +kernel⟩, mo_174, rfl⟩
theorem ml_184 : MLok (11, 85, 178, 0, 3) := ⟨mB (mt6 (List.mem_of_getElem? (i := 82) (by decide +kernel))) rfl, mB (mt6 (List.mem_of_getElem? (i := 83) (by decide +kernel))) rfl, mB (mt6 (List.mem_of_getElem? (i := 84) (by decide +kernel))) rfl, mB (mt1 (List.mem_of_getElem? (i := 12) (by decide +kernel))) rfl, ⟨by decide +kernel, by decide +kernel, by decide +kernel⟩, mo_178, rfl⟩
theorem ml_185 : MLok (11, 89, 179, 0, 4) := ⟨mB (mt6 (List.mem_of_getElem? (i := 90) (by decide +kernel))) rfl, mB (mt6 (List.mem_of_getElem? (i := 91) (by decide +kernel))) rfl, mB (mt6 (List.mem_of_getElem? (i := 92) (by decide +kernel))) rfl, mB (mt1 (List.mem_of_getElem? (i := 12) (by decide +kernel))) rfl, ⟨by decide +kernel, by decide +kernel, by decide +kernel⟩, mo_179, rfl⟩
theorem ml_186 : MLok (11, 93, 180, 0, 5) := ⟨mB (mt6 (List.mem_of_getElem? (i := 94) (by decide +kernel))) rfl, mB (mt6 (List.mem_of_getElem? (i := 95) (by decide +kernel))) rfl, mB (mt6 (List.mem_of_getElem? (i := 96) (by decide +kernel))) rfl, mB (mt1 (List.mem_of_getElem? (i := 12) (by decide +kernel))) rfl, ⟨by decide +kernel, by decide +kernel, by decide +kernel⟩, mo_180, rfl⟩
theorem ml_187 : MLok (11, 94, 77, 0, 3) := ⟨mB (mt3 (List.mem_of_getElem? (i := 236) (by decide +kernel))) rfl, mB (mt3 (List.mem_of_getElem? (i := 237) (by decide +kernel))) rfl, mB (mt3 (List.mem_of_getElem? (i := 238) (by decide +kernel))) rfl, mB (mt1 (List.mem_of_getElem? (i := 1) (by decide +kernel))) rfl, ⟨by decide +kernel, by decide +kernel, by decide +kernel⟩, mo_77, rfl⟩
theorem ml_188 : MLok (11, 97, 181, 0, 3) := ⟨mB (mt6 (List.mem_of_getElem? (i := 98) (by decide +kernel))) rfl, mB (mt6 (List.mem_of_getElem? (i := 99) (by decide +kernel))) rfl, mB (mt6 (List.mem_of_getElem? (i := 100) (by decide +kernel))) rfl, mB (mt1 (List.mem_of_getElem? (i := 12) (by decide +kernel))) rfl, ⟨by decide +kernel, by decide +kernel, by decide +kernel⟩, mo_181, rfl⟩
theorem ml_189 : MLok (11, 98, 78, 0, 1) := ⟨mB (mt4 (List.mem_of_getElem? (i := 4) (by decide +kernel))) rfl, mB (mt4 (List.mem_of_getElem? (i := 5) (by decide +kernel))) rfl, mB (mt4 (List.mem_of_getElem? (i := 6) (by decide +kernel))) rfl, mB (mt1 (List.mem_of_getElem? (i := 1) (by decide +kernel))) rfl, ⟨by decide +kernel, by decide +kernel, by decide +kernel⟩, mo_78, rfl⟩
theorem ml_190 : MLok (11, 101, 183, 0, 1) := ⟨mB (mt6 (List.mem_of_getElem? (i := 106) (by decide +kernel))) rfl, mB (mt6 (List.mem_of_getElem? (i := 107) (by decide +kernel))) rfl, mB (mt6 (List.mem_of_getElem? (i := 108) (by decide +kernel))) rfl, mB (mt1 (List.mem_of_getElem? (i := 12) (by decide +kernel))) rfl, ⟨by decide +kernel, by decide +kernel, by decide +kernel⟩, mo_183, rfl⟩
theorem ml_191 : MLok (11, 102, 79, 0, 2) := ⟨mB (mt4 (List.mem_of_getElem? (i := 9) (by decide +kernel))) rfl, mB (mt4 (List.mem_of_getElem? (i := 10) (by decide +kernel))) rfl, mB (mt4 (List.mem_of_getElem? (i := 11) (by decide +kernel))) rfl, mB (mt1 (List.mem_of_getElem? (i := 1) (by decide +kernel))) rfl, ⟨by decide +kernel, by decide +kernel, by decide +kernel⟩, mo_79, rfl⟩
theorem ml_192 : MLok (11, 105, 184, 0, 2) := ⟨mB (mt6 (List.mem_of_getElem? (i := 110) (by decide +kernel))) rfl, mB (mt6 (List.mem_of_getElem? (i := 111) (by decide +kernel))) rfl, mB (mt6 (List.mem_of_getElem? (i := 112) (by decide +kernel))) rfl, mB (mt1 (List.mem_of_getElem? (i := 12) (by decide +kernel))) rfl, ⟨by decide +kernel, by decide +kernel, by decide +kernel⟩, mo_184, rfl⟩
theorem ml_193 : MLok (11, 106, 80, 0, 3) := ⟨mB (mt4 (List.mem_of_getElem? (i := 13) (by decide +kernel))) rfl, mB (mt4 (List.mem_of_getElem? (i := 14) (by decide +kernel))) rfl, mB (mt4 (List.mem_of_getElem? (i := 15) (by decide +kernel))) rfl, mB (mt1 (List.mem_of_getElem? (i := 1) (by decide +kernel))) rfl, ⟨by decide +kernel, by decide +kernel, by decide +kernel⟩, mo_80, rfl⟩
theorem ml_194 : MLok (11, 109, 185, 0, 3) := ⟨mB (mt6 (List.mem_of_getElem? (i := 114) (by decide +kernel))) rfl, mB (mt6 (List.mem_of_getElem? (i := 115) (by decide +kernel))) rfl, mB (mt6 (List.mem_of_getElem? (i := 116) (by decide +kernel))) rfl, mB (mt1 (List.mem_of_getElem? (i := 12) (by decide +kernel))) rfl, ⟨by decide +kernel, by decide +kernel, by decide +kernel⟩, mo_185, rfl⟩
theorem ml_195 : MLok (11, 110, 81, 0, 1) := ⟨mB (mt4 (List.mem_of_getElem? (i := 17) (by decide +kernel))) rfl, mB (mt4 (List.mem_of_getElem? (i := 18) (by decide +kernel))) rfl, mB (mt4 (List.mem_of_getElem? (i := 19) (by decide +kernel))) rfl, mB (mt1 (List.mem_of_getElem? (i := 1) (by decide +kernel))) rfl, ⟨by decide +kernel, by decide +kernel, by decide +kernel⟩, mo_81, rfl⟩
theorem ml_196 : MLok (11, 113, 186, 0, 1) := ⟨mB (mt6 (List.mem_of_getElem? (i := 118) (by decide +kernel))) rfl, mB (mt6 (List.mem_of_getElem? (i := 119) (by decide +kernel))) rfl, mB (mt6 (List.mem_of_getElem? (i := 120) (by decide +kernel))) rfl, mB (mt1 (List.mem_of_getElem? (i := 12) (by decide +kernel))) rfl, ⟨by decide +kernel, by decide +kernel, by decide +kernel⟩, mo_186, rfl⟩
theorem ml_197 : MLok (11, 116, 187, 0, 3) := ⟨mB (mt6 (List.mem_of_getElem? (i := 122) (by decide +kernel))) rfl, mB (mt6 (List.mem_of_getElem? (i := 123) (by decide +kernel))) rfl, mB (mt6 (List.mem_of_getElem? (i := 124) (by decide +kernel))) rfl, mB (mt1 (List.mem_of_getElem? (i := 12) (by decide +kernel))) rfl, ⟨by decide +kernel, by decide +kernel, by decide +kernel⟩, mo_187, rfl⟩
theorem ml_198 : MLok (11, 117, 83, 0, 2) := ⟨mB (mt4 (List.mem_of_getElem? (i := 24) (by decide +kernel))) rfl, mB (mt4 (List.mem_of_getElem? (i := 25) (by decide +kernel))) rfl, mB (mt4 (List.mem_of_getElem? (i := 26) (by decide +kernel))) rfl, mB (mt1 (List.mem_of_getElem? (i := 1) (by decide +kernel))) rfl, ⟨by decide +kernel, by decide +kernel, by decide +kernel⟩, mo_83, rfl⟩
theorem ml_199 : MLok (11, 120, 189, 0, 2) := ⟨mB (mt6 (List.mem_of_getElem? (i := 130) (by decide +kernel))) rfl, mB (mt6 (List.mem_of_getElem? (i := 131) (by decide +kernel))) rfl, mB (mt6 (List.mem_of_getElem? (i := 132) (by decide +kernel))) rfl, mB (mt1 (List.mem_of_getElem? (i := 12) (by decide +kernel))) rfl, ⟨by decide +kernel, by decide +kernel, by decide +kernel⟩, mo_189, rfl⟩
theorem ml_200 : MLok (11, 121, 84, 0, 3) := ⟨mB (mt4 (List.mem_of_getElem? (i := 28) (by decide +kernel))) rfl, mB (mt4 (List.mem_of_getElem? (i := 29) (by decide +kernel))) rfl, mB (mt4 (List.mem_of_getElem? (i := 30) (by decide +kernel))) rfl, mB (mt1 (List.mem_of_getElem? (i := 1) (by decide +kernel))) rfl, ⟨by decide +kernel, by decide +kernel, by decide +kernel⟩, mo_84, rfl⟩
theorem ml_201 : MLok (11, 124, 190, 0, 3) := ⟨mB (mt6 (List.mem_of_getElem? (i := 134) (by decide +kernel))) rfl, mB (mt6 (List.mem_of_getElem? (i := 135) (by decide +kernel))) rfl, mB (mt6 (List.mem_of_getElem? (i := 136) (by decide +kernel))) rfl, mB (mt1 (List.mem_of_getElem? (i := 12) (by decide +kernel))) rfl, ⟨by decide +kernel, by decide +kernel, by decide +kernel⟩, mo_190, rfl⟩
theorem ml_202 : MLok (11, 125, 85, 0, 2) := ⟨mB (mt4 (List.mem_of_getElem? (i := 33) (by decide +kernel))) rfl, mB (mt4 (List.mem_of_getElem? (i := 34) (by decide +kernel))) rfl, mB (mt4 (List.mem_of_getElem? (i := 35) (by decide +kernel))) rfl, mB (mt1 (List.mem_of_getElem? (i := 1) (by decide +kernel))) rfl, ⟨by decide +kernel, by decide +kernel, by decide +kernel⟩, mo_85, rfl⟩
theorem ml_203 : MLok (11, 128, 188, 0, 2) := ⟨mB (mt6 (List.mem_of_getElem? (i := 126) (by decide +kernel))) rfl, mB (mt6 (List.mem_of_getElem? (i := 127) (by decide +kernel))) rfl, mB (mt6 (List.mem_of_getElem? (i := 128) (by decide +kernel))) rfl, mB (mt1 (List.mem_of_getElem? (i := 12) (by decide +kernel))) rfl, ⟨by decide +kernel, by decide +kernel, by decide +kernel⟩, mo_188, rfl⟩
theorem ml_204 : MLok (11, 129, 86, 0, 1) := ⟨mB (mt4 (List.mem_of_getElem? (i := 37) (by decide +kernel))) rfl, mB (mt4 (List.mem_of_getElem? (i := 38) (by decide +kernel))) rfl, mB (mt4 (List.mem_of_getElem? (i := 39) (by decide +kernel))) rfl, mB (mt1 (List.mem_of_getElem? (i := 1) (by decide +kernel))) rfl, ⟨by decide +kernel, by decide +kernel, by decide +kernel⟩, mo_86, rfl⟩
theorem ml_205 : MLok (11, 132, 191, 0, 1) := ⟨mB (mt6 (List.mem_of_getElem? (i := 138) (by decide +kernel))) rfl, mB (mt6 (List.mem_of_getElem? (i := 139) (by decide +kernel))) rfl, mB (mt6 (List.mem_of_getElem? (i := 140) (by decide +kernel))) rfl, mB (mt1 (List.mem_of_getElem? (i := 12) (by decide +kernel))) rfl, ⟨by decide +kernel, by decide +kernel, by decide +kernel⟩, mo_191, rfl⟩
theorem ml_206 : MLok (11, 133, 87, 0, 1) := ⟨mB (mt4 (List.mem_of_getElem? (i := 45) (by decide +kernel))) rfl, mB (mt4 (List.mem_of_getElem? (i := 46) (by decide +kernel))) rfl, mB (mt4 (List.mem_of_getElem? (i := 47) (by decide +kernel))) rfl, mB (mt1 (List.mem_of_getElem? (i := 1) (by decide +kernel))) rfl, ⟨by decide +kernel, by decide +kernel, by decide +kernel⟩, mo_87, rfl⟩
theorem ml_207 : MLok (11, 136, 192, 0, 1) := ⟨mB (mt6 (List.mem_of_getElem? (i := 145) (by decide +kernel))) rfl, mB (mt6 (List.mem_of_getElem? (i := 146) (by decide +kernel))) rfl, mB (mt6 (List.mem_of_getElem? (i := 147) (by decide +kernel))) rfl, mB (mt1 (List.mem_of_getElem? (i := 12) (by decide +kernel))) rfl, ⟨by decide +kernel, by decide +kernel, by decide +kernel⟩, mo_192, rfl⟩
theorem ml_208 : MLok (11, 137, 88, 0, 3) := ⟨mB (mt4 (List.mem_of_getElem? (i := 49) (by decide +kernel))) rfl, mB (mt4 (List.mem_of_getElem? (i := 50) (by decide +kernel))) rfl, mB (mt4 (List.mem_of_getElem? (i := 51) (by decide +kernel))) rfl, mB (mt1 (List.mem_of_getElem? (i := 1) (by decide +kernel))) rfl, ⟨by decide +kernel, by decide +kernel, by decide +kernel⟩, mo_88, rfl⟩
theorem ml_209 : MLok (11, 140, 195, 0, 3) := ⟨mB (mt6 (List.mem_of_getElem? (i := 149) (by decide +kernel))) rfl, mB (mt6 (List.mem_of_getElem? (i := 150) (by decide +kernel))) rfl, mB (mt6 (List.mem_of_getElem? (i := 151) (by decide +kernel))) rfl, mB (mt1 (List.mem_of_getElem? (i := 12) (by decide +kernel))) rfl, ⟨by decide +kernel, by decide +kernel, by decide +kernel⟩, mo_195, rfl⟩
theorem ml_210 : MLok (11, 141, 89, 0, 3) := ⟨mB (mt4 (List.mem_of_getElem? (i := 59) (by decide +kernel))) rfl, mB (mt4 (List.mem_of_getElem? (i := 60) (by decide +kernel))) rfl, mB (mt4 (List.mem_of_getElem? (i := 61) (by decide +kernel))) rfl, mB (mt1 (List.mem_of_getElem? (i := 1) (by decide +kernel))) rfl, ⟨by decide +kernel, by decide +kernel, by decide +kernel⟩, mo_89, rfl⟩
theorem ml_211 : MLok (11, 144, 196, 0, 3) := ⟨mB (mt6 (List.mem_of_getElem? (i := 162) (by decide +kernel))) rfl, mB (mt6 (List.mem_of_getElem? (i := 163) (by decide +kernel))) rfl, mB (mt6 (List.mem_of_getElem? (i := 164) (by decide +kernel))) rfl, mB (mt1 (List.mem_of_getElem? (i := 12) (by decide +kernel))) rfl, ⟨by decide +kernel, by decide +kernel, by decide +kernel⟩, mo_196, rfl⟩
theorem ml_212 : MLok (11, 145, 90, 0, 3) := ⟨mB (mt4 (List.mem_of_getElem? (i := 64) (by decide +kernel))) rfl, mB (mt4 (List.mem_of_getElem? (i := 65) (by decide +kernel))) rfl, mB (mt4 (List.mem_of_getElem? (i := 66) (by decide +kernel))) rfl, mB (mt1 (List.mem_of_getElem? (i := 1) (by decide +kernel))) rfl, ⟨by decide +kernel, by decide +kernel, by decide +kernel⟩, mo_90, rfl⟩
theorem ml_213 : MLok (11, 148, 199, 0, 3) := ⟨mB (mt6 (List.mem_of_getElem? (i := 167) (by decide +kernel))) rfl, mB (mt6 (List.mem_of_getElem? (i := 168) (by decide +kernel))) rfl, mB (mt6 (List.mem_of_getElem? (i := 169) (by decide +kernel))) rfl, mB (mt1 (List.mem_of_getElem? (i := 12) (by decide +kernel))) rfl, ⟨by decide +kernel, by decide +kernel, by decide +kernel⟩, mo_199, rfl⟩
theorem ml_214 : MLok (11, 149, 91, 0, 1) := ⟨mB (mt4 (List.mem_of_getElem? (i := 73) (by decide +kernel))) rfl, mB (mt4 (List.mem_of_getElem? (i := 74) (by decide +kernel))) rfl, mB (mt4 (List.mem_of_getElem? (i := 75) (by decide +kernel))) rfl, mB (mt1 (List.mem_of_getElem? (i := 1) (by decide +kernel))) rfl, ⟨by decide +kernel, by decide +kernel, by decide +kernel⟩, mo_91, rfl⟩
theorem ml_215 : MLok (11, 152, 201, 0, 1) := ⟨mB (mt6 (List.mem_of_getElem? (i := 183) (by decide +kernel))) rfl, mB (mt6 (List.mem_of_getElem? (i := 184) (by decide +kernel))) rfl, mB (mt6 (List.mem_of_getElem? (i := 185) (by decide +kernel))) rfl, mB (mt1 (List.mem_of_getElem? (i := 12) (by decide +kernel))) rfl, ⟨by decide +kernel, by decide +kernel, by decide +kernel⟩, mo_201, rfl⟩
theorem ml_216 : MLok (11, 153, 92, 0, 1) := ⟨mB (mt4 (List.mem_of_getElem? (i := 77) (by decide +kernel))) rfl, mB (mt4 (List.mem_of_getElem? (i := 78) (by decide +kernel))) rfl, mB (mt4 (List.mem_of_getElem? (i := 79) (by decide +kernel))) rfl, mB (mt1 (List.mem_of_getElem? (i := 1) (by decide +kernel))) rfl, ⟨by decide +kernel, by decide +kernel, by decide +kernel⟩, mo_92, rfl⟩
theorem ml_217 : MLok (11, 156, 202, 0, 1) := ⟨mB (mt6 (List.mem_of_getElem? (i := 191) (by decide +kernel))) rfl, mB (mt6 (List.mem_of_getElem? (i := 192) (by decide +kernel))) rfl, mB (mt6 (List.mem_of_getElem? (i := 193) (by decide +kernel))) rfl, mB (mt1 (List.mem_of_getElem? (i := 12) (by decide +kernel))) rfl, ⟨by decide +kernel, by decide +kernel, by decide +kernel⟩, mo_202, rfl⟩
theorem ml_218 : MLok (11, 157, 93, 0, 2) := ⟨mB (mt4 (List.mem_of_getElem? (i := 81) (by decide +kernel))) rfl, mB (mt4 (List.mem_of_getElem? (i := 82) (by decide +kernel))) rfl, mB (mt4 (List.mem_of_getElem? (i := 83) (by decide +kernel))) rfl, mB (mt1 (List.mem_of_getElem? (i := 1) (by decide +kernel))) rfl, ⟨by decide +kernel, by decide +kernel, by decide +kernel⟩, mo_93, rfl⟩
theorem ml_219 : MLok (11, 160, 204, 0, 2) := ⟨mB (mt6 (List.mem_of_getElem? (i := 195) (by decide +kernel))) rfl, mB (mt6 (List.mem_of_getElem? (i := 196) (by decide +kernel))) rfl, mB (mt6 (List.mem_of_getElem? (i := 197) (by decide +kernel))) rfl, mB (mt1 (List.mem_of_getElem? (i := 12) (by decide +kernel))) rfl, ⟨by decide +kernel, by decide +kernel, by decide +kernel⟩, mo_204, rfl⟩
theorem ml_220 : MLok (11, 161, 94, 0, 1) := ⟨mB (mt4 (List.mem_of_getElem? (i := 93) (by decide +kernel))) rfl, mB (mt4 (List.mem_of_getElem? (i := 94) (by decide +kernel))) rfl, mB (mt4 (List.mem_of_getElem? (i := 95) (by decide +kernel))) rfl, mB (mt1 (List.mem_of_getElem? (i := 1) (by decide +kernel))) rfl, ⟨by decide +kernel, by decide +kernel, by decide +kernel⟩, mo_94, rfl⟩
theorem ml_221 : MLok (11, 164, 207, 0, 1) := ⟨mB (mt6 (List.mem_of_getElem? (i := 203) (by decide +kernel))) rfl, mB (mt6 (List.mem_of_getElem? (i := 204) (by decide +kernel))) rfl, mB (mt6 (List.mem_of_getElem? (i := 205) (by decide +kernel))) rfl, mB (mt1 (List.mem_of_getElem? (i := 12) (by decide +kernel))) rfl, ⟨by decide +kernel, by decide +kernel, by decide +kernel⟩, mo_207, rfl⟩
theorem ml_222 : MLok (11, 165, 95, 0, 1) := ⟨mB (mt4 (List.mem_of_getElem? (i := 114) (by decide +kernel))) rfl, mB (mt4 (List.mem_of_getElem? (i := 115) (by decide +kernel))) rfl, mB (mt4 (List.mem_of_getElem? (i := 116) (by decide +kernel))) rfl, mB (mt1 (List.mem_of_getElem? (i := 1) (by decide +kernel))) rfl, ⟨by decide +kernel, by decide +kernel, by decide +kernel⟩, mo_95, rfl⟩
theorem ml_223 : MLok (11, 168, 210, 0, 1) := ⟨mB (mt6 (List.mem_of_getElem? (i := 219) (by decide +kernel))) rfl, mB (mt6 (List.mem_of_getElem? (i := 220) (by decide +kernel))) rfl, mB (mt6 (List.mem_of_getElem? (i := 221) (by decide +kernel))) rfl, mB (mt1 (List.mem_of_getElem? (i := 12) (by decide +kernel))) rfl, ⟨by decide +kernel, by decide +kernel, by decide +kernel⟩, mo_210, rfl⟩
theorem ml_224 : MLok (11, 169, 96, 0, 3) := ⟨mB (mt4 (List.mem_of_getElem? (i := 122) (by decide +kernel))) rfl, mB (mt4 (List.mem_of_getElem? (i := 123) (by decide +kernel))) rfl, mB (mt4 (List.mem_of_getElem? (i := 124) (by decide +kernel))) rfl, mB (mt1 (List.mem_of_getElem? (i := 1) (by decide +kernel))) rfl, ⟨by decide +kernel, by decide +kernel, by decide +kernel⟩, mo_96, rfl⟩
theorem ml_225 : MLok (11, 172, 212, 0, 3) := ⟨mB (mt6 (List.mem_of_getElem? (i := 223) (by decide +kernel))) rfl, mB (mt6 (List.mem_of_getElem? (i := 224) (by decide +kernel))) rfl, mB (mt6 (List.mem_of_getElem? (i := 225) (by decide +kernel))) rfl, mB (mt1 (List.mem_of_getElem? (i := 12) (by decide +kernel))) rfl, ⟨by decide +kernel, by decide +kernel, by decide +kernel⟩, mo_212, rfl⟩
theorem ml_226 : MLok (11, 173, 97, 0, 2) := ⟨mB (mt4 (List.mem_of_getElem? (i := 131) (by decide +kernel))) rfl, mB (mt4 (List.mem_of_getElem? (i := 132) (by decide +kernel))) rfl, mB (mt4 (List.mem_of_getElem? (i := 133) (by decide +kernel))) rfl, mB (mt1 (List.mem_of_getElem? (i := 1) (by decide +kernel))) rfl, ⟨by decide +kernel, by decide +kernel, by decide +kernel⟩, mo_97, rfl⟩
theorem ml_227 : MLok (11, 176, 213, 0, 2) := ⟨mB (mt6 (List.mem_of_getElem? (i := 231) (by decide +kernel))) rfl, mB (mt6 (List.mem_of_getElem? (i := 232) (by decide +kernel))) rfl, mB (mt6 (List.mem_of_getElem? (i := 233) (by decide +kernel))) rfl, mB (mt1 (List.mem_of_getElem? (i := 12) (by decide +kernel))) rfl, ⟨by decide +kernel, by decide +kernel, by decide +kernel⟩, mo_213, rfl⟩
theorem ml_228 : MLok (11, 177, 98, 0, 2) := ⟨mB (mt4 (List.mem_of_getElem? (i := 135) (by decide +kernel))) rfl, mB (mt4 (List.mem_of_getElem? (i := 136) (by decide +kernel))) rfl, mB (mt4 (List.mem_of_getElem? (i := 137) (by decide +kernel))) rfl, mB (mt1 (List.mem_of_getElem? (i := 1) (by decide +kernel))) rfl, ⟨by decide +kernel, by decide +kernel, by decide +kernel⟩, mo_98, rfl⟩
theorem ml_229 : MLok (11, 180, 214, 0, 2) := ⟨mB (mt6 (List.mem_of_getElem? (i := 235) (by decide +kernel))) rfl, mB (mt6 (List.mem_of_getElem? (i := 236) (by decide +kernel))) rfl, mB (mt6 (List.mem_of_getElem? (i := 237) (by decide +kernel))) rfl, mB (mt1 (List.mem_of_getElem? (i := 12) (by decide +kernel))) rfl, ⟨by decide +kernel, by decide +kernel, by decide +kernel⟩, mo_214, rfl⟩
theorem ml_230 : MLok (11, 181, 99, 0, 2) := ⟨mB (mt4 (List.mem_of_getElem? (i := 139) (by decide +kernel))) rfl, mB (mt4 (List.mem_of_getElem? (i := 140) (by decide +kernel))) rfl, mB (mt4 (List.mem_of_getElem? (i := 141) (by decide +kernel))) rfl, mB (mt1 (List.mem_of_getElem? (i := 1) (by decide +kernel))) rfl, ⟨by decide +kernel, by decide +kernel, by decide +kernel⟩, mo_99, rfl⟩
theorem ml_231 : MLok (11, 184, 216, 0, 2) := ⟨mB (mt6 (List.mem_of_getElem? (i := 239) (by decide +kernel))) rfl, mB (mt7 (List.mem_of_getElem? (i := 0) (by decide +kernel))) rfl, mB (mt7 (List.mem_of_getElem? (i := 1) (by decide +kernel))) rfl, mB (mt1 (List.mem_of_getElem? (i := 12) (by decide +kernel))) rfl, ⟨by decide +kernel, by decide +kernel, by decide +kernel⟩, mo_216, rfl⟩
theorem ml_232 : MLok (11, 187, 217, 0, 2) := ⟨mB (mt7 (List.mem_of_getElem? (i := 7) (by decide +kernel))) rfl, mB (mt7 (List.mem_of_getElem? (i := 8) (by decide +kernel))) rfl, mB (mt7 (List.mem_of_getElem? (i := 9) (by decide +kernel))) rfl, mB (mt1 (List.mem_of_getElem? (i := 12) (by decide +kernel))) rfl, ⟨by decide +kernel, by decide +kernel, by decide +kernel⟩, mo_217, rfl⟩
def ML : List (Nat × Nat × Nat × Nat × Nat) := [(0, 45, 59, 0, 2), (0, 77, 2, 0, 3), (0, 129, 62, 0, 3), (0, 137, 38, 0, 1), (0, 145, 61, 0, 1), (0, 149, 102, 1, 1), (0, 153, 3, 0, 3), (0, 157, 50, 0, 4), (0, 164, 34, 0, 2), (0, 168, 14, 0, 1), (0, 171, 60, 0, 1), (0, 175, 15, 0, 2), (0, 179, 18, 0, 1), (0, 182, 21, 0, 1), (0, 185, 22, 0, 1), (0, 194, 24, 0, 4), (0, 198, 25, 0, 4), (0, 201, 26, 0, 4), (0, 204, 29, 0, 4), (0, 207, 33, 0, 2), (0, 210, 12, 0, 3), (0, 213, 16, 0, 3), (0, 216, 32, 0, 3), (0, 219, 49, 0, 3), (0, 226, 53, 0, 2), (0, 234, 17, 1, 2), (0, 264, 36, 0, 1), (0, 270, 19, 0, 2), (0, 273, 218, 1, 1), (0, 287, 20, 0, 3), (0, 290, 64, 0, 4), (0, 293, 23, 0, 6), (0, 297, 63, 0, 3), (0, 300, 31, 0, 3), (0, 307, 27, 1, 2), (0, 311, 28, 1, 2), (0, 318, 30, 0, 3), (0, 324, 39, 0, 3), (0, 327, 52, 0, 2), (0, 330, 51, 0, 2), (4, 19, 40, 0, 1), (4, 22, 41, 0, 2), (4, 26, 42, 0, 2), (4, 29, 43, 0, 3), (5, 22, 0, 0, 2), (6, 31, 49, 0, 3), (7, 19, 56, 0, 2), (8, 46, 48, 0, 2), (8, 50, 35, 0, 2), (8, 53, 37, 0, 2), (8, 87, 62, 0, 3), (9, 59, 54, 0, 2), (9, 67, 55, 0, 2), (9, 70, 57, 0, 4), (9, 74, 103, 0, 2), (9, 78, 46, 0, 2), (9, 82, 1, 0, 3), (9, 101, 102, 1, 1), (9, 104, 6, 0, 1), (9, 108, 7, 0, 2), (9, 115, 104, 1, 2), (9, 119, 105, 0, 4), (9, 123, 8, 0, 5), (9, 127, 9, 0, 5), (9, 130, 4, 0, 2), (9, 133, 13, 0, 1), (9, 136, 44, 0, 4), (9, 140, 11, 0, 1), (9, 143, 101, 0, 2), (9, 158, 60, 0, 1), (9, 171, 61, 0, 1), (9, 189, 12, 0, 3), (9, 235, 43, 0, 3), (9, 248, 3, 0, 3), (9, 260, 40, 0, 1), (9, 265, 41, 0, 2), (9, 291, 42, 0, 2), (9, 306, 45, 0, 3), (9, 318, 106, 1, 2), (9, 322, 107, 1, 2), (9, 327, 0, 0, 2), (9, 330, 5, 0, 1), (9, 334, 108, 0, 3), (9, 337, 110, 0, 1), (9, 340, 112, 0, 2), (9, 343, 109, 0, 2), (9, 346, 47, 0, 2), (9, 351, 34, 0, 2), (9, 354, 113, 0, 1), (9, 361, 58, 0, 3), (9, 364, 10, 0, 3), (9, 371, 56, 0, 2), (9, 374, 111, 0, 2), (10, 59, 115, 1, 3), (10, 63, 123, 0, 3), (10, 67, 125, 1, 2), (10, 82, 133, 0, 1), (10, 86, 132, 0, 1), (10, 90, 134, 0, 2), (10, 94, 135, 0, 3), (10, 98, 131, 0, 1), (10, 101, 138, 0, 2), (10, 105, 137, 0, 1), (10, 108, 208, 0, 1), (10, 111, 140, 1, 1), (10, 114, 117, 0, 1), (10, 117, 127, 1, 1), (10, 120, 122, 1, 1), (10, 124, 143, 0, 1), (10, 127, 124, 0, 3), (10, 131, 145, 0, 6), (10, 135, 126, 1, 3), (10, 139, 121, 0, 2), (10, 142, 147, 0, 5), (10, 146, 128, 0, 2), (10, 149, 146, 0, 4), (10, 153, 151, 0, 4), (10, 156, 153, 0, 4), (10, 164, 152, 0, 3), (10, 168, 155, 1, 2), (10, 171, 149, 0, 2), (10, 174, 116, 1, 2), (10, 177, 150, 0, 3), (10, 180, 156, 0, 3), (10, 183, 154, 0, 3), (10, 189, 160, 0, 3), (10, 192, 159, 0, 3), (10, 198, 161, 0, 5), (10, 202, 162, 0, 4), (10, 205, 163, 0, 4), (10, 208, 164, 0, 3), (10, 212, 165, 0, 2), (10, 215, 166, 0, 2), (10, 218, 175, 0, 2), (10, 221, 157, 0, 1), (10, 224, 158, 0, 1), (10, 227, 169, 0, 1), (10, 230, 167, 0, 2), (10, 233, 168, 0, 1), (10, 236, 170, 0, 1), (10, 239, 171, 0, 2), (10, 242, 118, 0, 2), (10, 246, 173, 0, 1), (10, 249, 177, 0, 2), (10, 252, 182, 0, 2), (10, 255, 120, 1, 2), (10, 259, 193, 1, 2), (10, 262, 194, 1, 2), (10, 265, 119, 1, 2), (10, 270, 197, 0, 1), (10, 273, 176, 0, 1), (10, 276, 198, 0, 1), (10, 279, 200, 0, 1), (10, 282, 203, 0, 3), (10, 285, 136, 0, 1), (10, 288, 205, 0, 2), (10, 291, 206, 0, 2), (10, 294, 209, 0, 1), (10, 303, 211, 0, 2), (10, 306, 215, 0, 1), (11, 7, 69, 0, 2), (11, 15, 74, 0, 3), (11, 19, 75, 0, 4), (11, 23, 76, 0, 5), (11, 27, 82, 0, 3), (11, 30, 100, 0, 2), (11, 38, 65, 0, 2), (11, 41, 129, 0, 2), (11, 42, 66, 0, 2), (11, 46, 130, 0, 2), (11, 47, 67, 0, 1), (11, 51, 139, 0, 1), (11, 52, 68, 0, 3), (11, 55, 141, 0, 3), (11, 61, 142, 0, 2), (11, 62, 114, 0, 1), (11, 65, 70, 0, 6), (11, 69, 144, 0, 6), (11, 70, 71, 0, 5), (11, 73, 148, 0, 5), (11, 74, 72, 0, 2), (11, 77, 172, 0, 2), (11, 78, 73, 0, 1), (11, 81, 174, 0, 1), (11, 85, 178, 0, 3), (11, 89, 179, 0, 4), (11, 93, 180, 0, 5), (11, 94, 77, 0, 3), (11, 97, 181, 0, 3), (11, 98, 78, 0, 1), (11, 101, 183, 0, 1), (11, 102, 79, 0, 2), (11, 105, 184, 0, 2), (11, 106, 80, 0, 3), (11, 109, 185, 0, 3), (11, 110, 81, 0, 1), (11, 113, 186, 0, 1), (11, 116, 187, 0, 3), (11, 117, 83, 0, 2), (11, 120, 189, 0, 2), (11, 121, 84, 0, 3), (11, 124, 190, 0, 3), (11, 125, 85, 0, 2), (11, 128, 188, 0, 2), (11, 129, 86, 0, 1), (11, 132, 191, 0, 1), (11, 133, 87, 0, 1), (11, 136, 192, 0, 1), (11, 137, 88, 0, 3), (11, 140, 195, 0, 3), (11, 141, 89, 0, 3), (11, 144, 196, 0, 3), (11, 145, 90, 0, 3), (11, 148, 199, 0, 3), (11, 149, 91, 0, 1), (11, 152, 201, 0, 1), (11, 153, 92, 0, 1), (11, 156, 202, 0, 1), (11, 157, 93, 0, 2), (11, 160, 204, 0, 2), (11, 161, 94, 0, 1), (11, 164, 207, 0, 1), (11, 165, 95, 0, 1), (11, 168, 210, 0, 1), (11, 169, 96, 0, 3), (11, 172, 212, 0, 3), (11, 173, 97, 0, 2), (11, 176, 213, 0, 2), (11, 177, 98, 0, 2), (11, 180, 214, 0, 2), (11, 181, 99, 0, 2), (11, 184, 216, 0, 2), (11, 187, 217, 0, 2)]
theorem ML_c0 : ∀ r ∈ ([(0, 45, 59, 0, 2), (0, 77, 2, 0, 3), (0, 129, 62, 0, 3), (0, 137, 38, 0, 1), (0, 145, 61, 0, 1), (0, 149, 102, 1, 1), (0, 153, 3, 0, 3), (0, 157, 50, 0, 4), (0, 164, 34, 0, 2), (0, 168, 14, 0, 1), (0, 171, 60, 0, 1), (0, 175, 15, 0, 2), (0, 179, 18, 0, 1), (0, 182, 21, 0, 1), (0, 185, 22, 0, 1), (0, 194, 24, 0, 4), (0, 198, 25, 0, 4), (0, 201, 26, 0, 4), (0, 204, 29, 0, 4), (0, 207, 33, 0, 2), (0, 210, 12, 0, 3), (0, 213, 16, 0, 3), (0, 216, 32, 0, 3), (0, 219, 49, 0, 3), (0, 226, 53, 0, 2), (0, 234, 17, 1, 2), (0, 264, 36, 0, 1), (0, 270, 19, 0, 2), (0, 273, 218, 1, 1), (0, 287, 20, 0, 3), (0, 290, 64, 0, 4), (0, 293, 23, 0, 6), (0, 297, 63, 0, 3), (0, 300, 31, 0, 3), (0, 307, 27, 1, 2), (0, 311, 28, 1, 2), (0, 318, 30, 0, 3), (0, 324, 39, 0, 3), (0, 327, 52, 0, 2), (0, 330, 51, 0, 2)] : List (Nat × Nat × Nat × Nat × Nat)), MLok r := List.forall_mem_cons.mpr ⟨ml_0, List.forall_mem_cons.mpr ⟨ml_1, List.forall_mem_cons.mpr ⟨ml_2, List.forall_mem_cons.mpr ⟨ml_3, List.forall_mem_cons.mpr ⟨ml_4, List.forall_mem_cons.mpr ⟨ml_5, List.forall_mem_cons.mpr ⟨ml_6, List.forall_mem_cons.mpr ⟨ml_7, List.forall_mem_cons.mpr ⟨ml_8, List.forall_mem_cons.mpr ⟨ml_9, List.forall_mem_cons.mpr ⟨ml_10, List.forall_mem_cons.mpr ⟨ml_11, List.forall_mem_cons.mpr ⟨ml_12, List.forall_mem_cons.mpr ⟨ml_13, List.forall_mem_cons.mpr ⟨ml_14, List.forall_mem_cons.mpr ⟨ml_15, List.forall_mem_cons.mpr ⟨ml_16, List.forall_mem_cons.mpr ⟨ml_17, List.forall_mem_cons.mpr ⟨ml_18, List.forall_mem_cons.mpr ⟨ml_19, List.forall_mem_cons.mpr ⟨ml_20, List.forall_mem_cons.mpr ⟨ml_21, List.forall_mem_cons.mpr ⟨ml_22, List.forall_mem_cons.mpr ⟨ml_23, List.forall_mem_cons.mpr ⟨ml_24, List.forall_mem_cons.mpr ⟨ml_25, List.forall_mem_cons.mpr ⟨ml_26, List.forall_mem_cons.mpr ⟨ml_27, List.forall_mem_cons.mpr ⟨ml_28, List.forall_mem_cons.mpr ⟨ml_29, List.forall_mem_cons.mpr ⟨ml_30, List.forall_mem_cons.mpr ⟨ml_31, List.forall_mem_cons.mpr ⟨ml_32, List.forall_mem_cons.mpr ⟨ml_33, List.forall_mem_cons.mpr ⟨ml_34, List.forall_mem_cons.mpr ⟨ml_35, List.forall_mem_cons.mpr ⟨ml_36, List.forall_mem_cons.mpr ⟨ml_37, List.forall_mem_cons.mpr ⟨ml_38, List.forall_mem_cons.mpr ⟨ml_39, fun _ h => absurd h List.not_mem_nil⟩⟩⟩⟩⟩⟩⟩⟩⟩⟩⟩⟩⟩⟩⟩⟩⟩⟩⟩⟩⟩⟩⟩⟩⟩⟩⟩⟩⟩⟩⟩⟩⟩⟩⟩⟩⟩⟩⟩⟩
theorem ML_c1 : ∀ r ∈ ([(4, 19, 40, 0, 1), (4, 22, 41, 0, 2), (4, 26, 42, 0, 2), (4, 29, 43, 0, 3), (5, 22, 0, 0, 2), (6, 31, 49, 0, 3), (7, 19, 56, 0, 2), (8, 46, 48, 0, 2), (8, 50, 35, 0, 2), (8, 53, 37, 0, 2), (8, 87, 62, 0, 3), (9, 59, 54, 0, 2), (9, 67, 55, 0, 2), (9, 70, 57, 0, 4), (9, 74, 103, 0, 2), (9, 78, 46, 0, 2), (9, 82, 1, 0, 3), (9, 101, 102, 1, 1), (9, 104, 6, 0, 1), (9, 108, 7, 0, 2), (9, 115, 104, 1, 2), (9, 119, 105, 0, 4), (9, 123, 8, 0, 5), (9, 127, 9, 0, 5), (9, 130, 4, 0, 2), (9, 133, 13, 0, 1), (9, 136, 44, 0, 4), (9, 140, 11, 0, 1), (9, 143, 101, 0, 2), (9, 158, 60, 0, 1), (9, 171, 61, 0, 1), (9, 189, 12, 0, 3), (9, 235, 43, 0, 3), (9, 248, 3, 0, 3), (9, 260, 40, 0, 1), (9, 265, 41, 0, 2), (9, 291, 42, 0, 2), (9, 306, 45, 0, 3), (9, 318, 106, 1, 2), (9, 322, 107, 1, 2)] : List (Nat × Nat × Nat × Nat × Nat)), MLok r := List.forall_mem_cons.mpr ⟨ml_40, List.forall_mem_cons.mpr ⟨ml_41, List.forall_mem_cons.mpr ⟨ml_42, List.forall_mem_cons.mpr ⟨ml_43, List.forall_mem_cons.mpr ⟨ml_44, List.forall_mem_cons.mpr ⟨ml_45, List.forall_mem_cons.mpr ⟨ml_46, List.forall_mem_cons.mpr ⟨ml_47, List.forall_mem_cons.mpr ⟨ml_48, List.forall_mem_cons.mpr ⟨ml_49, List.forall_mem_cons.mpr ⟨ml_50, List.forall_mem_cons.mpr ⟨ml_51, List.forall_mem_cons.mpr ⟨ml_52, List.forall_mem_cons.mpr ⟨ml_53, List.forall_mem_cons.mpr ⟨ml_54, List.forall_mem_cons.mpr ⟨ml_55, List.forall_mem_cons.mpr ⟨ml_56, List.forall_mem_cons.mpr ⟨ml_57, List.forall_mem_cons.mpr ⟨ml_58, List.forall_mem_cons.mpr ⟨ml_59, List.forall_mem_cons.mpr ⟨ml_60, List.forall_mem_cons.mpr ⟨ml_61, List.forall_mem_cons.mpr ⟨ml_62, List.forall_mem_cons.mpr ⟨ml_63, List.forall_mem_cons.mpr ⟨ml_64, List.forall_mem_cons.mpr ⟨ml_65, List.forall_mem_cons.mpr ⟨ml_66, List.forall_mem_cons.mpr ⟨ml_67, List.forall_mem_cons.mpr ⟨ml_68, List.forall_mem_cons.mpr ⟨ml_69, List.forall_mem_cons.mpr ⟨ml_70, List.forall_mem_cons.mpr ⟨ml_71, List.forall_mem_cons.mpr ⟨ml_72, List.forall_mem_cons.mpr ⟨ml_73, List.forall_mem_cons.mpr ⟨ml_74, List.forall_mem_cons.mpr ⟨ml_75, List.forall_mem_cons.mpr ⟨ml_76, List.forall_mem_cons.mpr ⟨ml_77, List.forall_mem_cons.mpr ⟨ml_78, List.forall_mem_cons.mpr ⟨ml_79, fun _ h => absurd h List.not_mem_nil⟩⟩⟩⟩⟩⟩⟩⟩⟩⟩⟩⟩⟩⟩⟩⟩⟩⟩⟩⟩⟩⟩⟩⟩⟩⟩⟩⟩⟩⟩⟩⟩⟩⟩⟩⟩⟩⟩⟩⟩
theorem ML_c2 : ∀ r ∈ ([(9, 327, 0, 0, 2), (9, 330, 5, 0, 1), (9, 334, 108, 0, 3), (9, 337, 110, 0, 1), (9, 340, 112, 0, 2), (9, 343, 109, 0, 2), (9, 346, 47, 0, 2), (9, 351, 34, 0, 2), (9, 354, 113, 0, 1), (9, 361, 58, 0, 3), (9, 364, 10, 0, 3), (9, 371, 56, 0, 2), (9, 374, 111, 0, 2), (10, 59, 115, 1, 3), (10, 63, 123, 0, 3), (10, 67, 125, 1, 2), (10, 82, 133, 0, 1), (10, 86, 132, 0, 1), (10, 90, 134, 0, 2), (10, 94, 135, 0, 3), (10, 98, 131, 0, 1), (10, 101, 138, 0, 2), (10, 105, 137, 0, 1), (10, 108, 208, 0, 1), (10, 111, 140, 1, 1), (10, 114, 117, 0, 1), (10, 117, 127, 1, 1), (10, 120, 122, 1, 1), (10, 124, 143, 0, 1), (10, 127, 124, 0, 3), (10, 131, 145, 0, 6), (10, 135, 126, 1, 3), (10, 139, 121, 0, 2), (10, 142, 147, 0, 5), (10, 146, 128, 0, 2), (10, 149, 146, 0, 4), (10, 153, 151, 0, 4), (10, 156, 153, 0, 4), (10, 164, 152, 0, 3), (10, 168, 155, 1, 2)] : List (Nat × Nat × Nat × Nat × Nat)), MLok r := List.forall_mem_cons.mpr ⟨ml_80, List.forall_mem_cons.mpr ⟨ml_81, List.forall_mem_cons.mpr ⟨ml_82, List.forall_mem_cons.mpr ⟨ml_83, List.forall_mem_cons.mpr ⟨ml_84, List.forall_mem_cons.mpr ⟨ml_85, List.forall_mem_cons.mpr ⟨ml_86, List.forall_mem_cons.mpr ⟨ml_87, List.forall_mem_cons.mpr ⟨ml_88, List.forall_mem_cons.mpr ⟨ml_89, List.forall_mem_cons.mpr ⟨ml_90, List.forall_mem_cons.mpr ⟨ml_91, List.forall_mem_cons.mpr ⟨ml_92, List.forall_mem_cons.mpr ⟨ml_93, List.forall_mem_cons.mpr ⟨ml_94, List.forall_mem_cons.mpr ⟨ml_95, List.forall_mem_cons.mpr ⟨ml_96, List.forall_mem_cons.mpr ⟨ml_97, List.forall_mem_cons.mpr ⟨ml_98, List.forall_mem_cons.mpr ⟨ml_99, List.forall_mem_cons.mpr ⟨ml_100, List.forall_mem_cons.mpr ⟨ml_101, List.forall_mem_cons.mpr ⟨ml_102, List.forall_mem_cons.mpr ⟨ml_103, List.forall_mem_cons.mpr ⟨ml_104, List.forall_mem_cons.mpr ⟨ml_105, List.forall_mem_cons.mpr ⟨ml_106, List.forall_mem_cons.mpr ⟨ml_107, List.forall_mem_cons.mpr ⟨ml_108, List.forall_mem_cons.mpr ⟨ml_109, List.forall_mem_cons.mpr ⟨ml_110, List.forall_mem_cons.mpr ⟨ml_111, List.forall_mem_cons.mpr ⟨ml_112, List.forall_mem_cons.mpr ⟨ml_113, List.forall_mem_cons.mpr ⟨ml_114, List.forall_mem_cons.mpr ⟨ml_115, List.forall_mem_cons.mpr ⟨ml_116, List.forall_mem_cons.mpr ⟨ml_117, List.forall_mem_cons.mpr ⟨ml_118, List.forall_mem_cons.mpr ⟨ml_119, fun _ h => absurd h List.not_mem_nil⟩⟩⟩⟩⟩⟩⟩⟩⟩⟩⟩⟩⟩⟩⟩⟩⟩⟩⟩⟩⟩⟩⟩⟩⟩⟩⟩⟩⟩⟩⟩⟩⟩⟩⟩⟩⟩⟩⟩⟩
theorem ML_c3 : ∀ r ∈ ([(10, 171, 149, 0, 2), (10, 174, 116, 1, 2), (10, 177, 150, 0, 3), (10, 180, 156, 0, 3), (10, 183, 154, 0, 3), (10, 189, 160, 0, 3), (10, 192, 159, 0, 3), (10, 198, 161, 0, 5), (10, 202, 162, 0, 4), (10, 205, 163, 0, 4), (10, 208, 164, 0, 3), (10, 212, 165, 0, 2), (10, 215, 166, 0, 2), (10, 218, 175, 0, 2), (10, 221, 157, 0, 1), (10, 224, 158, 0, 1), (10, 227, 169, 0, 1), (10, 230, 167, 0, 2), (10, 233, 168, 0, 1), (10, 236, 170, 0, 1), (10, 239, 171, 0, 2), (10, 242, 118, 0, 2), (10, 246, 173, 0, 1), (10, 249, 177, 0, 2), (10, 252, 182, 0, 2), (10, 255, 120, 1, 2), (10, 259, 193, 1, 2), (10, 262, 194, 1, 2), (10, 265, 119, 1, 2), (10, 270, 197, 0, 1), (10, 273, 176, 0, 1), (10, 276, 198, 0, 1), (10, 279, 200, 0, 1), (10, 282, 203, 0, 3), (10, 285, 136, 0, 1), (10, 288, 205, 0, 2), (10, 291, 206, 0, 2), (10, 294, 209, 0, 1), (10, 303, 211, 0, 2), (10, 306, 215, 0, 1)] : List (Nat × Nat × Nat × Nat × Nat)), MLok r := List.forall_mem_cons.mpr ⟨ml_120, List.forall_mem_cons.mpr ⟨ml_121, List.forall_mem_cons.mpr ⟨ml_122, List.forall_mem_cons.mpr ⟨ml_123, List.forall_mem_cons.mpr ⟨ml_124, List.forall_mem_cons.mpr ⟨ml_125, List.forall_mem_cons.mpr ⟨ml_126, List.forall_mem_cons.mpr ⟨ml_127, List.forall_mem_cons.mpr ⟨ml_128, List.forall_mem_cons.mpr ⟨ml_129, List.forall_mem_cons.mpr ⟨ml_130, List.forall_mem_cons.mpr ⟨ml_131, List.forall_mem_cons.mpr ⟨ml_132, List.forall_mem_cons.mpr ⟨ml_133, List.forall_mem_cons.mpr ⟨ml_134, List.forall_mem_cons.mpr ⟨ml_135, List.forall_mem_cons.mpr ⟨ml_136, List.forall_mem_cons.mpr ⟨ml_137, List.forall_mem_cons.mpr ⟨ml_138, List.forall_mem_cons.mpr ⟨ml_139, List.forall_mem_cons.mpr ⟨ml_140, List.forall_mem_cons.mpr ⟨ml_141, List.forall_mem_cons.mpr ⟨ml_142, List.forall_mem_cons.mpr ⟨ml_143, List.forall_mem_cons.mpr ⟨ml_144, List.forall_mem_cons.mpr ⟨ml_145, List.forall_mem_cons.mpr ⟨ml_146, List.forall_mem_cons.mpr ⟨ml_147, List.forall_mem_cons.mpr ⟨ml_148, List.forall_mem_cons.mpr ⟨ml_149, List.forall_mem_cons.mpr ⟨ml_150, List.forall_mem_cons.mpr ⟨ml_151, List.forall_mem_cons.mpr ⟨ml_152, List.forall_mem_cons.mpr ⟨ml_153, List.forall_mem_cons.mpr ⟨ml_154, List.forall_mem_cons.mpr ⟨ml_155, List.forall_mem_cons.mpr ⟨ml_156, List.forall_mem_cons.mpr ⟨ml_157, List.forall_mem_cons.mpr ⟨ml_158, List.forall_mem_cons.mpr ⟨ml_159, fun _ h => absurd h List.not_mem_nil⟩⟩⟩⟩⟩⟩⟩⟩⟩⟩⟩⟩⟩⟩⟩⟩⟩⟩⟩⟩⟩⟩⟩⟩⟩⟩⟩⟩⟩⟩⟩⟩⟩⟩⟩⟩⟩⟩⟩⟩
theorem ML_c4 : ∀ r ∈ ([(11, 7, 69, 0, 2), (11, 15, 74, 0, 3), (11, 19, 75, 0, 4), (11, 23, 76, 0, 5), (11, 27, 82, 0, 3), (11, 30, 100, 0, 2), (11, 38, 65, 0, 2), (11, 41, 129, 0, 2), (11, 42, 66, 0, 2), (11, 46, 130, 0, 2), (11, 47, 67, 0, 1), (11, 51, 139, 0, 1), (11, 52, 68, 0, 3), (11, 55, 141, 0, 3), (11, 61, 142, 0, 2), (11, 62, 114, 0, 1), (11, 65, 70, 0, 6), (11, 69, 144, 0, 6), (11, 70, 71, 0, 5), (11, 73, 148, 0, 5), (11, 74, 72, 0, 2), (11, 77, 172, 0, 2), (11, 78, 73, 0, 1), (11, 81, 174, 0, 1), (11, 85, 178, 0, 3), (11, 89, 179, 0, 4), (11, 93, 180, 0, 5), (11, 94, 77, 0, 3), (11, 97, 181, 0, 3), (11, 98, 78, 0, 1), (11, 101, 183, 0, 1), (11, 102, 79, 0, 2), (11, 105, 184, 0, 2), (11, 106, 80, 0, 3), (11, 109, 185, 0, 3), (11, 110, 81, 0, 1), (11, 113, 186, 0, 1), (11, 116, 187, 0, 3), (11, 117, 83, 0, 2), (11, 120, 189, 0, 2)] : List (Nat × Nat × Nat × Nat × Nat)), MLok r := List.forall_mem_cons.mpr ⟨ml_160, List.forall_mem_cons.mpr ⟨ml_161, List.forall_mem_cons.mpr ⟨ml_162, List.forall_mem_cons.mpr ⟨ml_163, List.forall_mem_cons.mpr ⟨ml_164, List.forall_mem_cons.mpr ⟨ml_165, List.forall_mem_cons.mpr ⟨ml_166, List.forall_mem_cons.mpr ⟨ml_167, List.forall_mem_cons.mpr ⟨ml_168, List.forall_mem_cons.mpr ⟨ml_169, List.forall_mem_cons.mpr ⟨ml_170, List.forall_mem_cons.mpr ⟨ml_171, List.forall_mem_cons.mpr ⟨ml_172, List.forall_mem_cons.mpr ⟨ml_173, List.forall_mem_cons.mpr ⟨ml_174, List.forall_mem_cons.mpr ⟨ml_175, List.forall_mem_cons.mpr ⟨ml_176, List.forall_mem_cons.mpr ⟨ml_177, List.forall_mem_cons.mpr ⟨ml_178, List.forall_mem_cons.mpr ⟨ml_179, List.forall_mem_cons.mpr ⟨ml_180, List.forall_mem_cons.mpr ⟨ml_181, List.forall_mem_cons.mpr ⟨ml_182, List.forall_mem_cons.mpr ⟨ml_183, List.forall_mem_cons.mpr ⟨ml_184, List.forall_mem_cons.mpr ⟨ml_185, List.forall_mem_cons.mpr ⟨ml_186, List.forall_mem_cons.mpr ⟨ml_187, List.forall_mem_cons.mpr ⟨ml_188, List.forall_mem_cons.mpr ⟨ml_189, List.forall_mem_cons.mpr ⟨ml_190, List.forall_mem_cons.mpr ⟨ml_191, List.forall_mem_cons.mpr ⟨ml_192, List.forall_mem_cons.mpr ⟨ml_193, List.forall_mem_cons.mpr ⟨ml_194, List.forall_mem_cons.mpr ⟨ml_195, List.forall_mem_cons.mpr ⟨ml_196, List.forall_mem_cons.mpr ⟨ml_197, List.forall_mem_cons.mpr ⟨ml_198, List.forall_mem_cons.mpr ⟨ml_199, fun _ h => absurd h List.not_mem_nil⟩⟩⟩⟩⟩⟩⟩⟩⟩⟩⟩⟩⟩⟩⟩⟩⟩⟩⟩⟩⟩⟩⟩⟩⟩⟩⟩⟩⟩⟩⟩⟩⟩⟩⟩⟩⟩⟩⟩⟩
theorem ML_c5 : ∀ r ∈ ([(11, 121, 84, 0, 3), (11, 124, 190, 0, 3), (11, 125, 85, 0, 2), (11, 128, 188, 0, 2), (11, 129, 86, 0, 1), (11, 132, 191, 0, 1), (11, 133, 87, 0, 1), (11, 136, 192, 0, 1), (11, 137, 88, 0, 3), (11, 140, 195, 0, 3), (11, 141, 89, 0, 3), (11, 144, 196, 0, 3), (11, 145, 90, 0, 3), (11, 148, 199, 0, 3), (11, 149, 91, 0, 1), (11, 152, 201, 0, 1), (11, 153, 92, 0, 1), (11, 156, 202, 0, 1), (11, 157, 93, 0, 2), (11, 160, 204, 0, 2), (11, 161, 94, 0, 1), (11, 164, 207, 0, 1), (11, 165, 95, 0, 1), (11, 168, 210, 0, 1), (11, 169, 96, 0, 3), (11, 172, 212, 0, 3), (11, 173, 97, 0, 2), (11, 176, 213, 0, 2), (11, 177, 98, 0, 2), (11, 180, 214, 0, 2), (11, 181, 99, 0, 2), (11, 184, 216, 0, 2), (11, 187, 217, 0, 2)] : List (Nat × Nat × Nat × Nat × Nat)), MLok r := List.forall_mem_cons.mpr ⟨ml_200, List.forall_mem_cons.mpr ⟨ml_201, List.forall_mem_cons.mpr ⟨ml_202, List.forall_mem_cons.mpr ⟨ml_203, List.forall_mem_cons.mpr ⟨ml_204, List.forall_mem_cons.mpr ⟨ml_205, List.forall_mem_cons.mpr ⟨ml_206, List.forall_mem_cons.mpr ⟨ml_207, List.forall_mem_cons.mpr ⟨ml_208, List.forall_mem_cons.mpr ⟨ml_209, List.forall_mem_cons.mpr ⟨ml_210, List.forall_mem_cons.mpr ⟨ml_211, List.forall_mem_cons.mpr ⟨ml_212, List.forall_mem_cons.mpr ⟨ml_213, List.forall_mem_cons.mpr ⟨ml_214, List.forall_mem_cons.mpr ⟨ml_215, List.forall_mem_cons.mpr ⟨ml_216, List.forall_mem_cons.mpr ⟨ml_217, List.forall_mem_cons.mpr ⟨ml_218, List.forall_mem_cons.mpr ⟨ml_219, List.forall_mem_cons.mpr ⟨ml_220, List.forall_mem_cons.mpr ⟨ml_221, List.forall_mem_cons.mpr ⟨ml_222, List.forall_mem_cons.mpr ⟨ml_223, List.forall_mem_cons.mpr ⟨ml_224, List.forall_mem_cons.mpr ⟨ml_225, List.forall_mem_cons.mpr ⟨ml_226, List.forall_mem_cons.mpr ⟨ml_227, List.forall_mem_cons.mpr ⟨ml_228, List.forall_mem_cons.mpr ⟨ml_229, List.forall_mem_cons.mpr ⟨ml_230, List.forall_mem_cons.mpr ⟨ml_231, List.forall_mem_cons.mpr ⟨ml_232, fun _ h => absurd h List.not_mem_nil⟩⟩⟩⟩⟩⟩⟩⟩⟩⟩⟩⟩⟩⟩⟩⟩⟩⟩⟩⟩⟩⟩⟩⟩⟩⟩⟩⟩⟩⟩⟩⟩⟩
theorem ML_ok : ∀ r ∈ ML, MLok r := by
  intro r h
  rw [show ML = [(0, 45, 59, 0, 2), (0, 77, 2, 0, 3), (0, 129, 62, 0, 3), (0, 137, 38, 0, 1), (0, 145, 61, 0, 1), (0, 149, 102, 1, 1), (0, 153, 3, 0, 3), (0, 157, 50, 0, 4), (0, 164, 34, 0, 2), (0, 168, 14, 0, 1), (0, 171, 60, 0, 1), (0, 175, 15, 0, 2), (0, 179, 18, 0, 1), (0, 182, 21, 0, 1), (0, 185, 22, 0, 1), (0, 194, 24, 0, 4), (0, 198, 25, 0, 4), (0, 201, 26, 0, 4), (0, 204, 29, 0, 4), (0, 207, 33, 0, 2), (0, 210, 12, 0, 3), (0, 213, 16, 0, 3), (0, 216, 32, 0, 3), (0, 219, 49, 0, 3), (0, 226, 53, 0, 2), (0, 234, 17, 1, 2), (0, 264, 36, 0, 1), (0, 270, 19, 0, 2), (0, 273, 218, 1, 1), (0, 287, 20, 0, 3), (0, 290, 64, 0, 4), (0, 293, 23, 0, 6), (0, 297, 63, 0, 3), (0, 300, 31, 0, 3), (0, 307, 27, 1, 2), (0, 311, 28, 1, 2), (0, 318, 30, 0, 3), (0, 324, 39, 0, 3), (0, 327, 52, 0, 2), (0, 330, 51, 0, 2)] ++ ([(4, 19, 40, 0, 1), (4, 22, 41, 0, 2), (4, 26, 42, 0, 2), (4, 29, 43, 0, 3), (5, 22, 0, 0, 2), (6, 31, 49, 0, 3), (7, 19, 56, 0, 2), (8, 46, 48, 0, 2), (8, 50, 35, 0, 2), (8, 53, 37, 0, 2), (8, 87, 62, 0, 3), (9, 59, 54, 0, 2), (9, 67, 55, 0, 2), (9, 70, 57, 0, 4), (9, 74, 103, 0, 2), (9, 78, 46, 0, 2), (9, 82, 1, 0, 3), (9, 101, 102, 1, 1), (9, 104, 6, 0, 1), (9, 108, 7, 0, 2), (9, 115, 104, 1, 2), (9, 119, 105, 0, 4), (9, 123, 8, 0, 5), (9, 127, 9, 0, 5), (9, 130, 4, 0, 2), (9, 133, 13, 0, 1), (9, 136, 44, 0, 4), (9, 140, 11, 0, 1), (9, 143, 101, 0, 2), (9, 158, 60, 0, 1), (9, 171, 61, 0, 1), (9, 189, 12, 0, 3), (9, 235, 43, 0, 3), (9, 248, 3, 0, 3), (9, 260, 40, 0, 1), (9, 265, 41, 0, 2), (9, 291, 42, 0, 2), (9, 306, 45, 0, 3), (9, 318, 106, 1, 2), (9, 322, 107, 1, 2)] ++ ([(9, 327, 0, 0, 2), (9, 330, 5, 0, 1), (9, 334, 108, 0, 3), (9, 337, 110, 0, 1), (9, 340, 112, 0, 2), (9, 343, 109, 0, 2), (9, 346, 47, 0, 2), (9, 351, 34, 0, 2), (9, 354, 113, 0, 1), (9, 361, 58, 0, 3), (9, 364, 10, 0, 3), (9, 371, 56, 0, 2), (9, 374, 111, 0, 2), (10, 59, 115, 1, 3), (10, 63, 123, 0, 3), (10, 67, 125, 1, 2), (10, 82, 133, 0, 1), (10, 86, 132, 0, 1), (10, 90, 134, 0, 2), (10, 94, 135, 0, 3), (10, 98, 131, 0, 1), (10, 101, 138, 0, 2), (10, 105, 137, 0, 1), (10, 108, 208, 0, 1), (10, 111, 140, 1, 1), (10, 114, 117, 0, 1), (10, 117, 127, 1, 1), (10, 120, 122, 1, 1), (10, 124, 143, 0, 1), (10, 127, 124, 0, 3), (10, 131, 145, 0, 6), (10, 135, 126, 1, 3), (10, 139, 121, 0, 2), (10, 142, 147, 0, 5), (10, 146, 128, 0, 2), (10, 149, 146, 0, 4), (10, 153, 151, 0, 4), (10, 156, 153, 0, 4), (10, 164, 152, 0, 3), (10, 168, 155, 1, 2)] ++ ([(10, 171, 149, 0, 2), (10, 174, 116, 1, 2), (10, 177, 150, 0, 3), (10, 180, 156, 0, 3), (10, 183, 154, 0, 3), (10, 189, 160, 0, 3), (10, 192, 159, 0, 3), (10, 198, 161, 0, 5), (10, 202, 162, 0, 4), (10, 205, 163, 0, 4), (10, 208, 164, 0, 3), (10, 212, 165, 0, 2), (10, 215, 166, 0, 2), (10, 218, 175, 0, 2), (10, 221, 157, 0, 1), (10, 224, 158, 0, 1), (10, 227, 169, 0, 1), (10, 230, 167, 0, 2), (10, 233, 168, 0, 1), (10, 236, 170, 0, 1), (10, 239, 171, 0, 2), (10, 242, 118, 0, 2), (10, 246, 173, 0, 1), (10, 249, 177, 0, 2), (10, 252, 182, 0, 2), (10, 255, 120, 1, 2), (10, 259, 193, 1, 2), (10, 262, 194, 1, 2), (10, 265, 119, 1, 2), (10, 270, 197, 0, 1), (10, 273, 176, 0, 1), (10, 276, 198, 0, 1), (10, 279, 200, 0, 1), (10, 282, 203, 0, 3), (10, 285, 136, 0, 1), (10, 288, 205, 0, 2), (10, 291, 206, 0, 2), (10, 294, 209, 0, 1), (10, 303, 211, 0, 2), (10, 306, 215, 0, 1)] ++ ([(11, 7, 69, 0, 2), (11, 15, 74, 0, 3), (11, 19, 75, 0, 4), (11, 23, 76, 0, 5), (11, 27, 82, 0, 3), (11, 30, 100, 0, 2), (11, 38, 65, 0, 2), (11, 41, 129, 0, 2), (11, 42, 66, 0, 2), (11, 46, 130, 0, 2), (11, 47, 67, 0, 1), (11, 51, 139, 0, 1), (11, 52, 68, 0, 3), (11, 55, 141, 0, 3), (11, 61, 142, 0, 2), (11, 62, 114, 0, 1), (11, 65, 70, 0, 6), (11, 69, 144, 0, 6), (11, 70, 71, 0, 5), (11, 73, 148, 0, 5), (11, 74, 72, 0, 2), (11, 77, 172, 0, 2), (11, 78, 73, 0, 1), (11, 81, 174, 0, 1), (11, 85, 178, 0, 3), (11, 89, 179, 0, 4), (11, 93, 180, 0, 5), (11, 94, 77, 0, 3), (11, 97, 181, 0, 3), (11, 98, 78, 0, 1), (11, 101, 183, 0, 1), (11, 102, 79, 0, 2), (11, 105, 184, 0, 2), (11, 106, 80, 0, 3), (11, 109, 185, 0, 3), (11, 110, 81, 0, 1), (11, 113, 186, 0, 1), (11, 116, 187, 0, 3), (11, 117, 83, 0, 2), (11, 120, 189, 0, 2)] ++ ([(11, 121, 84, 0, 3), (11, 124, 190, 0, 3), (11, 125, 85, 0, 2), (11, 128, 188, 0, 2), (11, 129, 86, 0, 1), (11, 132, 191, 0, 1), (11, 133, 87, 0, 1), (11, 136, 192, 0, 1), (11, 137, 88, 0, 3), (11, 140, 195, 0, 3), (11, 141, 89, 0, 3), (11, 144, 196, 0, 3), (11, 145, 90, 0, 3), (11, 148, 199, 0, 3), (11, 149, 91, 0, 1), (11, 152, 201, 0, 1), (11, 153, 92, 0, 1), (11, 156, 202, 0, 1), (11, 157, 93, 0, 2), (11, 160, 204, 0, 2), (11, 161, 94, 0, 1), (11, 164, 207, 0, 1), (11, 165, 95, 0, 1), (11, 168, 210, 0, 1), (11, 169, 96, 0, 3), (11, 172, 212, 0, 3), (11, 173, 97, 0, 2), (11, 176, 213, 0, 2), (11, 177, 98, 0, 2), (11, 180, 214, 0, 2), (11, 181, 99, 0, 2), (11, 184, 216, 0, 2), (11, 187, 217, 0, 2)]))))) from rfl] at h
  simp only [List.mem_append] at h
  rcases h with h | h | h | h | h | h
  · exact ML_c0 r h
  · exact ML_c1 r h
  · exact ML_c2 r h
  · exact ML_c3 r h
  · exact ML_c4 r h
  · exact ML_c5 r h
def CLok (r : Nat × Nat × Nat × Nat) : Prop := match r.2.2.2 with
  | 0 => Cond.constant (cn r.1) r.2.1 (nI r.2.2.1) ∈ mBig
  | _ => Cond.constantLong (cn r.1) r.2.1 (lN r.2.2.1) ∈ mBig
theorem cl_0 : CLok (1, 13, 1103515245, 0) := mB (mt3 (List.mem_of_getElem? (i := 121) (by decide +kernel))) rfl
theorem cl_1 : CLok (9, 263, 6, 1) := mB (mt4 (List.mem_of_getElem? (i := 22) (by decide +kernel))) rfl
theorem cl_2 : CLok (9, 325, 100, 1) := mB (mt4 (List.mem_of_getElem? (i := 63) (by decide +kernel))) rfl
theorem cl_3 : CLok (10, 70, 1103515245, 0) := mB (mt6 (List.mem_of_getElem? (i := 16) (by decide +kernel))) rfl
theorem cl_4 : CLok (10, 268, 100, 1) := mB (mt6 (List.mem_of_getElem? (i := 166) (by decide +kernel))) rfl
theorem cl_5 : CLok (12, 265, 1431655765, 0) := mB (mt3 (List.mem_of_getElem? (i := 137) (by decide +kernel))) rfl
theorem cl_6 : CLok (12, 266, 858993459, 0) := mB (mt3 (List.mem_of_getElem? (i := 138) (by decide +kernel))) rfl
theorem cl_7 : CLok (12, 267, 252645135, 0) := mB (mt3 (List.mem_of_getElem? (i := 139) (by decide +kernel))) rfl
def CL : List (Nat × Nat × Nat × Nat) := [(1, 13, 1103515245, 0), (9, 263, 6, 1), (9, 325, 100, 1), (10, 70, 1103515245, 0), (10, 268, 100, 1), (12, 265, 1431655765, 0), (12, 266, 858993459, 0), (12, 267, 252645135, 0)]
theorem CL_c0 : ∀ r ∈ ([(1, 13, 1103515245, 0), (9, 263, 6, 1), (9, 325, 100, 1), (10, 70, 1103515245, 0), (10, 268, 100, 1), (12, 265, 1431655765, 0), (12, 266, 858993459, 0), (12, 267, 252645135, 0)] : List (Nat × Nat × Nat × Nat)), CLok r := List.forall_mem_cons.mpr ⟨cl_0, List.forall_mem_cons.mpr ⟨cl_1, List.forall_mem_cons.mpr ⟨cl_2, List.forall_mem_cons.mpr ⟨cl_3, List.forall_mem_cons.mpr ⟨cl_4, List.forall_mem_cons.mpr ⟨cl_5, List.forall_mem_cons.mpr ⟨cl_6, List.forall_mem_cons.mpr ⟨cl_7, fun _ h => absurd h List.not_mem_nil⟩⟩⟩⟩⟩⟩⟩⟩
theorem CL_ok : ∀ r ∈ CL, CLok r := CL_c0
end
