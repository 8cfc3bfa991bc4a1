section
-- ===== PART A: goes FIRST, ahead of the names: the tables' words, and 'selects' of the private methods out of them =====
/-- a private method of a class that the tables say can be made, by its rows of tables_1 -/
def lw_okq (q : MethodName × Nat) : Prop := (q.1.cls ≠ "java/lang/invoke/MethodHandle" ∧ q.1.cls ≠ "java/lang/invoke/VarHandle") ∧ Cond.instantiable q.1.cls q.2 ∈ tables_1 ∧ Cond.privateMethod q.1 ∈ tables_1 ∧ Cond.instanceMethod q.1 ∈ tables_1
theorem lw_p0 : lw_okq (⟨"SharedAir", "readPairs", "(I)I"⟩, 9) := ⟨⟨by decide +kernel, by decide +kernel⟩, List.mem_of_getElem? (i := 20) (by decide +kernel), List.mem_of_getElem? (i := 435) (by decide +kernel), List.mem_of_getElem? (i := 436) (by decide +kernel)⟩
theorem lw_p1 : lw_okq (⟨"SharedAir$Air", "startStation", "(I[I)V"⟩, 13) := ⟨⟨by decide +kernel, by decide +kernel⟩, List.mem_of_getElem? (i := 28) (by decide +kernel), List.mem_of_getElem? (i := 474) (by decide +kernel), List.mem_of_getElem? (i := 475) (by decide +kernel)⟩
theorem lw_p2 : lw_okq (⟨"SharedAir", "comesFromEntry", "(III)Z"⟩, 9) := ⟨⟨by decide +kernel, by decide +kernel⟩, List.mem_of_getElem? (i := 20) (by decide +kernel), List.mem_of_getElem? (i := 510) (by decide +kernel), List.mem_of_getElem? (i := 511) (by decide +kernel)⟩
theorem lw_p3 : lw_okq (⟨"SharedAir$Air", "runningSpans", "()I"⟩, 13) := ⟨⟨by decide +kernel, by decide +kernel⟩, List.mem_of_getElem? (i := 28) (by decide +kernel), List.mem_of_getElem? (i := 548) (by decide +kernel), List.mem_of_getElem? (i := 549) (by decide +kernel)⟩
theorem lw_p4 : lw_okq (⟨"SharedAir$Air", "beginOf", "(I)V"⟩, 13) := ⟨⟨by decide +kernel, by decide +kernel⟩, List.mem_of_getElem? (i := 28) (by decide +kernel), List.mem_of_getElem? (i := 556) (by decide +kernel), List.mem_of_getElem? (i := 557) (by decide +kernel)⟩
theorem lw_p5 : lw_okq (⟨"SharedAir$Air", "beginExchange", "(II)V"⟩, 13) := ⟨⟨by decide +kernel, by decide +kernel⟩, List.mem_of_getElem? (i := 28) (by decide +kernel), List.mem_of_getElem? (i := 564) (by decide +kernel), List.mem_of_getElem? (i := 565) (by decide +kernel)⟩
theorem lw_p6 : lw_okq (⟨"SharedAir$Air", "failFirst", "(II)V"⟩, 13) := ⟨⟨by decide +kernel, by decide +kernel⟩, List.mem_of_getElem? (i := 28) (by decide +kernel), List.mem_of_getElem? (i := 583) (by decide +kernel), List.mem_of_getElem? (i := 584) (by decide +kernel)⟩
theorem lw_p7 : lw_okq (⟨"SharedAir$Air", "senders", "()I"⟩, 13) := ⟨⟨by decide +kernel, by decide +kernel⟩, List.mem_of_getElem? (i := 28) (by decide +kernel), List.mem_of_getElem? (i := 603) (by decide +kernel), List.mem_of_getElem? (i := 604) (by decide +kernel)⟩
theorem lw_p8 : lw_okq (⟨"SharedAir$Air", "clearOnes", "()I"⟩, 13) := ⟨⟨by decide +kernel, by decide +kernel⟩, List.mem_of_getElem? (i := 28) (by decide +kernel), List.mem_of_getElem? (i := 611) (by decide +kernel), List.mem_of_getElem? (i := 612) (by decide +kernel)⟩
theorem lw_p9 : lw_okq (⟨"SharedAir$Air", "sendsNow", "(I)Z"⟩, 13) := ⟨⟨by decide +kernel, by decide +kernel⟩, List.mem_of_getElem? (i := 28) (by decide +kernel), List.mem_of_getElem? (i := 621) (by decide +kernel), List.mem_of_getElem? (i := 622) (by decide +kernel)⟩
theorem lw_p10 : lw_okq (⟨"SharedAir$Air", "noteSlot", "()V"⟩, 13) := ⟨⟨by decide +kernel, by decide +kernel⟩, List.mem_of_getElem? (i := 28) (by decide +kernel), List.mem_of_getElem? (i := 625) (by decide +kernel), List.mem_of_getElem? (i := 626) (by decide +kernel)⟩
theorem lw_p11 : lw_okq (⟨"SharedAir$Air", "goAsk", "(IILSharedAir$Exchange;)V"⟩, 13) := ⟨⟨by decide +kernel, by decide +kernel⟩, List.mem_of_getElem? (i := 28) (by decide +kernel), List.mem_of_getElem? (i := 633) (by decide +kernel), List.mem_of_getElem? (i := 634) (by decide +kernel)⟩
theorem lw_p12 : lw_okq (⟨"SharedAir$Air", "isClear", "(II)Z"⟩, 13) := ⟨⟨by decide +kernel, by decide +kernel⟩, List.mem_of_getElem? (i := 28) (by decide +kernel), List.mem_of_getElem? (i := 637) (by decide +kernel), List.mem_of_getElem? (i := 638) (by decide +kernel)⟩
theorem lw_p13 : lw_okq (⟨"SharedAir$Air", "spread", "(IIIII)V"⟩, 13) := ⟨⟨by decide +kernel, by decide +kernel⟩, List.mem_of_getElem? (i := 28) (by decide +kernel), List.mem_of_getElem? (i := 641) (by decide +kernel), List.mem_of_getElem? (i := 642) (by decide +kernel)⟩
theorem lw_p14 : lw_okq (⟨"SharedAir$Air", "goGrant", "(IILSharedAir$Exchange;)V"⟩, 13) := ⟨⟨by decide +kernel, by decide +kernel⟩, List.mem_of_getElem? (i := 28) (by decide +kernel), List.mem_of_getElem? (i := 649) (by decide +kernel), List.mem_of_getElem? (i := 650) (by decide +kernel)⟩
theorem lw_p15 : lw_okq (⟨"SharedAir$Air", "failExchange", "(ILSharedAir$Exchange;)V"⟩, 13) := ⟨⟨by decide +kernel, by decide +kernel⟩, List.mem_of_getElem? (i := 28) (by decide +kernel), List.mem_of_getElem? (i := 658) (by decide +kernel), List.mem_of_getElem? (i := 659) (by decide +kernel)⟩
def lw_privs_1 : List (MethodName × Nat) := [(⟨"SharedAir", "readPairs", "(I)I"⟩, 9), (⟨"SharedAir$Air", "startStation", "(I[I)V"⟩, 13), (⟨"SharedAir", "comesFromEntry", "(III)Z"⟩, 9), (⟨"SharedAir$Air", "runningSpans", "()I"⟩, 13), (⟨"SharedAir$Air", "beginOf", "(I)V"⟩, 13), (⟨"SharedAir$Air", "beginExchange", "(II)V"⟩, 13), (⟨"SharedAir$Air", "failFirst", "(II)V"⟩, 13), (⟨"SharedAir$Air", "senders", "()I"⟩, 13), (⟨"SharedAir$Air", "clearOnes", "()I"⟩, 13), (⟨"SharedAir$Air", "sendsNow", "(I)Z"⟩, 13), (⟨"SharedAir$Air", "noteSlot", "()V"⟩, 13), (⟨"SharedAir$Air", "goAsk", "(IILSharedAir$Exchange;)V"⟩, 13), (⟨"SharedAir$Air", "isClear", "(II)Z"⟩, 13), (⟨"SharedAir$Air", "spread", "(IIIII)V"⟩, 13), (⟨"SharedAir$Air", "goGrant", "(IILSharedAir$Exchange;)V"⟩, 13), (⟨"SharedAir$Air", "failExchange", "(ILSharedAir$Exchange;)V"⟩, 13)]
theorem lw_r1 : ∀ q ∈ lw_privs_1, lw_okq q := List.forall_mem_cons.mpr ⟨lw_p0, List.forall_mem_cons.mpr ⟨lw_p1, List.forall_mem_cons.mpr ⟨lw_p2, List.forall_mem_cons.mpr ⟨lw_p3, List.forall_mem_cons.mpr ⟨lw_p4, List.forall_mem_cons.mpr ⟨lw_p5, List.forall_mem_cons.mpr ⟨lw_p6, List.forall_mem_cons.mpr ⟨lw_p7, List.forall_mem_cons.mpr ⟨lw_p8, List.forall_mem_cons.mpr ⟨lw_p9, List.forall_mem_cons.mpr ⟨lw_p10, List.forall_mem_cons.mpr ⟨lw_p11, List.forall_mem_cons.mpr ⟨lw_p12, List.forall_mem_cons.mpr ⟨lw_p13, List.forall_mem_cons.mpr ⟨lw_p14, List.forall_mem_cons.mpr ⟨lw_p15, fun _ h => absurd h List.not_mem_nil⟩⟩⟩⟩⟩⟩⟩⟩⟩⟩⟩⟩⟩⟩⟩⟩
theorem lw_p16 : lw_okq (⟨"SharedAir$Air", "goData", "(IILSharedAir$Exchange;)V"⟩, 13) := ⟨⟨by decide +kernel, by decide +kernel⟩, List.mem_of_getElem? (i := 28) (by decide +kernel), List.mem_of_getElem? (i := 662) (by decide +kernel), List.mem_of_getElem? (i := 663) (by decide +kernel)⟩
theorem lw_p17 : lw_okq (⟨"SharedAir$Air", "goAnswer", "(IILSharedAir$Exchange;)V"⟩, 13) := ⟨⟨by decide +kernel, by decide +kernel⟩, List.mem_of_getElem? (i := 28) (by decide +kernel), List.mem_of_getElem? (i := 672) (by decide +kernel), List.mem_of_getElem? (i := 673) (by decide +kernel)⟩
theorem lw_p18 : lw_okq (⟨"SharedAir$Air", "deliver", "(ILSharedAir$Exchange;)V"⟩, 13) := ⟨⟨by decide +kernel, by decide +kernel⟩, List.mem_of_getElem? (i := 28) (by decide +kernel), List.mem_of_getElem? (i := 676) (by decide +kernel), List.mem_of_getElem? (i := 677) (by decide +kernel)⟩
theorem lw_p19 : lw_okq (⟨"SharedAir$Air", "settle", "(I)V"⟩, 13) := ⟨⟨by decide +kernel, by decide +kernel⟩, List.mem_of_getElem? (i := 28) (by decide +kernel), List.mem_of_getElem? (i := 685) (by decide +kernel), List.mem_of_getElem? (i := 686) (by decide +kernel)⟩
theorem lw_p20 : lw_okq (⟨"SharedAir", "isStation", "(I)Z"⟩, 9) := ⟨⟨by decide +kernel, by decide +kernel⟩, List.mem_of_getElem? (i := 20) (by decide +kernel), List.mem_of_getElem? (i := 721) (by decide +kernel), List.mem_of_getElem? (i := 722) (by decide +kernel)⟩
theorem lw_p21 : lw_okq (⟨"SharedAir", "slotsTillDelivered", "(II)I"⟩, 9) := ⟨⟨by decide +kernel, by decide +kernel⟩, List.mem_of_getElem? (i := 20) (by decide +kernel), List.mem_of_getElem? (i := 806) (by decide +kernel), List.mem_of_getElem? (i := 807) (by decide +kernel)⟩
theorem lw_p22 : lw_okq (⟨"SharedAir", "faultInDay", "()I"⟩, 9) := ⟨⟨by decide +kernel, by decide +kernel⟩, List.mem_of_getElem? (i := 20) (by decide +kernel), List.mem_of_getElem? (i := 818) (by decide +kernel), List.mem_of_getElem? (i := 819) (by decide +kernel)⟩
theorem lw_p23 : lw_okq (⟨"SharedAir", "faultInAct", "(I)I"⟩, 9) := ⟨⟨by decide +kernel, by decide +kernel⟩, List.mem_of_getElem? (i := 20) (by decide +kernel), List.mem_of_getElem? (i := 822) (by decide +kernel), List.mem_of_getElem? (i := 823) (by decide +kernel)⟩
theorem lw_p24 : lw_okq (⟨"SharedAir", "actLength", "(I)I"⟩, 9) := ⟨⟨by decide +kernel, by decide +kernel⟩, List.mem_of_getElem? (i := 20) (by decide +kernel), List.mem_of_getElem? (i := 827) (by decide +kernel), List.mem_of_getElem? (i := 828) (by decide +kernel)⟩
theorem lw_p25 : lw_okq (⟨"SharedAir", "doAct", "(I)Z"⟩, 9) := ⟨⟨by decide +kernel, by decide +kernel⟩, List.mem_of_getElem? (i := 20) (by decide +kernel), List.mem_of_getElem? (i := 831) (by decide +kernel), List.mem_of_getElem? (i := 832) (by decide +kernel)⟩
theorem lw_p26 : lw_okq (⟨"SharedAir", "offerDrawn", "()V"⟩, 9) := ⟨⟨by decide +kernel, by decide +kernel⟩, List.mem_of_getElem? (i := 20) (by decide +kernel), List.mem_of_getElem? (i := 848) (by decide +kernel), List.mem_of_getElem? (i := 849) (by decide +kernel)⟩
theorem lw_p27 : lw_okq (⟨"java/lang/Throwable", "fillInStackTrace", "(I)Ljava/lang/Throwable;"⟩, 6) := ⟨⟨by decide +kernel, by decide +kernel⟩, List.mem_of_getElem? (i := 908) (by decide +kernel), List.mem_of_getElem? (i := 906) (by decide +kernel), List.mem_of_getElem? (i := 907) (by decide +kernel)⟩
theorem lw_p28 : lw_okq (⟨"SharedAirModel", "begin", "()V"⟩, 21) := ⟨⟨by decide +kernel, by decide +kernel⟩, List.mem_of_getElem? (i := 971) (by decide +kernel), List.mem_of_getElem? (i := 1063) (by decide +kernel), List.mem_of_getElem? (i := 1064) (by decide +kernel)⟩
theorem lw_p29 : lw_okq (⟨"SharedAirModel", "oneOf", "(CI)I"⟩, 21) := ⟨⟨by decide +kernel, by decide +kernel⟩, List.mem_of_getElem? (i := 971) (by decide +kernel), List.mem_of_getElem? (i := 1067) (by decide +kernel), List.mem_of_getElem? (i := 1068) (by decide +kernel)⟩
theorem lw_p30 : lw_okq (⟨"SharedAirModel", "fine", "()Z"⟩, 21) := ⟨⟨by decide +kernel, by decide +kernel⟩, List.mem_of_getElem? (i := 971) (by decide +kernel), List.mem_of_getElem? (i := 1071) (by decide +kernel), List.mem_of_getElem? (i := 1072) (by decide +kernel)⟩
theorem lw_p31 : lw_okq (⟨"SharedAirModel", "here", "()I"⟩, 21) := ⟨⟨by decide +kernel, by decide +kernel⟩, List.mem_of_getElem? (i := 971) (by decide +kernel), List.mem_of_getElem? (i := 1075) (by decide +kernel), List.mem_of_getElem? (i := 1076) (by decide +kernel)⟩
def lw_privs_2 : List (MethodName × Nat) := [(⟨"SharedAir$Air", "goData", "(IILSharedAir$Exchange;)V"⟩, 13), (⟨"SharedAir$Air", "goAnswer", "(IILSharedAir$Exchange;)V"⟩, 13), (⟨"SharedAir$Air", "deliver", "(ILSharedAir$Exchange;)V"⟩, 13), (⟨"SharedAir$Air", "settle", "(I)V"⟩, 13), (⟨"SharedAir", "isStation", "(I)Z"⟩, 9), (⟨"SharedAir", "slotsTillDelivered", "(II)I"⟩, 9), (⟨"SharedAir", "faultInDay", "()I"⟩, 9), (⟨"SharedAir", "faultInAct", "(I)I"⟩, 9), (⟨"SharedAir", "actLength", "(I)I"⟩, 9), (⟨"SharedAir", "doAct", "(I)Z"⟩, 9), (⟨"SharedAir", "offerDrawn", "()V"⟩, 9), (⟨"java/lang/Throwable", "fillInStackTrace", "(I)Ljava/lang/Throwable;"⟩, 6), (⟨"SharedAirModel", "begin", "()V"⟩, 21), (⟨"SharedAirModel", "oneOf", "(CI)I"⟩, 21), (⟨"SharedAirModel", "fine", "()Z"⟩, 21), (⟨"SharedAirModel", "here", "()I"⟩, 21)]
theorem lw_r2 : ∀ q ∈ lw_privs_2, lw_okq q := List.forall_mem_cons.mpr ⟨lw_p16, List.forall_mem_cons.mpr ⟨lw_p17, List.forall_mem_cons.mpr ⟨lw_p18, List.forall_mem_cons.mpr ⟨lw_p19, List.forall_mem_cons.mpr ⟨lw_p20, List.forall_mem_cons.mpr ⟨lw_p21, List.forall_mem_cons.mpr ⟨lw_p22, List.forall_mem_cons.mpr ⟨lw_p23, List.forall_mem_cons.mpr ⟨lw_p24, List.forall_mem_cons.mpr ⟨lw_p25, List.forall_mem_cons.mpr ⟨lw_p26, List.forall_mem_cons.mpr ⟨lw_p27, List.forall_mem_cons.mpr ⟨lw_p28, List.forall_mem_cons.mpr ⟨lw_p29, List.forall_mem_cons.mpr ⟨lw_p30, List.forall_mem_cons.mpr ⟨lw_p31, fun _ h => absurd h List.not_mem_nil⟩⟩⟩⟩⟩⟩⟩⟩⟩⟩⟩⟩⟩⟩⟩⟩
theorem lw_p32 : lw_okq (⟨"SharedAirModel", "fault", "(I)V"⟩, 21) := ⟨⟨by decide +kernel, by decide +kernel⟩, List.mem_of_getElem? (i := 971) (by decide +kernel), List.mem_of_getElem? (i := 1079) (by decide +kernel), List.mem_of_getElem? (i := 1080) (by decide +kernel)⟩
theorem lw_p33 : lw_okq (⟨"SharedAirModel", "readPair", "(I)I"⟩, 21) := ⟨⟨by decide +kernel, by decide +kernel⟩, List.mem_of_getElem? (i := 971) (by decide +kernel), List.mem_of_getElem? (i := 1083) (by decide +kernel), List.mem_of_getElem? (i := 1084) (by decide +kernel)⟩
theorem lw_p34 : lw_okq (⟨"SharedAirModel", "wasRight", "()Z"⟩, 21) := ⟨⟨by decide +kernel, by decide +kernel⟩, List.mem_of_getElem? (i := 971) (by decide +kernel), List.mem_of_getElem? (i := 1087) (by decide +kernel), List.mem_of_getElem? (i := 1088) (by decide +kernel)⟩
theorem lw_p35 : lw_okq (⟨"SharedAirModel", "change", "()V"⟩, 21) := ⟨⟨by decide +kernel, by decide +kernel⟩, List.mem_of_getElem? (i := 971) (by decide +kernel), List.mem_of_getElem? (i := 1091) (by decide +kernel), List.mem_of_getElem? (i := 1092) (by decide +kernel)⟩
theorem lw_p36 : lw_okq (⟨"SharedAirModel", "note", "()V"⟩, 21) := ⟨⟨by decide +kernel, by decide +kernel⟩, List.mem_of_getElem? (i := 971) (by decide +kernel), List.mem_of_getElem? (i := 1095) (by decide +kernel), List.mem_of_getElem? (i := 1096) (by decide +kernel)⟩
theorem lw_p37 : lw_okq (⟨"SharedAirModel", "lost", "()I"⟩, 21) := ⟨⟨by decide +kernel, by decide +kernel⟩, List.mem_of_getElem? (i := 971) (by decide +kernel), List.mem_of_getElem? (i := 1113) (by decide +kernel), List.mem_of_getElem? (i := 1114) (by decide +kernel)⟩
theorem lw_p38 : lw_okq (⟨"SharedAirModel", "goesOn", "()Z"⟩, 21) := ⟨⟨by decide +kernel, by decide +kernel⟩, List.mem_of_getElem? (i := 971) (by decide +kernel), List.mem_of_getElem? (i := 1124) (by decide +kernel), List.mem_of_getElem? (i := 1125) (by decide +kernel)⟩
theorem lw_p39 : lw_okq (⟨"SharedAirModel", "hears", "(II)Z"⟩, 21) := ⟨⟨by decide +kernel, by decide +kernel⟩, List.mem_of_getElem? (i := 971) (by decide +kernel), List.mem_of_getElem? (i := 1131) (by decide +kernel), List.mem_of_getElem? (i := 1132) (by decide +kernel)⟩
theorem lw_p40 : lw_okq (⟨"SharedAirModel", "quality", "(II)I"⟩, 21) := ⟨⟨by decide +kernel, by decide +kernel⟩, List.mem_of_getElem? (i := 971) (by decide +kernel), List.mem_of_getElem? (i := 1135) (by decide +kernel), List.mem_of_getElem? (i := 1136) (by decide +kernel)⟩
theorem lw_p41 : lw_okq (⟨"SharedAirModel", "put", "(IIIII)V"⟩, 21) := ⟨⟨by decide +kernel, by decide +kernel⟩, List.mem_of_getElem? (i := 971) (by decide +kernel), List.mem_of_getElem? (i := 1139) (by decide +kernel), List.mem_of_getElem? (i := 1140) (by decide +kernel)⟩
theorem lw_p42 : lw_okq (⟨"SharedAirModel", "refusesOffer", "(IIII)I"⟩, 21) := ⟨⟨by decide +kernel, by decide +kernel⟩, List.mem_of_getElem? (i := 971) (by decide +kernel), List.mem_of_getElem? (i := 1150) (by decide +kernel), List.mem_of_getElem? (i := 1151) (by decide +kernel)⟩
theorem lw_p43 : lw_okq (⟨"SharedAirModel", "isStation", "(I)Z"⟩, 21) := ⟨⟨by decide +kernel, by decide +kernel⟩, List.mem_of_getElem? (i := 971) (by decide +kernel), List.mem_of_getElem? (i := 1154) (by decide +kernel), List.mem_of_getElem? (i := 1155) (by decide +kernel)⟩
theorem lw_p44 : lw_okq (⟨"SharedAirModel", "goSlots", "(I)V"⟩, 21) := ⟨⟨by decide +kernel, by decide +kernel⟩, List.mem_of_getElem? (i := 971) (by decide +kernel), List.mem_of_getElem? (i := 1162) (by decide +kernel), List.mem_of_getElem? (i := 1163) (by decide +kernel)⟩
theorem lw_p45 : lw_okq (⟨"SharedAirModel", "slot", "()V"⟩, 21) := ⟨⟨by decide +kernel, by decide +kernel⟩, List.mem_of_getElem? (i := 971) (by decide +kernel), List.mem_of_getElem? (i := 1166) (by decide +kernel), List.mem_of_getElem? (i := 1167) (by decide +kernel)⟩
theorem lw_p46 : lw_okq (⟨"SharedAirModel", "stepBegin", "()V"⟩, 21) := ⟨⟨by decide +kernel, by decide +kernel⟩, List.mem_of_getElem? (i := 971) (by decide +kernel), List.mem_of_getElem? (i := 1170) (by decide +kernel), List.mem_of_getElem? (i := 1171) (by decide +kernel)⟩
theorem lw_p47 : lw_okq (⟨"SharedAirModel", "isFree", "(I)Z"⟩, 21) := ⟨⟨by decide +kernel, by decide +kernel⟩, List.mem_of_getElem? (i := 971) (by decide +kernel), List.mem_of_getElem? (i := 1174) (by decide +kernel), List.mem_of_getElem? (i := 1175) (by decide +kernel)⟩
def lw_privs_3 : List (MethodName × Nat) := [(⟨"SharedAirModel", "fault", "(I)V"⟩, 21), (⟨"SharedAirModel", "readPair", "(I)I"⟩, 21), (⟨"SharedAirModel", "wasRight", "()Z"⟩, 21), (⟨"SharedAirModel", "change", "()V"⟩, 21), (⟨"SharedAirModel", "note", "()V"⟩, 21), (⟨"SharedAirModel", "lost", "()I"⟩, 21), (⟨"SharedAirModel", "goesOn", "()Z"⟩, 21), (⟨"SharedAirModel", "hears", "(II)Z"⟩, 21), (⟨"SharedAirModel", "quality", "(II)I"⟩, 21), (⟨"SharedAirModel", "put", "(IIIII)V"⟩, 21), (⟨"SharedAirModel", "refusesOffer", "(IIII)I"⟩, 21), (⟨"SharedAirModel", "isStation", "(I)Z"⟩, 21), (⟨"SharedAirModel", "goSlots", "(I)V"⟩, 21), (⟨"SharedAirModel", "slot", "()V"⟩, 21), (⟨"SharedAirModel", "stepBegin", "()V"⟩, 21), (⟨"SharedAirModel", "isFree", "(I)Z"⟩, 21)]
theorem lw_r3 : ∀ q ∈ lw_privs_3, lw_okq q := List.forall_mem_cons.mpr ⟨lw_p32, List.forall_mem_cons.mpr ⟨lw_p33, List.forall_mem_cons.mpr ⟨lw_p34, List.forall_mem_cons.mpr ⟨lw_p35, List.forall_mem_cons.mpr ⟨lw_p36, List.forall_mem_cons.mpr ⟨lw_p37, List.forall_mem_cons.mpr ⟨lw_p38, List.forall_mem_cons.mpr ⟨lw_p39, List.forall_mem_cons.mpr ⟨lw_p40, List.forall_mem_cons.mpr ⟨lw_p41, List.forall_mem_cons.mpr ⟨lw_p42, List.forall_mem_cons.mpr ⟨lw_p43, List.forall_mem_cons.mpr ⟨lw_p44, List.forall_mem_cons.mpr ⟨lw_p45, List.forall_mem_cons.mpr ⟨lw_p46, List.forall_mem_cons.mpr ⟨lw_p47, fun _ h => absurd h List.not_mem_nil⟩⟩⟩⟩⟩⟩⟩⟩⟩⟩⟩⟩⟩⟩⟩⟩
theorem lw_p48 : lw_okq (⟨"SharedAirModel", "isReady", "(II)Z"⟩, 21) := ⟨⟨by decide +kernel, by decide +kernel⟩, List.mem_of_getElem? (i := 971) (by decide +kernel), List.mem_of_getElem? (i := 1181) (by decide +kernel), List.mem_of_getElem? (i := 1182) (by decide +kernel)⟩
theorem lw_p49 : lw_okq (⟨"SharedAirModel", "begins", "(II)V"⟩, 21) := ⟨⟨by decide +kernel, by decide +kernel⟩, List.mem_of_getElem? (i := 971) (by decide +kernel), List.mem_of_getElem? (i := 1185) (by decide +kernel), List.mem_of_getElem? (i := 1186) (by decide +kernel)⟩
theorem lw_p50 : lw_okq (⟨"SharedAirModel", "had", "(III)V"⟩, 21) := ⟨⟨by decide +kernel, by decide +kernel⟩, List.mem_of_getElem? (i := 971) (by decide +kernel), List.mem_of_getElem? (i := 1192) (by decide +kernel), List.mem_of_getElem? (i := 1193) (by decide +kernel)⟩
theorem lw_p51 : lw_okq (⟨"SharedAirModel", "fails", "(II)V"⟩, 21) := ⟨⟨by decide +kernel, by decide +kernel⟩, List.mem_of_getElem? (i := 971) (by decide +kernel), List.mem_of_getElem? (i := 1196) (by decide +kernel), List.mem_of_getElem? (i := 1197) (by decide +kernel)⟩
theorem lw_p52 : lw_okq (⟨"SharedAirModel", "isLost", "(III)V"⟩, 21) := ⟨⟨by decide +kernel, by decide +kernel⟩, List.mem_of_getElem? (i := 971) (by decide +kernel), List.mem_of_getElem? (i := 1200) (by decide +kernel), List.mem_of_getElem? (i := 1201) (by decide +kernel)⟩
theorem lw_p53 : lw_okq (⟨"SharedAirModel", "leaves", "(III)V"⟩, 21) := ⟨⟨by decide +kernel, by decide +kernel⟩, List.mem_of_getElem? (i := 971) (by decide +kernel), List.mem_of_getElem? (i := 1204) (by decide +kernel), List.mem_of_getElem? (i := 1205) (by decide +kernel)⟩
theorem lw_p54 : lw_okq (⟨"SharedAirModel", "drawsCount", "(II)V"⟩, 21) := ⟨⟨by decide +kernel, by decide +kernel⟩, List.mem_of_getElem? (i := 971) (by decide +kernel), List.mem_of_getElem? (i := 1209) (by decide +kernel), List.mem_of_getElem? (i := 1210) (by decide +kernel)⟩
theorem lw_p55 : lw_okq (⟨"SharedAirModel", "draw", "(I)I"⟩, 21) := ⟨⟨by decide +kernel, by decide +kernel⟩, List.mem_of_getElem? (i := 971) (by decide +kernel), List.mem_of_getElem? (i := 1213) (by decide +kernel), List.mem_of_getElem? (i := 1214) (by decide +kernel)⟩
theorem lw_p56 : lw_okq (⟨"SharedAirModel", "stepSend", "()V"⟩, 21) := ⟨⟨by decide +kernel, by decide +kernel⟩, List.mem_of_getElem? (i := 971) (by decide +kernel), List.mem_of_getElem? (i := 1218) (by decide +kernel), List.mem_of_getElem? (i := 1219) (by decide +kernel)⟩
theorem lw_p57 : lw_okq (⟨"SharedAirModel", "isClear", "(II)Z"⟩, 21) := ⟨⟨by decide +kernel, by decide +kernel⟩, List.mem_of_getElem? (i := 971) (by decide +kernel), List.mem_of_getElem? (i := 1222) (by decide +kernel), List.mem_of_getElem? (i := 1223) (by decide +kernel)⟩
theorem lw_p58 : lw_okq (⟨"SharedAirModel", "hearsOthers", "(II)Z"⟩, 21) := ⟨⟨by decide +kernel, by decide +kernel⟩, List.mem_of_getElem? (i := 971) (by decide +kernel), List.mem_of_getElem? (i := 1226) (by decide +kernel), List.mem_of_getElem? (i := 1227) (by decide +kernel)⟩
theorem lw_p59 : lw_okq (⟨"SharedAirModel", "stepHeld", "()V"⟩, 21) := ⟨⟨by decide +kernel, by decide +kernel⟩, List.mem_of_getElem? (i := 971) (by decide +kernel), List.mem_of_getElem? (i := 1230) (by decide +kernel), List.mem_of_getElem? (i := 1231) (by decide +kernel)⟩
theorem lw_p60 : lw_okq (⟨"SharedAirModel", "waiting", "(I)I"⟩, 21) := ⟨⟨by decide +kernel, by decide +kernel⟩, List.mem_of_getElem? (i := 971) (by decide +kernel), List.mem_of_getElem? (i := 1234) (by decide +kernel), List.mem_of_getElem? (i := 1235) (by decide +kernel)⟩
theorem lw_p61 : lw_okq (⟨"SharedAirModel", "stepSender", "(I)V"⟩, 21) := ⟨⟨by decide +kernel, by decide +kernel⟩, List.mem_of_getElem? (i := 971) (by decide +kernel), List.mem_of_getElem? (i := 1238) (by decide +kernel), List.mem_of_getElem? (i := 1239) (by decide +kernel)⟩
theorem lw_p62 : lw_okq (⟨"SharedAirModel", "owes", "(III)V"⟩, 21) := ⟨⟨by decide +kernel, by decide +kernel⟩, List.mem_of_getElem? (i := 971) (by decide +kernel), List.mem_of_getElem? (i := 1242) (by decide +kernel), List.mem_of_getElem? (i := 1243) (by decide +kernel)⟩
theorem lw_p63 : lw_okq (⟨"SharedAirModel", "spans", "(IIII)V"⟩, 21) := ⟨⟨by decide +kernel, by decide +kernel⟩, List.mem_of_getElem? (i := 971) (by decide +kernel), List.mem_of_getElem? (i := 1246) (by decide +kernel), List.mem_of_getElem? (i := 1247) (by decide +kernel)⟩
def lw_privs_4 : List (MethodName × Nat) := [(⟨"SharedAirModel", "isReady", "(II)Z"⟩, 21), (⟨"SharedAirModel", "begins", "(II)V"⟩, 21), (⟨"SharedAirModel", "had", "(III)V"⟩, 21), (⟨"SharedAirModel", "fails", "(II)V"⟩, 21), (⟨"SharedAirModel", "isLost", "(III)V"⟩, 21), (⟨"SharedAirModel", "leaves", "(III)V"⟩, 21), (⟨"SharedAirModel", "drawsCount", "(II)V"⟩, 21), (⟨"SharedAirModel", "draw", "(I)I"⟩, 21), (⟨"SharedAirModel", "stepSend", "()V"⟩, 21), (⟨"SharedAirModel", "isClear", "(II)Z"⟩, 21), (⟨"SharedAirModel", "hearsOthers", "(II)Z"⟩, 21), (⟨"SharedAirModel", "stepHeld", "()V"⟩, 21), (⟨"SharedAirModel", "waiting", "(I)I"⟩, 21), (⟨"SharedAirModel", "stepSender", "(I)V"⟩, 21), (⟨"SharedAirModel", "owes", "(III)V"⟩, 21), (⟨"SharedAirModel", "spans", "(IIII)V"⟩, 21)]
theorem lw_r4 : ∀ q ∈ lw_privs_4, lw_okq q := List.forall_mem_cons.mpr ⟨lw_p48, List.forall_mem_cons.mpr ⟨lw_p49, List.forall_mem_cons.mpr ⟨lw_p50, List.forall_mem_cons.mpr ⟨lw_p51, List.forall_mem_cons.mpr ⟨lw_p52, List.forall_mem_cons.mpr ⟨lw_p53, List.forall_mem_cons.mpr ⟨lw_p54, List.forall_mem_cons.mpr ⟨lw_p55, List.forall_mem_cons.mpr ⟨lw_p56, List.forall_mem_cons.mpr ⟨lw_p57, List.forall_mem_cons.mpr ⟨lw_p58, List.forall_mem_cons.mpr ⟨lw_p59, List.forall_mem_cons.mpr ⟨lw_p60, List.forall_mem_cons.mpr ⟨lw_p61, List.forall_mem_cons.mpr ⟨lw_p62, List.forall_mem_cons.mpr ⟨lw_p63, fun _ h => absurd h List.not_mem_nil⟩⟩⟩⟩⟩⟩⟩⟩⟩⟩⟩⟩⟩⟩⟩⟩
theorem lw_p64 : lw_okq (⟨"SharedAirModel", "sendsIt", "(III)Z"⟩, 21) := ⟨⟨by decide +kernel, by decide +kernel⟩, List.mem_of_getElem? (i := 971) (by decide +kernel), List.mem_of_getElem? (i := 1250) (by decide +kernel), List.mem_of_getElem? (i := 1251) (by decide +kernel)⟩
theorem lw_p65 : lw_okq (⟨"SharedAirModel", "failsBy", "(IZ)V"⟩, 21) := ⟨⟨by decide +kernel, by decide +kernel⟩, List.mem_of_getElem? (i := 971) (by decide +kernel), List.mem_of_getElem? (i := 1254) (by decide +kernel), List.mem_of_getElem? (i := 1255) (by decide +kernel)⟩
theorem lw_p66 : lw_okq (⟨"SharedAirModel", "stepData", "(I)V"⟩, 21) := ⟨⟨by decide +kernel, by decide +kernel⟩, List.mem_of_getElem? (i := 971) (by decide +kernel), List.mem_of_getElem? (i := 1259) (by decide +kernel), List.mem_of_getElem? (i := 1260) (by decide +kernel)⟩
theorem lw_p67 : lw_okq (⟨"SharedAirModel", "delivers", "(I)V"⟩, 21) := ⟨⟨by decide +kernel, by decide +kernel⟩, List.mem_of_getElem? (i := 971) (by decide +kernel), List.mem_of_getElem? (i := 1263) (by decide +kernel), List.mem_of_getElem? (i := 1264) (by decide +kernel)⟩
theorem lw_p68 : lw_okq (⟨"SharedAirModel", "stepEnd", "()V"⟩, 21) := ⟨⟨by decide +kernel, by decide +kernel⟩, List.mem_of_getElem? (i := 971) (by decide +kernel), List.mem_of_getElem? (i := 1267) (by decide +kernel), List.mem_of_getElem? (i := 1268) (by decide +kernel)⟩
theorem lw_p69 : lw_okq (⟨"SharedAirModel", "tell", "(J)V"⟩, 21) := ⟨⟨by decide +kernel, by decide +kernel⟩, List.mem_of_getElem? (i := 971) (by decide +kernel), List.mem_of_getElem? (i := 1271) (by decide +kernel), List.mem_of_getElem? (i := 1272) (by decide +kernel)⟩
theorem lw_p70 : lw_okq (⟨"SharedAirModel", "drawAll", "()I"⟩, 21) := ⟨⟨by decide +kernel, by decide +kernel⟩, List.mem_of_getElem? (i := 971) (by decide +kernel), List.mem_of_getElem? (i := 1279) (by decide +kernel), List.mem_of_getElem? (i := 1280) (by decide +kernel)⟩
theorem lw_p71 : lw_okq (⟨"SharedAirModel", "heardBy", "(I)I"⟩, 21) := ⟨⟨by decide +kernel, by decide +kernel⟩, List.mem_of_getElem? (i := 971) (by decide +kernel), List.mem_of_getElem? (i := 1287) (by decide +kernel), List.mem_of_getElem? (i := 1288) (by decide +kernel)⟩
theorem lw_p72 : lw_okq (⟨"SharedAirModel", "placesOf", "(I)I"⟩, 21) := ⟨⟨by decide +kernel, by decide +kernel⟩, List.mem_of_getElem? (i := 971) (by decide +kernel), List.mem_of_getElem? (i := 1303) (by decide +kernel), List.mem_of_getElem? (i := 1304) (by decide +kernel)⟩
theorem lw_p73 : lw_okq (⟨"SharedAirModel", "layAside", "()V"⟩, 21) := ⟨⟨by decide +kernel, by decide +kernel⟩, List.mem_of_getElem? (i := 971) (by decide +kernel), List.mem_of_getElem? (i := 1372) (by decide +kernel), List.mem_of_getElem? (i := 1373) (by decide +kernel)⟩
theorem lw_p74 : lw_okq (⟨"SharedAirModel", "allWaiting", "()I"⟩, 21) := ⟨⟨by decide +kernel, by decide +kernel⟩, List.mem_of_getElem? (i := 971) (by decide +kernel), List.mem_of_getElem? (i := 1376) (by decide +kernel), List.mem_of_getElem? (i := 1377) (by decide +kernel)⟩
theorem lw_p75 : lw_okq (⟨"SharedAirModel", "comesBack", "()V"⟩, 21) := ⟨⟨by decide +kernel, by decide +kernel⟩, List.mem_of_getElem? (i := 971) (by decide +kernel), List.mem_of_getElem? (i := 1380) (by decide +kernel), List.mem_of_getElem? (i := 1381) (by decide +kernel)⟩
theorem lw_p76 : lw_okq (⟨"SharedAirModel", "isQuiet", "()Z"⟩, 21) := ⟨⟨by decide +kernel, by decide +kernel⟩, List.mem_of_getElem? (i := 971) (by decide +kernel), List.mem_of_getElem? (i := 1388) (by decide +kernel), List.mem_of_getElem? (i := 1389) (by decide +kernel)⟩
theorem lw_p77 : lw_okq (⟨"SharedAirModel", "takes", "(II)I"⟩, 21) := ⟨⟨by decide +kernel, by decide +kernel⟩, List.mem_of_getElem? (i := 971) (by decide +kernel), List.mem_of_getElem? (i := 1400) (by decide +kernel), List.mem_of_getElem? (i := 1401) (by decide +kernel)⟩
theorem lw_p78 : lw_okq (⟨"SharedAirModel", "readAct", "(I)V"⟩, 21) := ⟨⟨by decide +kernel, by decide +kernel⟩, List.mem_of_getElem? (i := 971) (by decide +kernel), List.mem_of_getElem? (i := 1408) (by decide +kernel), List.mem_of_getElem? (i := 1409) (by decide +kernel)⟩
theorem lw_p79 : lw_okq (⟨"SharedAirModel", "twoDigits", "()I"⟩, 21) := ⟨⟨by decide +kernel, by decide +kernel⟩, List.mem_of_getElem? (i := 971) (by decide +kernel), List.mem_of_getElem? (i := 1412) (by decide +kernel), List.mem_of_getElem? (i := 1413) (by decide +kernel)⟩
def lw_privs_5 : List (MethodName × Nat) := [(⟨"SharedAirModel", "sendsIt", "(III)Z"⟩, 21), (⟨"SharedAirModel", "failsBy", "(IZ)V"⟩, 21), (⟨"SharedAirModel", "stepData", "(I)V"⟩, 21), (⟨"SharedAirModel", "delivers", "(I)V"⟩, 21), (⟨"SharedAirModel", "stepEnd", "()V"⟩, 21), (⟨"SharedAirModel", "tell", "(J)V"⟩, 21), (⟨"SharedAirModel", "drawAll", "()I"⟩, 21), (⟨"SharedAirModel", "heardBy", "(I)I"⟩, 21), (⟨"SharedAirModel", "placesOf", "(I)I"⟩, 21), (⟨"SharedAirModel", "layAside", "()V"⟩, 21), (⟨"SharedAirModel", "allWaiting", "()I"⟩, 21), (⟨"SharedAirModel", "comesBack", "()V"⟩, 21), (⟨"SharedAirModel", "isQuiet", "()Z"⟩, 21), (⟨"SharedAirModel", "takes", "(II)I"⟩, 21), (⟨"SharedAirModel", "readAct", "(I)V"⟩, 21), (⟨"SharedAirModel", "twoDigits", "()I"⟩, 21)]
theorem lw_r5 : ∀ q ∈ lw_privs_5, lw_okq q := List.forall_mem_cons.mpr ⟨lw_p64, List.forall_mem_cons.mpr ⟨lw_p65, List.forall_mem_cons.mpr ⟨lw_p66, List.forall_mem_cons.mpr ⟨lw_p67, List.forall_mem_cons.mpr ⟨lw_p68, List.forall_mem_cons.mpr ⟨lw_p69, List.forall_mem_cons.mpr ⟨lw_p70, List.forall_mem_cons.mpr ⟨lw_p71, List.forall_mem_cons.mpr ⟨lw_p72, List.forall_mem_cons.mpr ⟨lw_p73, List.forall_mem_cons.mpr ⟨lw_p74, List.forall_mem_cons.mpr ⟨lw_p75, List.forall_mem_cons.mpr ⟨lw_p76, List.forall_mem_cons.mpr ⟨lw_p77, List.forall_mem_cons.mpr ⟨lw_p78, List.forall_mem_cons.mpr ⟨lw_p79, fun _ h => absurd h List.not_mem_nil⟩⟩⟩⟩⟩⟩⟩⟩⟩⟩⟩⟩⟩⟩⟩⟩
theorem lw_p80 : lw_okq (⟨"SharedAirModel", "act", "(I)Z"⟩, 21) := ⟨⟨by decide +kernel, by decide +kernel⟩, List.mem_of_getElem? (i := 971) (by decide +kernel), List.mem_of_getElem? (i := 1416) (by decide +kernel), List.mem_of_getElem? (i := 1417) (by decide +kernel)⟩
theorem lw_p81 : lw_okq (⟨"SharedAirModel", "drawBeside", "(I)I"⟩, 21) := ⟨⟨by decide +kernel, by decide +kernel⟩, List.mem_of_getElem? (i := 971) (by decide +kernel), List.mem_of_getElem? (i := 1428) (by decide +kernel), List.mem_of_getElem? (i := 1429) (by decide +kernel)⟩
theorem lw_p82 : lw_okq (⟨"SharedAirModel", "exchanges", "()I"⟩, 21) := ⟨⟨by decide +kernel, by decide +kernel⟩, List.mem_of_getElem? (i := 971) (by decide +kernel), List.mem_of_getElem? (i := 1444) (by decide +kernel), List.mem_of_getElem? (i := 1445) (by decide +kernel)⟩
def lw_privs_6 : List (MethodName × Nat) := [(⟨"SharedAirModel", "act", "(I)Z"⟩, 21), (⟨"SharedAirModel", "drawBeside", "(I)I"⟩, 21), (⟨"SharedAirModel", "exchanges", "()I"⟩, 21)]
theorem lw_r6 : ∀ q ∈ lw_privs_6, lw_okq q := List.forall_mem_cons.mpr ⟨lw_p80, List.forall_mem_cons.mpr ⟨lw_p81, List.forall_mem_cons.mpr ⟨lw_p82, fun _ h => absurd h List.not_mem_nil⟩⟩⟩
def lw_privs : List (MethodName × Nat) := lw_privs_1 ++ (lw_privs_2 ++ (lw_privs_3 ++ (lw_privs_4 ++ (lw_privs_5 ++ (lw_privs_6)))))
def lw_tbl : List Cond := k2_sels lw_privs ++ tables_1
theorem lw_privs_ok : ∀ q ∈ lw_privs, lw_okq q := by
  show ∀ q ∈ lw_privs_1 ++ (lw_privs_2 ++ (lw_privs_3 ++ (lw_privs_4 ++ (lw_privs_5 ++ (lw_privs_6))))), lw_okq q
  exact List.forall_mem_append.mpr ⟨lw_r1, List.forall_mem_append.mpr ⟨lw_r2, List.forall_mem_append.mpr ⟨lw_r3, List.forall_mem_append.mpr ⟨lw_r4, List.forall_mem_append.mpr ⟨lw_r5, lw_r6⟩⟩⟩⟩⟩
def RX0 : String := "SharedAir$Air"
def RX1 : String := "SharedAir$Dice"
def RX2 : String := "SharedAir$Exchange"
def RX3 : String := "SharedAir$Had"
def RX4 : String := "SharedAir$Numbers"
def RX5 : String := "SharedAir$Past"
def RX6 : String := "SharedAir$Queue"
def RX7 : String := "SharedAir$Signs"
def RX8 : String := "SharedAir$Station"
def RX9 : String := "SharedAir"
def RX10 : String := "SharedAirModel"
def RL : String := "SharedAirLaw"
def TX0 : u_T := fun k => match k with
  | 0 => ("SharedAir$Air", "settings", "[I", true)
  | 1 => ("SharedAir$Air", "dice", "LSharedAir$Dice;", true)
  | 2 => ("SharedAir$Air", "stations", "[LSharedAir$Station;", true)
  | 3 => ("SharedAir$Air", "many", "I", false)
  | 4 => ("SharedAir$Air", "time", "I", false)
  | 5 => ("SharedAir$Air", "sending", "I", false)
  | 6 => ("SharedAir$Air", "clear", "I", false)
  | 7 => ("SharedAir$Air", "ran", "I", false)
  | 8 => ("SharedAir$Air", "beginning", "I", false)
  | 9 => ("SharedAir$Air", "slotsOne", "I", false)
  | 10 => ("SharedAir$Air", "slotsNone", "I", false)
  | 11 => ("SharedAir$Air", "slotsMore", "I", false)
  | _ => ("SharedAir$Air", "markedCame", "Z", false)
def TX1 : u_T := fun k => match k with
  | _ => ("SharedAir$Dice", "seed", "I", false)
def TX2 : u_T := fun k => match k with
  | 0 => ("SharedAir$Exchange", "goesOn", "Z", false)
  | 1 => ("SharedAir$Exchange", "with", "I", false)
  | 2 => ("SharedAir$Exchange", "ofRank", "I", false)
  | 3 => ("SharedAir$Exchange", "frames", "I", false)
  | 4 => ("SharedAir$Exchange", "places", "I", false)
  | 5 => ("SharedAir$Exchange", "step", "I", false)
  | 6 => ("SharedAir$Exchange", "left", "I", false)
  | 7 => ("SharedAir$Exchange", "whole", "I", false)
  | 8 => ("SharedAir$Exchange", "end", "I", false)
  | 9 => ("SharedAir$Exchange", "failure", "I", false)
  | 10 => ("SharedAir$Exchange", "frameNow", "I", false)
  | 11 => ("SharedAir$Exchange", "placesNow", "I", false)
  | _ => ("SharedAir$Exchange", "brokenNow", "Z", false)
def TX3 : u_T := fun k => match k with
  | 0 => ("SharedAir$Had", "tallies", "[I", true)
  | 1 => ("SharedAir$Had", "spoiltBy", "[I", true)
  | 2 => ("SharedAir$Had", "dataPlaces", "I", false)
  | 3 => ("SharedAir$Had", "failure", "I", false)
  | 4 => ("SharedAir$Had", "failureSlot", "I", false)
  | 5 => ("SharedAir$Had", "failureWith", "I", false)
  | 6 => ("SharedAir$Had", "heldBySpan", "I", false)
  | 7 => ("SharedAir$Had", "heldByHearing", "I", false)
  | _ => ("SharedAir$Had", "heldElse", "I", false)
def TX4 : u_T := fun k => match k with
  | 0 => ("SharedAir$Numbers", "numbers", "[J", true)
  | _ => ("SharedAir$Numbers", "length", "I", false)
def TX5 : u_T := fun k => match k with
  | 0 => ("SharedAir$Past", "airs", "[LSharedAir$Air;", true)
  | 1 => ("SharedAir$Past", "size", "I", false)
  | _ => ("SharedAir$Past", "latest", "I", false)
def TX6 : u_T := fun k => match k with
  | 0 => ("SharedAir$Queue", "frames", "[I", true)
  | 1 => ("SharedAir$Queue", "size", "I", false)
  | 2 => ("SharedAir$Queue", "window", "I", false)
  | _ => ("SharedAir$Queue", "count", "I", false)
def TX7 : u_T := fun k => match k with
  | 0 => ("SharedAir$Signs", "signs", "[I", true)
  | _ => ("SharedAir$Signs", "length", "I", false)
def TX8 : u_T := fun k => match k with
  | 0 => ("SharedAir$Station", "queues", "[LSharedAir$Queue;", true)
  | 1 => ("SharedAir$Station", "exchange", "LSharedAir$Exchange;", true)
  | 2 => ("SharedAir$Station", "had", "LSharedAir$Had;", true)
  | 3 => ("SharedAir$Station", "qualities", "[I", true)
  | 4 => ("SharedAir$Station", "rates", "[I", true)
  | 5 => ("SharedAir$Station", "lucks", "[I", true)
  | 6 => ("SharedAir$Station", "hears", "I", false)
  | 7 => ("SharedAir$Station", "still", "I", false)
  | 8 => ("SharedAir$Station", "span", "I", false)
  | 9 => ("SharedAir$Station", "spanBy", "I", false)
  | 10 => ("SharedAir$Station", "spanStep", "I", false)
  | 11 => ("SharedAir$Station", "owesTo", "I", false)
  | _ => ("SharedAir$Station", "owes", "I", false)
def TX9 : u_T := fun k => match k with
  | 0 => ("SharedAir", "air", "LSharedAir$Air;", true)
  | 1 => ("SharedAir", "trial", "LSharedAir$Air;", true)
  | 2 => ("SharedAir", "yearDice", "LSharedAir$Dice;", true)
  | 3 => ("SharedAir", "past", "LSharedAir$Past;", true)
  | 4 => ("SharedAir", "kept", "[LSharedAir$Air;", true)
  | 5 => ("SharedAir", "isKept", "[Z", true)
  | 6 => ("SharedAir", "text", "LSharedAir$Signs;", true)
  | 7 => ("SharedAir", "told", "LSharedAir$Numbers;", true)
  | _ => ("SharedAir", "pairs", "[I", true)
def TX10 : u_T := fun k => match k with
  | 0 => ("SharedAirModel", "now", "[I", true)
  | 1 => ("SharedAirModel", "text", "[B", true)
  | 2 => ("SharedAirModel", "typed", "I", false)
  | 3 => ("SharedAirModel", "row", "[J", true)
  | 4 => ("SharedAirModel", "rowMany", "I", false)
  | 5 => ("SharedAirModel", "thrown", "I", false)
  | 6 => ("SharedAirModel", "length", "I", false)
  | 7 => ("SharedAirModel", "at", "I", false)
  | 8 => ("SharedAirModel", "wrong", "I", false)
  | 9 => ("SharedAirModel", "told", "[I", true)
  | 10 => ("SharedAirModel", "owesThen", "[I", true)
  | 11 => ("SharedAirModel", "whatThen", "[I", true)
  | 12 => ("SharedAirModel", "sends", "I", false)
  | 13 => ("SharedAirModel", "aside", "[I", true)
  | 14 => ("SharedAirModel", "acts", "[I", true)
  | 15 => ("SharedAirModel", "undos", "[I", true)
  | 16 => ("SharedAirModel", "was", "[I", true)
  | 17 => ("SharedAirModel", "undoMany", "I", false)
  | 18 => ("SharedAirModel", "drawn", "I", false)
  | 19 => ("SharedAirModel", "kept", "[I", true)
  | _ => ("SharedAirModel", "isKept", "[Z", true)
def tyX0 : Nat → FieldType := fun k => match k with
  | 0 => .array .int
  | 1 => .object "SharedAir$Dice"
  | 2 => .array (.object "SharedAir$Station")
  | 3 => .int
  | 4 => .int
  | 5 => .int
  | 6 => .int
  | 7 => .int
  | 8 => .int
  | 9 => .int
  | 10 => .int
  | 11 => .int
  | _ => .boolean
def tyX1 : Nat → FieldType := fun k => match k with
  | _ => .int
def tyX2 : Nat → FieldType := fun k => match k with
  | 0 => .boolean
  | 1 => .int
  | 2 => .int
  | 3 => .int
  | 4 => .int
  | 5 => .int
  | 6 => .int
  | 7 => .int
  | 8 => .int
  | 9 => .int
  | 10 => .int
  | 11 => .int
  | _ => .boolean
def tyX3 : Nat → FieldType := fun k => match k with
  | 0 => .array .int
  | 1 => .array .int
  | 2 => .int
  | 3 => .int
  | 4 => .int
  | 5 => .int
  | 6 => .int
  | 7 => .int
  | _ => .int
def tyX4 : Nat → FieldType := fun k => match k with
  | 0 => .array .long
  | _ => .int
def tyX5 : Nat → FieldType := fun k => match k with
  | 0 => .array (.object "SharedAir$Air")
  | 1 => .int
  | _ => .int
def tyX6 : Nat → FieldType := fun k => match k with
  | 0 => .array .int
  | 1 => .int
  | 2 => .int
  | _ => .int
def tyX7 : Nat → FieldType := fun k => match k with
  | 0 => .array .int
  | _ => .int
def tyX8 : Nat → FieldType := fun k => match k with
  | 0 => .array (.object "SharedAir$Queue")
  | 1 => .object "SharedAir$Exchange"
  | 2 => .object "SharedAir$Had"
  | 3 => .array .int
  | 4 => .array .int
  | 5 => .array .int
  | 6 => .int
  | 7 => .int
  | 8 => .int
  | 9 => .int
  | 10 => .int
  | 11 => .int
  | _ => .int
def tyX9 : Nat → FieldType := fun k => match k with
  | 0 => .object "SharedAir$Air"
  | 1 => .object "SharedAir$Air"
  | 2 => .object "SharedAir$Dice"
  | 3 => .object "SharedAir$Past"
  | 4 => .array (.object "SharedAir$Air")
  | 5 => .array .boolean
  | 6 => .object "SharedAir$Signs"
  | 7 => .object "SharedAir$Numbers"
  | _ => .array .int
def tyX10 : Nat → FieldType := fun k => match k with
  | 0 => .array .int
  | 1 => .array .byte
  | 2 => .int
  | 3 => .array .long
  | 4 => .int
  | 5 => .int
  | 6 => .int
  | 7 => .int
  | 8 => .int
  | 9 => .array .int
  | 10 => .array .int
  | 11 => .array .int
  | 12 => .int
  | 13 => .array .int
  | 14 => .array .int
  | 15 => .array .int
  | 16 => .array .int
  | 17 => .int
  | 18 => .int
  | 19 => .array .int
  | _ => .array .boolean
theorem nmX0 : ∀ a, a < 13 → ∀ b, b < 13 → a ≠ b → (TX0 a).2.1 ≠ (TX0 b).2.1 := by decide +kernel
theorem nmX1 : ∀ a, a < 1 → ∀ b, b < 1 → a ≠ b → (TX1 a).2.1 ≠ (TX1 b).2.1 := by decide +kernel
theorem nmX2 : ∀ a, a < 13 → ∀ b, b < 13 → a ≠ b → (TX2 a).2.1 ≠ (TX2 b).2.1 := by decide +kernel
theorem nmX3 : ∀ a, a < 9 → ∀ b, b < 9 → a ≠ b → (TX3 a).2.1 ≠ (TX3 b).2.1 := by decide +kernel
theorem nmX4 : ∀ a, a < 2 → ∀ b, b < 2 → a ≠ b → (TX4 a).2.1 ≠ (TX4 b).2.1 := by decide +kernel
theorem nmX5 : ∀ a, a < 3 → ∀ b, b < 3 → a ≠ b → (TX5 a).2.1 ≠ (TX5 b).2.1 := by decide +kernel
theorem nmX6 : ∀ a, a < 4 → ∀ b, b < 4 → a ≠ b → (TX6 a).2.1 ≠ (TX6 b).2.1 := by decide +kernel
theorem nmX7 : ∀ a, a < 2 → ∀ b, b < 2 → a ≠ b → (TX7 a).2.1 ≠ (TX7 b).2.1 := by decide +kernel
theorem nmX8 : ∀ a, a < 13 → ∀ b, b < 13 → a ≠ b → (TX8 a).2.1 ≠ (TX8 b).2.1 := by decide +kernel
theorem nmX9 : ∀ a, a < 9 → ∀ b, b < 9 → a ≠ b → (TX9 a).2.1 ≠ (TX9 b).2.1 := by decide +kernel
theorem nmX10 : ∀ a, a < 21 → ∀ b, b < 21 → a ≠ b → (TX10 a).2.1 ≠ (TX10 b).2.1 := by decide +kernel
theorem tyX0_ok : ∀ k, k < 13 → parseFieldDescriptor (TX0 k).2.2.1 = some (tyX0 k) := by decide +kernel
theorem tyX1_ok : ∀ k, k < 1 → parseFieldDescriptor (TX1 k).2.2.1 = some (tyX1 k) := by decide +kernel
theorem tyX2_ok : ∀ k, k < 13 → parseFieldDescriptor (TX2 k).2.2.1 = some (tyX2 k) := by decide +kernel
theorem tyX3_ok : ∀ k, k < 9 → parseFieldDescriptor (TX3 k).2.2.1 = some (tyX3 k) := by decide +kernel
theorem tyX4_ok : ∀ k, k < 2 → parseFieldDescriptor (TX4 k).2.2.1 = some (tyX4 k) := by decide +kernel
theorem tyX5_ok : ∀ k, k < 3 → parseFieldDescriptor (TX5 k).2.2.1 = some (tyX5 k) := by decide +kernel
theorem tyX6_ok : ∀ k, k < 4 → parseFieldDescriptor (TX6 k).2.2.1 = some (tyX6 k) := by decide +kernel
theorem tyX7_ok : ∀ k, k < 2 → parseFieldDescriptor (TX7 k).2.2.1 = some (tyX7 k) := by decide +kernel
theorem tyX8_ok : ∀ k, k < 13 → parseFieldDescriptor (TX8 k).2.2.1 = some (tyX8 k) := by decide +kernel
theorem tyX9_ok : ∀ k, k < 9 → parseFieldDescriptor (TX9 k).2.2.1 = some (tyX9 k) := by decide +kernel
theorem tyX10_ok : ∀ k, k < 21 → parseFieldDescriptor (TX10 k).2.2.1 = some (tyX10 k) := by decide +kernel
def RJ6 : String := "java/lang/Integer"
abbrev cX0_init : ByteArray := prog_2_method_1_code
def yX0_init : MethodName := ⟨RX0, "<init>", "()V"⟩
abbrev cX0_become : ByteArray := prog_2_method_2_code
def yX0_become : MethodName := ⟨RX0, "become", "(LSharedAir$Air;)V"⟩
abbrev cX0_startAnew : ByteArray := prog_2_method_3_code
def yX0_startAnew : MethodName := ⟨RX0, "startAnew", "(I[I)V"⟩
abbrev cX0_startStation : ByteArray := prog_2_method_4_code
def yX0_startStation : MethodName := ⟨RX0, "startStation", "(I[I)V"⟩
abbrev cX0_hear : ByteArray := prog_2_method_5_code
def yX0_hear : MethodName := ⟨RX0, "hear", "(II)Z"⟩
abbrev cX0_sumOf : ByteArray := prog_2_method_6_code
def yX0_sumOf : MethodName := ⟨RX0, "sumOf", "(I)I"⟩
abbrev cX0_waiting : ByteArray := prog_2_method_7_code
def yX0_waiting : MethodName := ⟨RX0, "waiting", "()I"⟩
abbrev cX0_exchangesOn : ByteArray := prog_2_method_8_code
def yX0_exchangesOn : MethodName := ⟨RX0, "exchangesOn", "()I"⟩
abbrev cX0_emptyQueues : ByteArray := prog_2_method_9_code
def yX0_emptyQueues : MethodName := ⟨RX0, "emptyQueues", "(I)V"⟩
abbrev cX0_whyNotOffer : ByteArray := prog_2_method_10_code
def yX0_whyNotOffer : MethodName := ⟨RX0, "whyNotOffer", "(IIII)I"⟩
abbrev cX0_takeFrame : ByteArray := prog_2_method_11_code
def yX0_takeFrame : MethodName := ⟨RX0, "takeFrame", "(IIII)I"⟩
abbrev cX0_markLast : ByteArray := prog_2_method_12_code
def yX0_markLast : MethodName := ⟨RX0, "markLast", "(II)V"⟩
abbrev cX0_drawAll : ByteArray := prog_2_method_13_code
def yX0_drawAll : MethodName := ⟨RX0, "drawAll", "()I"⟩
abbrev cX0_isReady : ByteArray := prog_2_method_14_code
def yX0_isReady : MethodName := ⟨RX0, "isReady", "(II)Z"⟩
abbrev cX0_passSlot : ByteArray := prog_2_method_15_code
def yX0_passSlot : MethodName := ⟨RX0, "passSlot", "()V"⟩
abbrev cX0_runningSpans : ByteArray := prog_2_method_16_code
def yX0_runningSpans : MethodName := ⟨RX0, "runningSpans", "()I"⟩
abbrev cX0_beginOf : ByteArray := prog_2_method_17_code
def yX0_beginOf : MethodName := ⟨RX0, "beginOf", "(I)V"⟩
abbrev cX0_beginExchange : ByteArray := prog_2_method_18_code
def yX0_beginExchange : MethodName := ⟨RX0, "beginExchange", "(II)V"⟩
abbrev cX0_placesOf : ByteArray := prog_2_method_19_code
def yX0_placesOf : MethodName := ⟨RX0, "placesOf", "(LSharedAir$Station;I)I"⟩
abbrev cX0_senders : ByteArray := prog_2_method_20_code
def yX0_senders : MethodName := ⟨RX0, "senders", "()I"⟩
abbrev cX0_sendsNow : ByteArray := prog_2_method_21_code
def yX0_sendsNow : MethodName := ⟨RX0, "sendsNow", "(I)Z"⟩
abbrev cX0_isClear : ByteArray := prog_2_method_22_code
def yX0_isClear : MethodName := ⟨RX0, "isClear", "(II)Z"⟩
abbrev cX0_clearOnes : ByteArray := prog_2_method_23_code
def yX0_clearOnes : MethodName := ⟨RX0, "clearOnes", "()I"⟩
abbrev cX0_noteSlot : ByteArray := prog_2_method_24_code
def yX0_noteSlot : MethodName := ⟨RX0, "noteSlot", "()V"⟩
abbrev cX0_spread : ByteArray := prog_2_method_25_code
def yX0_spread : MethodName := ⟨RX0, "spread", "(IIIII)V"⟩
abbrev cX0_goAsk : ByteArray := prog_2_method_26_code
def yX0_goAsk : MethodName := ⟨RX0, "goAsk", "(IILSharedAir$Exchange;)V"⟩
abbrev cX0_goGrant : ByteArray := prog_2_method_27_code
def yX0_goGrant : MethodName := ⟨RX0, "goGrant", "(IILSharedAir$Exchange;)V"⟩
abbrev cX0_goData : ByteArray := prog_2_method_28_code
def yX0_goData : MethodName := ⟨RX0, "goData", "(IILSharedAir$Exchange;)V"⟩
abbrev cX0_noteSpoilt : ByteArray := prog_2_method_29_code
def yX0_noteSpoilt : MethodName := ⟨RX0, "noteSpoilt", "(LSharedAir$Had;I)V"⟩
abbrev cX0_goPlace : ByteArray := prog_2_method_30_code
def yX0_goPlace : MethodName := ⟨RX0, "goPlace", "(LSharedAir$Station;Z)V"⟩
abbrev cX0_goAnswer : ByteArray := prog_2_method_31_code
def yX0_goAnswer : MethodName := ⟨RX0, "goAnswer", "(IILSharedAir$Exchange;)V"⟩
abbrev cX0_deliver : ByteArray := prog_2_method_32_code
def yX0_deliver : MethodName := ⟨RX0, "deliver", "(ILSharedAir$Exchange;)V"⟩
abbrev cX0_failExchange : ByteArray := prog_2_method_33_code
def yX0_failExchange : MethodName := ⟨RX0, "failExchange", "(ILSharedAir$Exchange;)V"⟩
abbrev cX0_failFirst : ByteArray := prog_2_method_34_code
def yX0_failFirst : MethodName := ⟨RX0, "failFirst", "(II)V"⟩
abbrev cX0_settle : ByteArray := prog_2_method_35_code
def yX0_settle : MethodName := ⟨RX0, "settle", "(I)V"⟩
abbrev cX1_init : ByteArray := prog_3_method_1_code
def yX1_init : MethodName := ⟨RX1, "<init>", "()V"⟩
abbrev cX1_draw : ByteArray := prog_3_method_2_code
def yX1_draw : MethodName := ⟨RX1, "draw", "(I)I"⟩
abbrev cX2_init : ByteArray := prog_4_method_1_code
def yX2_init : MethodName := ⟨RX2, "<init>", "()V"⟩
abbrev cX2_become : ByteArray := prog_4_method_2_code
def yX2_become : MethodName := ⟨RX2, "become", "(LSharedAir$Exchange;)V"⟩
abbrev cX2_sends : ByteArray := prog_4_method_3_code
def yX2_sends : MethodName := ⟨RX2, "sends", "()Z"⟩
abbrev cX3_init : ByteArray := prog_5_method_1_code
def yX3_init : MethodName := ⟨RX3, "<init>", "()V"⟩
abbrev cX3_become : ByteArray := prog_5_method_2_code
def yX3_become : MethodName := ⟨RX3, "become", "(LSharedAir$Had;)V"⟩
abbrev cX3_startAnew : ByteArray := prog_5_method_3_code
def yX3_startAnew : MethodName := ⟨RX3, "startAnew", "()V"⟩
abbrev cX3_delivered : ByteArray := prog_5_method_4_code
def yX3_delivered : MethodName := ⟨RX3, "delivered", "(II)V"⟩
abbrev cX4_init : ByteArray := prog_6_method_1_code
def yX4_init : MethodName := ⟨RX4, "<init>", "()V"⟩
abbrev cX4_forget : ByteArray := prog_6_method_2_code
def yX4_forget : MethodName := ⟨RX4, "forget", "()V"⟩
abbrev cX4_add : ByteArray := prog_6_method_3_code
def yX4_add : MethodName := ⟨RX4, "add", "(J)V"⟩
abbrev cX4_tellOne : ByteArray := prog_6_method_4_code
def yX4_tellOne : MethodName := ⟨RX4, "tellOne", "(J)V"⟩
abbrev cX4_tellTwo : ByteArray := prog_6_method_5_code
def yX4_tellTwo : MethodName := ⟨RX4, "tellTwo", "(JJ)V"⟩
abbrev cX4_tellThree : ByteArray := prog_6_method_6_code
def yX4_tellThree : MethodName := ⟨RX4, "tellThree", "(JJJ)V"⟩
abbrev cX4_tellPart : ByteArray := prog_6_method_7_code
def yX4_tellPart : MethodName := ⟨RX4, "tellPart", "(JJ)V"⟩
abbrev cX5_init : ByteArray := prog_7_method_1_code
def yX5_init : MethodName := ⟨RX5, "<init>", "()V"⟩
abbrev cX5_push : ByteArray := prog_7_method_2_code
def yX5_push : MethodName := ⟨RX5, "push", "(LSharedAir$Air;)V"⟩
abbrev cX5_popInto : ByteArray := prog_7_method_3_code
def yX5_popInto : MethodName := ⟨RX5, "popInto", "(LSharedAir$Air;)Z"⟩
abbrev cX6_init : ByteArray := prog_8_method_1_code
def yX6_init : MethodName := ⟨RX6, "<init>", "()V"⟩
abbrev cX6_become : ByteArray := prog_8_method_2_code
def yX6_become : MethodName := ⟨RX6, "become", "(LSharedAir$Queue;)V"⟩
abbrev cX6_fieldOf : ByteArray := prog_8_method_3_code
def yX6_fieldOf : MethodName := ⟨RX6, "fieldOf", "(II)I"⟩
abbrev cX6_addLast : ByteArray := prog_8_method_4_code
def yX6_addLast : MethodName := ⟨RX6, "addLast", "(III)V"⟩
abbrev cX6_tryAgain : ByteArray := prog_8_method_5_code
def yX6_tryAgain : MethodName := ⟨RX6, "tryAgain", "(I)I"⟩
abbrev cX6_removeAt : ByteArray := prog_8_method_6_code
def yX6_removeAt : MethodName := ⟨RX6, "removeAt", "(I)V"⟩
abbrev cX6_alikeAtFirst : ByteArray := prog_8_method_7_code
def yX6_alikeAtFirst : MethodName := ⟨RX6, "alikeAtFirst", "(I)I"⟩
abbrev cX7_init : ByteArray := prog_9_method_1_code
def yX7_init : MethodName := ⟨RX7, "<init>", "()V"⟩
abbrev cX7_addFour : ByteArray := prog_9_method_2_code
def yX7_addFour : MethodName := ⟨RX7, "addFour", "(I)Z"⟩
abbrev cX7_cutTo : ByteArray := prog_9_method_3_code
def yX7_cutTo : MethodName := ⟨RX7, "cutTo", "(I)Z"⟩
abbrev cX7_at : ByteArray := prog_9_method_4_code
def yX7_at : MethodName := ⟨RX7, "at", "(I)I"⟩
abbrev cX7_digitAt : ByteArray := prog_9_method_5_code
def yX7_digitAt : MethodName := ⟨RX7, "digitAt", "(III)I"⟩
abbrev cX7_letterAt : ByteArray := prog_9_method_6_code
def yX7_letterAt : MethodName := ⟨RX7, "letterAt", "(II)I"⟩
abbrev cX8_init : ByteArray := prog_10_method_1_code
def yX8_init : MethodName := ⟨RX8, "<init>", "()V"⟩
abbrev cX8_become : ByteArray := prog_10_method_2_code
def yX8_become : MethodName := ⟨RX8, "become", "(LSharedAir$Station;)V"⟩
abbrev cX8_isFree : ByteArray := prog_10_method_3_code
def yX8_isFree : MethodName := ⟨RX8, "isFree", "()Z"⟩
abbrev cX8_waiting : ByteArray := prog_10_method_4_code
def yX8_waiting : MethodName := ⟨RX8, "waiting", "()I"⟩
abbrev cX8_setOwing : ByteArray := prog_10_method_5_code
def yX8_setOwing : MethodName := ⟨RX8, "setOwing", "(II)V"⟩
abbrev cX8_pays : ByteArray := prog_10_method_6_code
def yX8_pays : MethodName := ⟨RX8, "pays", "(II)Z"⟩
abbrev cX8_listen : ByteArray := prog_10_method_7_code
def yX8_listen : MethodName := ⟨RX8, "listen", "(III)V"⟩
abbrev cX9_init : ByteArray := prog_1_method_1_code
def yX9_init : MethodName := ⟨RX9, "<init>", "()V"⟩
abbrev cX9_sign : ByteArray := prog_1_method_2_code
def yX9_sign : MethodName := ⟨RX9, "sign", "(I)I"⟩
abbrev cX9_end : ByteArray := prog_1_method_3_code
def yX9_end : MethodName := ⟨RX9, "end", "(I)Z"⟩
abbrev cX9_net : ByteArray := prog_1_method_4_code
def yX9_net : MethodName := ⟨RX9, "net", "()I"⟩
abbrev cX9_sets : ByteArray := prog_1_method_5_code
def yX9_sets : MethodName := ⟨RX9, "sets", "(II)I"⟩
abbrev cX9_setting : ByteArray := prog_1_method_6_code
def yX9_setting : MethodName := ⟨RX9, "setting", "(I)I"⟩
abbrev cX9_sheet : ByteArray := prog_1_method_7_code
def yX9_sheet : MethodName := ⟨RX9, "sheet", "(IIIII)I"⟩
abbrev cX9_offers : ByteArray := prog_1_method_8_code
def yX9_offers : MethodName := ⟨RX9, "offers", "(IIII)I"⟩
abbrev cX9_slots : ByteArray := prog_1_method_9_code
def yX9_slots : MethodName := ⟨RX9, "slots", "(I)I"⟩
abbrev cX9_draws : ByteArray := prog_1_method_10_code
def yX9_draws : MethodName := ⟨RX9, "draws", "()I"⟩
abbrev cX9_station : ByteArray := prog_1_method_11_code
def yX9_station : MethodName := ⟨RX9, "station", "(II)I"⟩
abbrev cX9_rank : ByteArray := prog_1_method_12_code
def yX9_rank : MethodName := ⟨RX9, "rank", "(III)I"⟩
abbrev cX9_frame : ByteArray := prog_1_method_13_code
def yX9_frame : MethodName := ⟨RX9, "frame", "(IIII)I"⟩
abbrev cX9_exchange : ByteArray := prog_1_method_14_code
def yX9_exchange : MethodName := ⟨RX9, "exchange", "(II)I"⟩
abbrev cX9_sent : ByteArray := prog_1_method_15_code
def yX9_sent : MethodName := ⟨RX9, "sent", "()I"⟩
abbrev cX9_spanOf : ByteArray := prog_1_method_16_code
def yX9_spanOf : MethodName := ⟨RX9, "spanOf", "(I)I"⟩
abbrev cX9_rate : ByteArray := prog_1_method_17_code
def yX9_rate : MethodName := ⟨RX9, "rate", "(II)I"⟩
abbrev cX9_hidden : ByteArray := prog_1_method_18_code
def yX9_hidden : MethodName := ⟨RX9, "hidden", "()I"⟩
abbrev cX9_tally : ByteArray := prog_1_method_19_code
def yX9_tally : MethodName := ⟨RX9, "tally", "(II)I"⟩
abbrev cX9_why : ByteArray := prog_1_method_20_code
def yX9_why : MethodName := ⟨RX9, "why", "(I)I"⟩
abbrev cX9_spoilt : ByteArray := prog_1_method_21_code
def yX9_spoilt : MethodName := ⟨RX9, "spoilt", "(II)I"⟩
abbrev cX9_held : ByteArray := prog_1_method_22_code
def yX9_held : MethodName := ⟨RX9, "held", "(I)I"⟩
abbrev cX9_even : ByteArray := prog_1_method_23_code
def yX9_even : MethodName := ⟨RX9, "even", "()I"⟩
abbrev cX9_busy : ByteArray := prog_1_method_24_code
def yX9_busy : MethodName := ⟨RX9, "busy", "()I"⟩
abbrev cX9_odds : ByteArray := prog_1_method_25_code
def yX9_odds : MethodName := ⟨RX9, "odds", "(II)I"⟩
abbrev cX9_window : ByteArray := prog_1_method_26_code
def yX9_window : MethodName := ⟨RX9, "window", "(II)I"⟩
abbrev cX9_ahead : ByteArray := prog_1_method_27_code
def yX9_ahead : MethodName := ⟨RX9, "ahead", "(II)I"⟩
abbrev cX9_quiet : ByteArray := prog_1_method_28_code
def yX9_quiet : MethodName := ⟨RX9, "quiet", "()I"⟩
abbrev cX9_next : ByteArray := prog_1_method_29_code
def yX9_next : MethodName := ⟨RX9, "next", "()I"⟩
abbrev cX9_soonest : ByteArray := prog_1_method_30_code
def yX9_soonest : MethodName := ⟨RX9, "soonest", "(I)I"⟩
abbrev cX9_day : ByteArray := prog_1_method_31_code
def yX9_day : MethodName := ⟨RX9, "day", "()I"⟩
abbrev cX9_undo : ByteArray := prog_1_method_32_code
def yX9_undo : MethodName := ⟨RX9, "undo", "()I"⟩
abbrev cX9_years : ByteArray := prog_1_method_33_code
def yX9_years : MethodName := ⟨RX9, "years", "(II)I"⟩
abbrev cX9_keep : ByteArray := prog_1_method_34_code
def yX9_keep : MethodName := ⟨RX9, "keep", "(I)Z"⟩
abbrev cX9_again : ByteArray := prog_1_method_35_code
def yX9_again : MethodName := ⟨RX9, "again", "(I)Z"⟩
abbrev cX9_count : ByteArray := prog_1_method_36_code
def yX9_count : MethodName := ⟨RX9, "count", "(I)I"⟩
abbrev cX9_row : ByteArray := prog_1_method_37_code
def yX9_row : MethodName := ⟨RX9, "row", "(I)J"⟩
abbrev cX9_isStation : ByteArray := prog_1_method_38_code
def yX9_isStation : MethodName := ⟨RX9, "isStation", "(I)Z"⟩
abbrev cX9_isRank : ByteArray := prog_1_method_39_code
def yX9_isRank : MethodName := ⟨RX9, "isRank", "(I)Z"⟩
abbrev cX9_readPairs : ByteArray := prog_1_method_40_code
def yX9_readPairs : MethodName := ⟨RX9, "readPairs", "(I)I"⟩
abbrev cX9_entryOf : ByteArray := prog_1_method_41_code
def yX9_entryOf : MethodName := ⟨RX9, "entryOf", "(II)I"⟩
abbrev cX9_comesFromEntry : ByteArray := prog_1_method_42_code
def yX9_comesFromEntry : MethodName := ⟨RX9, "comesFromEntry", "(III)Z"⟩
abbrev cX9_waysAlone : ByteArray := prog_1_method_43_code
def yX9_waysAlone : MethodName := ⟨RX9, "waysAlone", "(II)J"⟩
abbrev cX9_power : ByteArray := prog_1_method_44_code
def yX9_power : MethodName := ⟨RX9, "power", "(II)J"⟩
abbrev cX9_slotsTillDelivered : ByteArray := prog_1_method_45_code
def yX9_slotsTillDelivered : MethodName := ⟨RX9, "slotsTillDelivered", "(II)I"⟩
abbrev cX9_actLength : ByteArray := prog_1_method_46_code
def yX9_actLength : MethodName := ⟨RX9, "actLength", "(I)I"⟩
abbrev cX9_faultInDay : ByteArray := prog_1_method_47_code
def yX9_faultInDay : MethodName := ⟨RX9, "faultInDay", "()I"⟩
abbrev cX9_faultInAct : ByteArray := prog_1_method_48_code
def yX9_faultInAct : MethodName := ⟨RX9, "faultInAct", "(I)I"⟩
abbrev cX9_doAct : ByteArray := prog_1_method_49_code
def yX9_doAct : MethodName := ⟨RX9, "doAct", "(I)Z"⟩
abbrev cX9_offerDrawn : ByteArray := prog_1_method_50_code
def yX9_offerDrawn : MethodName := ⟨RX9, "offerDrawn", "()V"⟩
abbrev cX10_init : ByteArray := prog_12_method_1_code
def yX10_init : MethodName := ⟨RX10, "<init>", "()V"⟩
abbrev cX10_thrown : ByteArray := prog_12_method_2_code
def yX10_thrown : MethodName := ⟨RX10, "thrown", "()I"⟩
abbrev cX10_in : ByteArray := prog_12_method_3_code
def yX10_in : MethodName := ⟨RX10, "in", "(III)Z"⟩
abbrev cX10_has : ByteArray := prog_12_method_4_code
def yX10_has : MethodName := ⟨RX10, "has", "(II)Z"⟩
abbrev cX10_lost : ByteArray := prog_12_method_5_code
def yX10_lost : MethodName := ⟨RX10, "lost", "()I"⟩
abbrev cX10_tell : ByteArray := prog_12_method_6_code
def yX10_tell : MethodName := ⟨RX10, "tell", "(J)V"⟩
abbrev cX10_common : ByteArray := prog_12_method_7_code
def yX10_common : MethodName := ⟨RX10, "common", "(II)I"⟩
abbrev cX10_commonLong : ByteArray := prog_12_method_8_code
def yX10_commonLong : MethodName := ⟨RX10, "commonLong", "(JJ)J"⟩
abbrev cX10_isStation : ByteArray := prog_12_method_9_code
def yX10_isStation : MethodName := ⟨RX10, "isStation", "(I)Z"⟩
abbrev cX10_isRank : ByteArray := prog_12_method_10_code
def yX10_isRank : MethodName := ⟨RX10, "isRank", "(I)Z"⟩
abbrev cX10_quality : ByteArray := prog_12_method_11_code
def yX10_quality : MethodName := ⟨RX10, "quality", "(II)I"⟩
abbrev cX10_hears : ByteArray := prog_12_method_12_code
def yX10_hears : MethodName := ⟨RX10, "hears", "(II)Z"⟩
abbrev cX10_at : ByteArray := prog_12_method_13_code
def yX10_at : MethodName := ⟨RX10, "at", "(II)I"⟩
abbrev cX10_frameAt : ByteArray := prog_12_method_14_code
def yX10_frameAt : MethodName := ⟨RX10, "frameAt", "(III)I"⟩
abbrev cX10_exchangeAt : ByteArray := prog_12_method_15_code
def yX10_exchangeAt : MethodName := ⟨RX10, "exchangeAt", "(I)I"⟩
abbrev cX10_draw : ByteArray := prog_12_method_16_code
def yX10_draw : MethodName := ⟨RX10, "draw", "(I)I"⟩
abbrev cX10_sign : ByteArray := prog_12_method_17_code
def yX10_sign : MethodName := ⟨RX10, "sign", "(I)I"⟩
abbrev cX10_end : ByteArray := prog_12_method_18_code
def yX10_end : MethodName := ⟨RX10, "end", "(I)Z"⟩
abbrev cX10_begin : ByteArray := prog_12_method_19_code
def yX10_begin : MethodName := ⟨RX10, "begin", "()V"⟩
abbrev cX10_here : ByteArray := prog_12_method_20_code
def yX10_here : MethodName := ⟨RX10, "here", "()I"⟩
abbrev cX10_fine : ByteArray := prog_12_method_21_code
def yX10_fine : MethodName := ⟨RX10, "fine", "()Z"⟩
abbrev cX10_fault : ByteArray := prog_12_method_22_code
def yX10_fault : MethodName := ⟨RX10, "fault", "(I)V"⟩
abbrev cX10_oneOf : ByteArray := prog_12_method_23_code
def yX10_oneOf : MethodName := ⟨RX10, "oneOf", "(CI)I"⟩
abbrev cX10_twoDigits : ByteArray := prog_12_method_24_code
def yX10_twoDigits : MethodName := ⟨RX10, "twoDigits", "()I"⟩
abbrev cX10_wasRight : ByteArray := prog_12_method_25_code
def yX10_wasRight : MethodName := ⟨RX10, "wasRight", "()Z"⟩
abbrev cX10_readPair : ByteArray := prog_12_method_26_code
def yX10_readPair : MethodName := ⟨RX10, "readPair", "(I)I"⟩
abbrev cX10_net : ByteArray := prog_12_method_27_code
def yX10_net : MethodName := ⟨RX10, "net", "()I"⟩
abbrev cX10_highOf : ByteArray := prog_12_method_28_code
def yX10_highOf : MethodName := ⟨RX10, "highOf", "(I)I"⟩
abbrev cX10_sets : ByteArray := prog_12_method_29_code
def yX10_sets : MethodName := ⟨RX10, "sets", "(II)I"⟩
abbrev cX10_setting : ByteArray := prog_12_method_30_code
def yX10_setting : MethodName := ⟨RX10, "setting", "(I)I"⟩
abbrev cX10_goesOn : ByteArray := prog_12_method_31_code
def yX10_goesOn : MethodName := ⟨RX10, "goesOn", "()Z"⟩
abbrev cX10_sheet : ByteArray := prog_12_method_32_code
def yX10_sheet : MethodName := ⟨RX10, "sheet", "(IIIII)I"⟩
abbrev cX10_put : ByteArray := prog_12_method_33_code
def yX10_put : MethodName := ⟨RX10, "put", "(IIIII)V"⟩
abbrev cX10_leaves : ByteArray := prog_12_method_34_code
def yX10_leaves : MethodName := ⟨RX10, "leaves", "(III)V"⟩
abbrev cX10_refusesOffer : ByteArray := prog_12_method_35_code
def yX10_refusesOffer : MethodName := ⟨RX10, "refusesOffer", "(IIII)I"⟩
abbrev cX10_offers : ByteArray := prog_12_method_36_code
def yX10_offers : MethodName := ⟨RX10, "offers", "(IIII)I"⟩
abbrev cX10_isFree : ByteArray := prog_12_method_37_code
def yX10_isFree : MethodName := ⟨RX10, "isFree", "(I)Z"⟩
abbrev cX10_isReady : ByteArray := prog_12_method_38_code
def yX10_isReady : MethodName := ⟨RX10, "isReady", "(II)Z"⟩
abbrev cX10_had : ByteArray := prog_12_method_39_code
def yX10_had : MethodName := ⟨RX10, "had", "(III)V"⟩
abbrev cX10_drawsCount : ByteArray := prog_12_method_40_code
def yX10_drawsCount : MethodName := ⟨RX10, "drawsCount", "(II)V"⟩
abbrev cX10_isLost : ByteArray := prog_12_method_41_code
def yX10_isLost : MethodName := ⟨RX10, "isLost", "(III)V"⟩
abbrev cX10_fails : ByteArray := prog_12_method_42_code
def yX10_fails : MethodName := ⟨RX10, "fails", "(II)V"⟩
abbrev cX10_roundedUp : ByteArray := prog_12_method_43_code
def yX10_roundedUp : MethodName := ⟨RX10, "roundedUp", "(II)I"⟩
abbrev cX10_begins : ByteArray := prog_12_method_44_code
def yX10_begins : MethodName := ⟨RX10, "begins", "(II)V"⟩
abbrev cX10_stepBegin : ByteArray := prog_12_method_45_code
def yX10_stepBegin : MethodName := ⟨RX10, "stepBegin", "()V"⟩
abbrev cX10_stepSend : ByteArray := prog_12_method_46_code
def yX10_stepSend : MethodName := ⟨RX10, "stepSend", "()V"⟩
abbrev cX10_hearsOthers : ByteArray := prog_12_method_47_code
def yX10_hearsOthers : MethodName := ⟨RX10, "hearsOthers", "(II)Z"⟩
abbrev cX10_isClear : ByteArray := prog_12_method_48_code
def yX10_isClear : MethodName := ⟨RX10, "isClear", "(II)Z"⟩
abbrev cX10_spans : ByteArray := prog_12_method_49_code
def yX10_spans : MethodName := ⟨RX10, "spans", "(IIII)V"⟩
abbrev cX10_owes : ByteArray := prog_12_method_50_code
def yX10_owes : MethodName := ⟨RX10, "owes", "(III)V"⟩
abbrev cX10_sendsIt : ByteArray := prog_12_method_51_code
def yX10_sendsIt : MethodName := ⟨RX10, "sendsIt", "(III)Z"⟩
abbrev cX10_failsBy : ByteArray := prog_12_method_52_code
def yX10_failsBy : MethodName := ⟨RX10, "failsBy", "(IZ)V"⟩
abbrev cX10_stepData : ByteArray := prog_12_method_53_code
def yX10_stepData : MethodName := ⟨RX10, "stepData", "(I)V"⟩
abbrev cX10_delivers : ByteArray := prog_12_method_54_code
def yX10_delivers : MethodName := ⟨RX10, "delivers", "(I)V"⟩
abbrev cX10_stepSender : ByteArray := prog_12_method_55_code
def yX10_stepSender : MethodName := ⟨RX10, "stepSender", "(I)V"⟩
abbrev cX10_stepEnd : ByteArray := prog_12_method_56_code
def yX10_stepEnd : MethodName := ⟨RX10, "stepEnd", "()V"⟩
abbrev cX10_stepHeld : ByteArray := prog_12_method_57_code
def yX10_stepHeld : MethodName := ⟨RX10, "stepHeld", "()V"⟩
abbrev cX10_slot : ByteArray := prog_12_method_58_code
def yX10_slot : MethodName := ⟨RX10, "slot", "()V"⟩
abbrev cX10_goSlots : ByteArray := prog_12_method_59_code
def yX10_goSlots : MethodName := ⟨RX10, "goSlots", "(I)V"⟩
abbrev cX10_slots : ByteArray := prog_12_method_60_code
def yX10_slots : MethodName := ⟨RX10, "slots", "(I)I"⟩
abbrev cX10_drawAll : ByteArray := prog_12_method_61_code
def yX10_drawAll : MethodName := ⟨RX10, "drawAll", "()I"⟩
abbrev cX10_draws : ByteArray := prog_12_method_62_code
def yX10_draws : MethodName := ⟨RX10, "draws", "()I"⟩
abbrev cX10_waiting : ByteArray := prog_12_method_63_code
def yX10_waiting : MethodName := ⟨RX10, "waiting", "(I)I"⟩
abbrev cX10_allWaiting : ByteArray := prog_12_method_64_code
def yX10_allWaiting : MethodName := ⟨RX10, "allWaiting", "()I"⟩
abbrev cX10_heardBy : ByteArray := prog_12_method_65_code
def yX10_heardBy : MethodName := ⟨RX10, "heardBy", "(I)I"⟩
abbrev cX10_station : ByteArray := prog_12_method_66_code
def yX10_station : MethodName := ⟨RX10, "station", "(II)I"⟩
abbrev cX10_rank : ByteArray := prog_12_method_67_code
def yX10_rank : MethodName := ⟨RX10, "rank", "(III)I"⟩
abbrev cX10_frame : ByteArray := prog_12_method_68_code
def yX10_frame : MethodName := ⟨RX10, "frame", "(IIII)I"⟩
abbrev cX10_exchange : ByteArray := prog_12_method_69_code
def yX10_exchange : MethodName := ⟨RX10, "exchange", "(II)I"⟩
abbrev cX10_placesOf : ByteArray := prog_12_method_70_code
def yX10_placesOf : MethodName := ⟨RX10, "placesOf", "(I)I"⟩
abbrev cX10_sent : ByteArray := prog_12_method_71_code
def yX10_sent : MethodName := ⟨RX10, "sent", "()I"⟩
abbrev cX10_spanOf : ByteArray := prog_12_method_72_code
def yX10_spanOf : MethodName := ⟨RX10, "spanOf", "(I)I"⟩
abbrev cX10_rate : ByteArray := prog_12_method_73_code
def yX10_rate : MethodName := ⟨RX10, "rate", "(II)I"⟩
abbrev cX10_hidden : ByteArray := prog_12_method_74_code
def yX10_hidden : MethodName := ⟨RX10, "hidden", "()I"⟩
abbrev cX10_tally : ByteArray := prog_12_method_75_code
def yX10_tally : MethodName := ⟨RX10, "tally", "(II)I"⟩
abbrev cX10_held : ByteArray := prog_12_method_76_code
def yX10_held : MethodName := ⟨RX10, "held", "(I)I"⟩
abbrev cX10_why : ByteArray := prog_12_method_77_code
def yX10_why : MethodName := ⟨RX10, "why", "(I)I"⟩
abbrev cX10_spoilt : ByteArray := prog_12_method_78_code
def yX10_spoilt : MethodName := ⟨RX10, "spoilt", "(II)I"⟩
abbrev cX10_even : ByteArray := prog_12_method_79_code
def yX10_even : MethodName := ⟨RX10, "even", "()I"⟩
abbrev cX10_busy : ByteArray := prog_12_method_80_code
def yX10_busy : MethodName := ⟨RX10, "busy", "()I"⟩
abbrev cX10_power : ByteArray := prog_12_method_81_code
def yX10_power : MethodName := ⟨RX10, "power", "(II)I"⟩
abbrev cX10_waysAlone : ByteArray := prog_12_method_82_code
def yX10_waysAlone : MethodName := ⟨RX10, "waysAlone", "(II)I"⟩
abbrev cX10_odds : ByteArray := prog_12_method_83_code
def yX10_odds : MethodName := ⟨RX10, "odds", "(II)I"⟩
abbrev cX10_window : ByteArray := prog_12_method_84_code
def yX10_window : MethodName := ⟨RX10, "window", "(II)I"⟩
abbrev cX10_layAside : ByteArray := prog_12_method_85_code
def yX10_layAside : MethodName := ⟨RX10, "layAside", "()V"⟩
abbrev cX10_comesBack : ByteArray := prog_12_method_86_code
def yX10_comesBack : MethodName := ⟨RX10, "comesBack", "()V"⟩
abbrev cX10_ahead : ByteArray := prog_12_method_87_code
def yX10_ahead : MethodName := ⟨RX10, "ahead", "(II)I"⟩
abbrev cX10_isQuiet : ByteArray := prog_12_method_88_code
def yX10_isQuiet : MethodName := ⟨RX10, "isQuiet", "()Z"⟩
abbrev cX10_quiet : ByteArray := prog_12_method_89_code
def yX10_quiet : MethodName := ⟨RX10, "quiet", "()I"⟩
abbrev cX10_next : ByteArray := prog_12_method_90_code
def yX10_next : MethodName := ⟨RX10, "next", "()I"⟩
abbrev cX10_takes : ByteArray := prog_12_method_91_code
def yX10_takes : MethodName := ⟨RX10, "takes", "(II)I"⟩
abbrev cX10_soonest : ByteArray := prog_12_method_92_code
def yX10_soonest : MethodName := ⟨RX10, "soonest", "(I)I"⟩
abbrev cX10_readAct : ByteArray := prog_12_method_93_code
def yX10_readAct : MethodName := ⟨RX10, "readAct", "(I)V"⟩
abbrev cX10_act : ByteArray := prog_12_method_94_code
def yX10_act : MethodName := ⟨RX10, "act", "(I)Z"⟩
abbrev cX10_day : ByteArray := prog_12_method_95_code
def yX10_day : MethodName := ⟨RX10, "day", "()I"⟩
abbrev cX10_change : ByteArray := prog_12_method_96_code
def yX10_change : MethodName := ⟨RX10, "change", "()V"⟩
abbrev cX10_note : ByteArray := prog_12_method_97_code
def yX10_note : MethodName := ⟨RX10, "note", "()V"⟩
abbrev cX10_undo : ByteArray := prog_12_method_98_code
def yX10_undo : MethodName := ⟨RX10, "undo", "()I"⟩
abbrev cX10_drawBeside : ByteArray := prog_12_method_99_code
def yX10_drawBeside : MethodName := ⟨RX10, "drawBeside", "(I)I"⟩
abbrev cX10_years : ByteArray := prog_12_method_100_code
def yX10_years : MethodName := ⟨RX10, "years", "(II)I"⟩
abbrev cX10_keep : ByteArray := prog_12_method_101_code
def yX10_keep : MethodName := ⟨RX10, "keep", "(I)Z"⟩
abbrev cX10_again : ByteArray := prog_12_method_102_code
def yX10_again : MethodName := ⟨RX10, "again", "(I)Z"⟩
abbrev cX10_exchanges : ByteArray := prog_12_method_103_code
def yX10_exchanges : MethodName := ⟨RX10, "exchanges", "()I"⟩
abbrev cX10_count : ByteArray := prog_12_method_104_code
def yX10_count : MethodName := ⟨RX10, "count", "(I)I"⟩
abbrev cX10_row : ByteArray := prog_12_method_105_code
def yX10_row : MethodName := ⟨RX10, "row", "(I)J"⟩
abbrev cJ6_bitCount_0f7a4 : ByteArray := prog_15_method_49_code
def yJ6_bitCount_0f7a4 : MethodName := ⟨RJ6, "bitCount", "(I)I"⟩
abbrev cL_setting : ByteArray := method_3_code
def yL_setting : MethodName := ⟨RL, "setting", "(LSharedAir;I[J)I"⟩
abbrev cL_station : ByteArray := method_4_code
def yL_station : MethodName := ⟨RL, "station", "(LSharedAir;II[J)I"⟩
abbrev cL_rank : ByteArray := method_5_code
def yL_rank : MethodName := ⟨RL, "rank", "(LSharedAir;III[J)I"⟩
abbrev cL_frame : ByteArray := method_6_code
def yL_frame : MethodName := ⟨RL, "frame", "(LSharedAir;IIII[J)I"⟩
abbrev cL_tally : ByteArray := method_7_code
def yL_tally : MethodName := ⟨RL, "tally", "(LSharedAir;II[J)I"⟩
abbrev cL_row : ByteArray := method_8_code
def yL_row : MethodName := ⟨RL, "row", "(LSharedAir;I[J)I"⟩
abbrev cL_law : ByteArray := code
def yL_law : MethodName := ⟨RL, "law", "([I)Z"⟩
abbrev vwCl : List vw_C := [(RX0, TX0, 13), (RX1, TX1, 1), (RX2, TX2, 13), (RX3, TX3, 9), (RX4, TX4, 2), (RX5, TX5, 3), (RX6, TX6, 4), (RX7, TX7, 2), (RX8, TX8, 13), (RX9, TX9, 9), (RX10, TX10, 21)]
def mBig : List Cond := lw_tbl.filter goodWord
theorem mB {w : Cond} (h : w ∈ lw_tbl) (g : goodWord w = true) : w ∈ mBig := List.mem_filter.mpr ⟨h, g⟩
theorem mt1 {w : Cond} (h : w ∈ tables_1_1) : w ∈ lw_tbl := List.mem_append_right _ (by unfold tables_1; exact List.mem_append_left _ h)
theorem mt2 {w : Cond} (h : w ∈ tables_1_2) : w ∈ lw_tbl := List.mem_append_right _ (by unfold tables_1; exact List.mem_append_right _ (List.mem_append_left _ h))
theorem mt3 {w : Cond} (h : w ∈ tables_1_3) : w ∈ lw_tbl := List.mem_append_right _ (by unfold tables_1; exact List.mem_append_right _ (List.mem_append_right _ (List.mem_append_left _ h)))
theorem mt4 {w : Cond} (h : w ∈ tables_1_4) : w ∈ lw_tbl := List.mem_append_right _ (by unfold tables_1; exact List.mem_append_right _ (List.mem_append_right _ (List.mem_append_right _ (List.mem_append_left _ h))))
theorem mt5 {w : Cond} (h : w ∈ tables_1_5) : w ∈ lw_tbl := List.mem_append_right _ (by unfold tables_1; exact List.mem_append_right _ (List.mem_append_right _ (List.mem_append_right _ (List.mem_append_right _ (List.mem_append_left _ h)))))
theorem mt6 {w : Cond} (h : w ∈ tables_1_6) : w ∈ lw_tbl := List.mem_append_right _ (by unfold tables_1; exact List.mem_append_right _ (List.mem_append_right _ (List.mem_append_right _ (List.mem_append_right _ (List.mem_append_right _ (List.mem_append_left _ h))))))
theorem mt7 {w : Cond} (h : w ∈ tables_1_7) : w ∈ lw_tbl := List.mem_append_right _ (by unfold tables_1; exact List.mem_append_right _ (List.mem_append_right _ (List.mem_append_right _ (List.mem_append_right _ (List.mem_append_right _ (List.mem_append_right _ (h)))))))
end
section
/-! A small machine over named objects: the objects of class, reference and law are a fixed tree; only whole numbers in them change. -/
abbrev mO : Type := Nat × Nat × Nat × Nat
abbrev mV : Type := Int32 ⊕ (Int64 ⊕ mO)
abbrev mS : Type := (mO → Nat → Int32) × (mO → Nat → Int64)
abbrev mR : Type := Option (Option mV) × mS
abbrev mQ : Type := Nat × Nat × List (Option mV) × List mV × mS
abbrev mE : Type := Nat × Jvm.ClassFile.Instr × Nat × List Nat × List Nat
abbrev mK : Type := List mE → List (Option mV) → List mV → mS → Option mR
def lget : List (Option mV) → Nat → Option mV
  | [], _ => none
  | v :: _, 0 => v
  | _ :: L, i + 1 => lget L i
def lset : List (Option mV) → Nat → Option mV → List (Option mV)
  | [], _, _ => []
  | _ :: L, 0, w => w :: L
  | v :: L, i + 1, w => v :: lset L i w
def lwipe (L : List (Option mV)) (i : Nat) : List (Option mV) := match lget L i with
  | some (.inr (.inl _)) => lset L i none
  | _ => L
def lput (L : List (Option mV)) (i : Nat) (v : mV) : List (Option mV) := match i with
  | 0 => lset L 0 (some v)
  | k + 1 => lset (lwipe L k) (k + 1) (some v)
def lputL (L : List (Option mV)) (i : Nat) (v : mV) : List (Option mV) := lset (lput L i v) (i + 1) none
def lmask : List Nat → List (Option mV) → List (Option mV)
  | 0 :: M, _ :: L => none :: lmask M L
  | _ :: M, v :: L => v :: lmask M L
  | _, _ => []
def dropTo : List mE → Nat → List mE
  | [], _ => []
  | e :: r, t => bif Nat.beq e.1 t then e :: r else dropTo r t
/-- a whole number of an object changes -/
def st (σ : mS) (o : mO) (i : Nat) (v : Int32) : mS := (fun o' i' => if o' = o ∧ i' = i then v else σ.1 o' i', σ.2)
def stL (σ : mS) (o : mO) (i : Nat) (v : Int64) : mS := (σ.1, fun o' i' => if o' = o ∧ i' = i then v else σ.2 o' i')
/-- a run of numbers of one row comes into another -/
def stC (σ : mS) (o1 : mO) (p1 : Nat) (o2 : mO) (p2 n : Nat) : mS := (fun o' i' => if o' = o2 ∧ p2 ≤ i' ∧ i' < p2 + n then σ.1 o1 (p1 + (i' - p2)) else σ.1 o' i', σ.2)
/-- kinds of rows: 1 int, 2 byte, 3 boolean, 4 long, 5 references, 6 the script, 7 a static row -/
def kRow (k : Nat) : Nat × Nat := match k with
  | 11 => (1, 12) | 12 => (5, 6) | 13 => (5, 4) | 14 => (1, 40) | 15 => (1, 9) | 16 => (1, 6) | 17 => (1, 6) | 18 => (1, 6) | 19 => (1, 6)
  | 20 => (5, 6) | 21 => (5, 2) | 22 => (3, 2) | 23 => (1, 80) | 24 => (4, 16) | 25 => (1, 36)
  | 30 => (1, 1432) | 31 => (2, 80) | 32 => (4, 40) | 33 => (1, 36) | 34 => (1, 6) | 35 => (1, 6) | 36 => (1, 1432) | 37 => (1, 400) | 38 => (1, 8592) | 39 => (1, 1432) | 40 => (1, 2864) | 41 => (3, 2)
  | 45 => (4, 1) | 46 => (6, 0)
  | 50 => (7, 12) | 51 => (7, 12) | 52 => (7, 13)
  | _ => (0, 0)
/-- the object in a field: of classes 0 Air, 3 Had, 4 Numbers, 5 Past, 6 Queue, 7 Signs, 8 Station, 9 SharedAir, 10 the reference -/
def kFld (f : Nat) (o : mO) : Option mO := match o with
  | (0, a, _, _) => (match f with | 0 => some (11, a, 0, 0) | 1 => some (1, a, 0, 0) | 2 => some (12, a, 0, 0) | _ => none)
  | (3, a, s, _) => (match f with | 0 => some (15, a, s, 0) | 1 => some (16, a, s, 0) | _ => none)
  | (4, _, _, _) => (match f with | 0 => some (24, 0, 0, 0) | _ => none)
  | (5, _, _, _) => (match f with | 0 => some (20, 0, 0, 0) | _ => none)
  | (6, a, s, r) => (match f with | 0 => some (14, a, s, r) | _ => none)
  | (7, _, _, _) => (match f with | 0 => some (23, 0, 0, 0) | _ => none)
  | (8, a, s, _) => (match f with | 0 => some (13, a, s, 0) | 1 => some (2, a, s, 0) | 2 => some (3, a, s, 0) | 3 => some (17, a, s, 0) | 4 => some (18, a, s, 0) | 5 => some (19, a, s, 0) | _ => none)
  | (9, _, _, _) => (match f with | 0 => some (0, 0, 0, 0) | 1 => some (0, 1, 0, 0) | 2 => some (1, 10, 0, 0) | 3 => some (5, 0, 0, 0) | 4 => some (21, 0, 0, 0) | 5 => some (22, 0, 0, 0) | 6 => some (7, 0, 0, 0) | 7 => some (4, 0, 0, 0) | 8 => some (25, 0, 0, 0) | _ => none)
  | (10, _, _, _) => (match f with | 0 => some (30, 0, 0, 0) | 1 => some (31, 0, 0, 0) | 3 => some (32, 0, 0, 0) | 9 => some (33, 0, 0, 0) | 10 => some (34, 0, 0, 0) | 11 => some (35, 0, 0, 0) | 13 => some (36, 0, 0, 0) | 14 => some (37, 0, 0, 0) | 15 => some (38, 0, 0, 0) | 16 => some (39, 0, 0, 0) | 19 => some (40, 0, 0, 0) | 20 => some (41, 0, 0, 0) | _ => none)
  | _ => none
def kEl (i : Nat) (o : mO) : Option mO := match o with
  | (12, a, _, _) => some (8, a, i, 0)
  | (13, a, s, _) => some (6, a, s, i)
  | (20, _, _, _) => some (0, 4 + i, 0, 0)
  | (21, _, _, _) => some (0, 2 + i, 0, 0)
  | _ => none
def bdV (r : Option mR) (k : mS → Option mR) : Option mR := match r with
  | some (some none, σ) => k σ
  | _ => none
def bdI (r : Option mR) (k : Int32 → mS → Option mR) : Option mR := match r with
  | some (some (some (.inl x)), σ) => k x σ
  | _ => none
def bdL (r : Option mR) (k : Int64 → mS → Option mR) : Option mR := match r with
  | some (some (some (.inr (.inl x))), σ) => k x σ
  | _ => none
/-- a call that may throw, inside a try -/
def bdX (r : Option mR) (k : Int32 → mS → Option mR) (kx : mS → Option mR) : Option mR := match r with
  | some (some (some (.inl x)), σ) => k x σ
  | some (none, σ) => kx σ
  | _ => none
def bdY (r : Option mR) (k : Int64 → mS → Option mR) (kx : mS → Option mR) : Option mR := match r with
  | some (some (some (.inr (.inl x))), σ) => k x σ
  | some (none, σ) => kx σ
  | _ => none
def largs : Nat → List mV → List (Option mV)
  | 0, _ => []
  | n + 1, [] => none :: largs n []
  | 1, .inr (.inl _) :: _ => [none]
  | n + 2, .inr (.inl x) :: A => some (.inr (.inl x)) :: none :: largs n A
  | n + 1, v :: A => some v :: largs n A
def swords : List mV → Nat
  | [] => 0
  | .inr (.inl _) :: S => swords S + 2
  | _ :: S => swords S + 1
/-- a row of targets -/
def mswitch (x : Int32) (J : Nat → Option mR) (d : Nat) : Nat → List Nat → Option mR
  | _, [] => J d
  | k, t :: ts => if x = nI k then J t else mswitch x J d (k + 1) ts
/-- a jump: ahead, or to a named place -/
def mjump (Rf : mQ → Option mR) (j : Nat) (K : mK) (rest : List mE) (info : List Nat) (L : List (Option mV)) (S : List mV) (σ : mS) : Option mR := match info with
  | t :: 0 :: _ => K (dropTo rest t) L S σ
  | t :: _ :: M => Rf (j, t, lmask M L, S, σ)
  | _ => none
/-- a call: n values, the callee's number and size, what it answers (0 nothing, 1 int, 2 long; 3, 4: the same in a try, and the place behind its catch) -/
def mrc (k : Nat) (acc : List mV) : Bool := bif Nat.beq k 1000 then true else match acc with
  | .inr (.inr o) :: _ => Nat.beq o.1 k
  | _ => false
def mcall (Rf : mQ → Option mR) (K : mK) (rest : List mE) (info : List Nat) (L : List (Option mV)) (σ : mS) (kr : Nat) : Nat → List mV → List mV → Option mR
  | n + 1, acc, v :: S => mcall Rf K rest info L σ kr n (v :: acc) S
  | _ + 1, _, [] => none
  | 0, acc, S => bif Nat.ble (swords S) 8 && Nat.ble (swords acc) (info.getD 1 0) && mrc kr acc then (match info with
    | [jc, ml, 0] => bdV (Rf (jc, 0, largs ml acc, [], σ)) (fun σ' => K rest L S σ')
    | [jc, ml, 1] => bdI (Rf (jc, 0, largs ml acc, [], σ)) (fun x σ' => K rest L (.inl x :: S) σ')
    | [jc, ml, 2] => bdL (Rf (jc, 0, largs ml acc, [], σ)) (fun x σ' => K rest L (.inr (.inl x) :: S) σ')
    | [jc, ml, 3, h] => bdX (Rf (jc, 0, largs ml acc, [], σ)) (fun x σ' => K rest L (.inl x :: S) σ') (fun σ' => K (dropTo rest h) L [] σ')
    | [jc, ml, 4, h] => bdY (Rf (jc, 0, largs ml acc, [], σ)) (fun x σ' => K rest L (.inr (.inl x) :: S) σ') (fun σ' => K (dropTo rest h) L [] σ')
    | _ => none) else none
def mload1 (K : mK) (rest : List mE) (L : List (Option mV)) (S : List mV) (σ : mS) (i : Nat) : Option mR := match lget L i with
  | some (.inl x) => K rest L (.inl x :: S) σ
  | _ => none
def mload2 (K : mK) (rest : List mE) (L : List (Option mV)) (S : List mV) (σ : mS) (i : Nat) : Option mR := match lget L i with
  | some (.inr (.inl x)) => K rest L (.inr (.inl x) :: S) σ
  | _ => none
def mload3 (K : mK) (rest : List mE) (L : List (Option mV)) (S : List mV) (σ : mS) (i : Nat) : Option mR := match lget L i with
  | some (.inr (.inr x)) => K rest L (.inr (.inr x) :: S) σ
  | _ => none
def mstore1 (K : mK) (rest : List mE) (L : List (Option mV)) (S : List mV) (σ : mS) (i : Nat) : Option mR := match S with
  | .inl x :: S => K rest (lput L i (.inl x)) S σ
  | _ => none
def mstore2 (K : mK) (rest : List mE) (L : List (Option mV)) (S : List mV) (σ : mS) (i : Nat) : Option mR := match S with
  | .inr (.inl x) :: S => K rest (lputL L i (.inr (.inl x))) S σ
  | _ => none
def mstore3 (K : mK) (rest : List mE) (L : List (Option mV)) (S : List mV) (σ : mS) (i : Nat) : Option mR := match S with
  | .inr (.inr x) :: S => K rest (lput L i (.inr (.inr x))) S σ
  | _ => none
def mii (K : mK) (rest : List mE) (L : List (Option mV)) (S : List mV) (σ : mS) (g : Int32 → Int32 → Int32) : Option mR := match S with
  | .inl y :: .inl x :: S => K rest L (.inl (g x y) :: S) σ
  | _ => none
def mll (K : mK) (rest : List mE) (L : List (Option mV)) (S : List mV) (σ : mS) (g : Int64 → Int64 → Int64) : Option mR := match S with
  | .inr (.inl y) :: .inr (.inl x) :: S => K rest L (.inr (.inl (g x y)) :: S) σ
  | _ => none
/-- a constant by its number, where it is none below 0 -/
def mcon (info : List Nat) (x : Int32) : mV := match info with
  | n :: _ => .inl (nI n)
  | [] => .inl x
def mconL (info : List Nat) : mV := match info with
  | n :: _ => .inr (.inl (lN n))
  | [] => .inr (.inl 0)
def ml1 (S : List mV) (k : Int32 → Int32 → List mV → Option mR) : Option mR := match S with
  | .inl y :: .inl x :: S => k x y S
  | _ => none
def ml0 (S : List mV) (k : Int32 → List mV → Option mR) : Option mR := match S with
  | .inl x :: S => k x S
  | _ => none
def mstepA (Rf : mQ → Option mR) (j : Nat) (K : mK) (e : mE) (rest : List mE) (L : List (Option mV)) (S : List mV) (σ : mS) : Option mR := match e.2.1 with
  | .iload_n k => mload1 K rest L S σ k.val
  | .iload k => mload1 K rest L S σ k
  | .lload_n k => mload2 K rest L S σ k.val
  | .lload k => mload2 K rest L S σ k
  | .aload_n k => mload3 K rest L S σ k.val
  | .aload k => mload3 K rest L S σ k
  | .istore_n k => mstore1 K rest L S σ k.val
  | .istore k => mstore1 K rest L S σ k
  | .lstore_n k => mstore2 K rest L S σ k.val
  | .lstore k => mstore2 K rest L S σ k
  | .astore_n k => mstore3 K rest L S σ k.val
  | .astore k => mstore3 K rest L S σ k
  | .iconst c => K rest L (mcon e.2.2.2.1 (Int32.ofInt c) :: S) σ
  | .bipush c => K rest L (mcon e.2.2.2.1 ((Int8.ofInt c).toInt32) :: S) σ
  | .sipush c => K rest L (mcon e.2.2.2.1 ((Int16.ofInt c).toInt32) :: S) σ
  | .ldc _ => K rest L (mcon e.2.2.2.1 0 :: S) σ
  | .ldc_w _ => K rest L (mcon e.2.2.2.1 0 :: S) σ
  | .ldc2_w _ => K rest L (mconL e.2.2.2.1 :: S) σ
  | .lconst _ => K rest L (mconL e.2.2.2.1 :: S) σ
  | .iinc k c => (match lget L k with
    | some (.inl x) => K rest (lset L k (some (.inl (x + Int32.ofInt c)))) S σ
    | _ => none)
  | .iadd => mii K rest L S σ (fun x y => x + y)
  | .isub => mii K rest L S σ (fun x y => x - y)
  | .imul => mii K rest L S σ (fun x y => x * y)
  | .iand => mii K rest L S σ (fun x y => x &&& y)
  | .ior => mii K rest L S σ (fun x y => x ||| y)
  | .ishl => mii K rest L S σ (fun x y => x <<< (y &&& 31))
  | .ishr => mii K rest L S σ (fun x y => x >>> (y &&& 31))
  | .iushr => mii K rest L S σ (fun x y => (x.toUInt32 >>> (y.toUInt32 &&& Int32.toUInt32 31)).toInt32)
  | .idiv => ml1 S (fun x y S => if y = 0 then none else K rest L (.inl (x / y) :: S) σ)
  | .irem => ml1 S (fun x y S => if y = 0 then none else K rest L (.inl (x - x / y * y) :: S) σ)
  | .ladd => mll K rest L S σ (fun x y => x + y)
  | .lmul => mll K rest L S σ (fun x y => x * y)
  | .ldiv => (match S with
    | .inr (.inl y) :: .inr (.inl x) :: S => if y = 0 then none else K rest L (.inr (.inl (x / y)) :: S) σ
    | _ => none)
  | .lrem => (match S with
    | .inr (.inl y) :: .inr (.inl x) :: S => if y = 0 then none else K rest L (.inr (.inl (x - x / y * y)) :: S) σ
    | _ => none)
  | .lcmp => (match S with
    | .inr (.inl y) :: .inr (.inl x) :: S => K rest L (.inl (lg_cmp x y) :: S) σ
    | _ => none)
  | .i2l => ml0 S (fun x S => K rest L (.inr (.inl x.toInt64) :: S) σ)
  | .i2b => ml0 S (fun x S => K rest L (.inl x.toInt8.toInt32 :: S) σ)
  | .i2s => ml0 S (fun x S => K rest L (.inl x.toInt16.toInt32 :: S) σ)
  | .dup => (match S with
    | .inl x :: S => K rest L (.inl x :: .inl x :: S) σ
    | .inr (.inr x) :: S => K rest L (.inr (.inr x) :: .inr (.inr x) :: S) σ
    | _ => none)
  | .dup_x1 => (match S with
    | .inl x :: .inr (.inr o) :: S => K rest L (.inl x :: .inr (.inr o) :: .inl x :: S) σ
    | _ => none)
  | .dup2 => (match S with
    | .inl x :: .inr (.inr o) :: S => K rest L (.inl x :: .inr (.inr o) :: .inl x :: .inr (.inr o) :: S) σ
    | _ => none)
  | .pop => (match S with
    | .inl _ :: S => K rest L S σ
    | .inr (.inr _) :: S => K rest L S σ
    | _ => none)
  | .goto _ => mjump Rf j K rest e.2.2.2.1 L S σ
  | .if_icmp .eq _ => ml1 S (fun x y S => if x = y then mjump Rf j K rest e.2.2.2.1 L S σ else K rest L S σ)
  | .if_icmp .ne _ => ml1 S (fun x y S => if x = y then K rest L S σ else mjump Rf j K rest e.2.2.2.1 L S σ)
  | .if_icmp .lt _ => ml1 S (fun x y S => if x < y then mjump Rf j K rest e.2.2.2.1 L S σ else K rest L S σ)
  | .if_icmp .ge _ => ml1 S (fun x y S => if x < y then K rest L S σ else mjump Rf j K rest e.2.2.2.1 L S σ)
  | .if_icmp .gt _ => ml1 S (fun x y S => if y < x then mjump Rf j K rest e.2.2.2.1 L S σ else K rest L S σ)
  | .if_icmp .le _ => ml1 S (fun x y S => if y < x then K rest L S σ else mjump Rf j K rest e.2.2.2.1 L S σ)
  | .ifCond .eq _ => ml0 S (fun x S => if x = 0 then mjump Rf j K rest e.2.2.2.1 L S σ else K rest L S σ)
  | .ifCond .ne _ => ml0 S (fun x S => if x = 0 then K rest L S σ else mjump Rf j K rest e.2.2.2.1 L S σ)
  | .ifCond .lt _ => ml0 S (fun x S => if x < 0 then mjump Rf j K rest e.2.2.2.1 L S σ else K rest L S σ)
  | .ifCond .ge _ => ml0 S (fun x S => if x < 0 then K rest L S σ else mjump Rf j K rest e.2.2.2.1 L S σ)
  | .ifCond .gt _ => ml0 S (fun x S => if 0 < x then mjump Rf j K rest e.2.2.2.1 L S σ else K rest L S σ)
  | .ifCond .le _ => ml0 S (fun x S => if 0 < x then K rest L S σ else mjump Rf j K rest e.2.2.2.1 L S σ)
  | .tableswitch .. => ml0 S (fun x S => match e.2.2.2.1 with
    | d :: ts => mswitch x (fun t => K (dropTo rest t) L S σ) d 0 ts
    | [] => none)
  | _ => none
def mstepB (Rf : mQ → Option mR) (K : mK) (e : mE) (rest : List mE) (L : List (Option mV)) (S : List mV) (σ : mS) : Option mR := match e.2.1 with
  | .getfield _ => (match S, e.2.2.2.1 with
    | .inr (.inr o) :: S, [ci, f] => bif Nat.beq o.1 ci then (match kFld f o with
      | some o' => K rest L (.inr (.inr o') :: S) σ
      | none => K rest L (.inl (σ.1 o f) :: S) σ) else none
    | _, _ => none)
  | .putfield _ => (match S, e.2.2.2.1 with
    | .inl x :: .inr (.inr o) :: S, [ci, f] => bif Nat.beq o.1 ci then K rest L S (st σ o f x) else none
    | .inl x :: .inr (.inr o) :: S, [ci, f, _] => bif Nat.beq o.1 ci then (if x = 0 ∨ x = 1 then K rest L S (st σ o f x) else none) else none
    | _, _ => none)
  | .getstatic _ => (match e.2.2.2.1 with
    | [k] => K rest L (.inr (.inr (k, 0, 0, 0)) :: S) σ
    | _ => none)
  | .iaload => (match S with
    | .inl i :: .inr (.inr o) :: S => (match kRow o.1 with
      | (1, n) => if i < 0 ∨ n ≤ i.toNatClampNeg then none else K rest L (.inl (σ.1 o i.toNatClampNeg) :: S) σ
      | (7, n) => if i < 0 ∨ n ≤ i.toNatClampNeg then none else K rest L (.inl (σ.1 o i.toNatClampNeg) :: S) σ
      | (6, _) => if i < 0 ∨ (σ.1 (46, 0, 0, 1) 0).toNatClampNeg ≤ i.toNatClampNeg then none else K rest L (.inl (σ.1 o i.toNatClampNeg) :: S) σ
      | _ => none)
    | _ => none)
  | .baload => (match S with
    | .inl i :: .inr (.inr o) :: S => (match kRow o.1 with
      | (2, n) => if i < 0 ∨ n ≤ i.toNatClampNeg then none else K rest L (.inl (σ.1 o i.toNatClampNeg) :: S) σ
      | (3, n) => if i < 0 ∨ n ≤ i.toNatClampNeg then none else K rest L (.inl (σ.1 o i.toNatClampNeg) :: S) σ
      | _ => none)
    | _ => none)
  | .laload => (match S with
    | .inl i :: .inr (.inr o) :: S => (match kRow o.1 with
      | (4, n) => if i < 0 ∨ n ≤ i.toNatClampNeg then none else K rest L (.inr (.inl (σ.2 o i.toNatClampNeg)) :: S) σ
      | _ => none)
    | _ => none)
  | .aaload => (match S with
    | .inl i :: .inr (.inr o) :: S => (match kRow o.1 with
      | (5, n) => if i < 0 ∨ n ≤ i.toNatClampNeg then none else (match kEl i.toNatClampNeg o with
        | some o' => K rest L (.inr (.inr o') :: S) σ
        | none => none)
      | _ => none)
    | _ => none)
  | .iastore => (match S with
    | .inl x :: .inl i :: .inr (.inr o) :: S => (match kRow o.1 with
      | (1, n) => if i < 0 ∨ n ≤ i.toNatClampNeg then none else K rest L S (st σ o i.toNatClampNeg x)
      | _ => none)
    | _ => none)
  | .bastore => (match S with
    | .inl x :: .inl i :: .inr (.inr o) :: S => (match kRow o.1 with
      | (2, n) => if i < 0 ∨ n ≤ i.toNatClampNeg then none else K rest L S (st σ o i.toNatClampNeg x.toInt8.toInt32)
      | (3, n) => if i < 0 ∨ n ≤ i.toNatClampNeg then none else (if x = 0 ∨ x = 1 then K rest L S (st σ o i.toNatClampNeg x) else none)
      | _ => none)
    | _ => none)
  | .lastore => (match S with
    | .inr (.inl x) :: .inl i :: .inr (.inr o) :: S => (match kRow o.1 with
      | (4, n) => if i < 0 ∨ n ≤ i.toNatClampNeg then none else K rest L S (stL σ o i.toNatClampNeg x)
      | _ => none)
    | _ => none)
  | .arraylength => (match S with
    | .inr (.inr o) :: S => (match kRow o.1 with
      | (1, n) => K rest L (.inl (nI n) :: S) σ
      | (6, _) => K rest L (.inl (σ.1 (46, 0, 0, 1) 0) :: S) σ
      | _ => none)
    | _ => none)
  | .invokevirtual _ => (match e.2.2.2.1 with
    | n :: k :: info => mcall Rf K rest info L σ k n [] S
    | _ => none)
  | .invokestatic _ => (match e.2.2.2.1 with
    | [1000] => ml1 S (fun x y S => bif Nat.ble (swords S) 8 then K rest L (.inl (if x < y then y else x) :: S) σ else none)
    | [1001] => ml1 S (fun x y S => bif Nat.ble (swords S) 8 then K rest L (.inl (if y < x then y else x) :: S) σ else none)
    | [1002] => (match S with
      | .inl n :: .inl p2 :: .inr (.inr o2) :: .inl p1 :: .inr (.inr o1) :: S => (match kRow o1.1, kRow o2.1 with
        | (1, n1), (1, n2) => bif Nat.ble (swords S) 8 then if n < 0 ∨ p1 < 0 ∨ p2 < 0 ∨ n1 < p1.toNatClampNeg + n.toNatClampNeg ∨ n2 < p2.toNatClampNeg + n.toNatClampNeg then none else K rest L S (stC σ o1 p1.toNatClampNeg o2 p2.toNatClampNeg n.toNatClampNeg) else none
        | _, _ => none)
      | _ => none)
    | n :: info => mcall Rf K rest info L σ 1000 n [] S
    | [] => none)
  | .ireturn => (match S, e.2.2.2.1 with
    | [.inl x], [] => some (some (some (.inl x)), σ)
    | [.inl x], _ => if x = 0 ∨ x = 1 then some (some (some (.inl x)), σ) else none
    | _, _ => none)
  | .lreturn => (match S with
    | [.inr (.inl x)] => some (some (some (.inr (.inl x))), σ)
    | _ => none)
  | .return_ => (match S with
    | [] => some (some none, σ)
    | _ => none)
  | .new _ => (match S with
    | [] => some (none, σ)
    | _ => none)
  | _ => none
/-- 0: of the first table, else of the second -/
def mGrp (i : Jvm.ClassFile.Instr) : Bool := match i with
  | .getfield _ | .putfield _ | .getstatic _ | .iaload | .baload | .laload | .aaload | .iastore | .bastore | .lastore | .arraylength | .invokevirtual _ | .invokestatic _ | .ireturn | .lreturn | .return_ | .new _ => true
  | _ => false
def goF (Rf : mQ → Option mR) (j : Nat) (k : mK) : mK := fun rest L S σ => match rest with
  | [] => none
  | e :: r => match e.2.2.2.2 with
    | [] => k (e :: r) L S σ
    | c :: M => Rf (j, e.1, lmask (c :: M) L, S, σ)
def stepN (Rf : mQ → Option mR) (j : Nat) : Nat → mK
  | 0, _, _, _, _ => none
  | _ + 1, [], _, _, _ => none
  | n + 1, e :: rest, L, S, σ => bif mGrp e.2.1 then mstepB Rf (goF Rf j (stepN Rf j n)) e rest L S σ else mstepA Rf j (goF Rf j (stepN Rf j n)) e rest L S σ
def mblockOf (code : Nat → List mE) (Rf : mQ → Option mR) (q : mQ) : Option mR := stepN Rf q.1 400 (dropTo (code q.1) q.2.1) q.2.2.1 q.2.2.2.1 q.2.2.2.2
end
section
/-! What the small machine comes to: the least answers that its steps give (no counting of steps) -/
section FX
variable {Rf Rg : mQ → Option mR} {K K' : mK}
theorem bdV_mono {a a' : Option mR} {k k' : mS → Option mR} (ha : ∀ r, a = some r → a' = some r) (hk : ∀ s r, k s = some r → k' s = some r) : ∀ r, bdV a k = some r → bdV a' k' = some r := by
  intro r h
  unfold bdV at h
  split at h
  · rw [ha _ rfl]; exact hk _ _ h
  · cases h
theorem bdI_mono {a a' : Option mR} {k k' : Int32 → mS → Option mR} (ha : ∀ r, a = some r → a' = some r) (hk : ∀ x s r, k x s = some r → k' x s = some r) : ∀ r, bdI a k = some r → bdI a' k' = some r := by
  intro r h
  unfold bdI at h
  split at h
  · rw [ha _ rfl]; exact hk _ _ _ h
  · cases h
theorem bdL_mono {a a' : Option mR} {k k' : Int64 → mS → Option mR} (ha : ∀ r, a = some r → a' = some r) (hk : ∀ x s r, k x s = some r → k' x s = some r) : ∀ r, bdL a k = some r → bdL a' k' = some r := by
  intro r h
  unfold bdL at h
  split at h
  · rw [ha _ rfl]; exact hk _ _ _ h
  · cases h
theorem bdX_mono {a a' : Option mR} {k k' : Int32 → mS → Option mR} {kx kx' : mS → Option mR} (ha : ∀ r, a = some r → a' = some r) (hk : ∀ x s r, k x s = some r → k' x s = some r) (hx : ∀ s r, kx s = some r → kx' s = some r) : ∀ r, bdX a k kx = some r → bdX a' k' kx' = some r := by
  intro r h
  unfold bdX at h
  split at h
  · rw [ha _ rfl]; exact hk _ _ _ h
  · rw [ha _ rfl]; exact hx _ _ h
  · cases h
theorem bdY_mono {a a' : Option mR} {k k' : Int64 → mS → Option mR} {kx kx' : mS → Option mR} (ha : ∀ r, a = some r → a' = some r) (hk : ∀ x s r, k x s = some r → k' x s = some r) (hx : ∀ s r, kx s = some r → kx' s = some r) : ∀ r, bdY a k kx = some r → bdY a' k' kx' = some r := by
  intro r h
  unfold bdY at h
  split at h
  · rw [ha _ rfl]; exact hk _ _ _ h
  · rw [ha _ rfl]; exact hx _ _ h
  · cases h
theorem ml1_mono {S : List mV} {k k' : Int32 → Int32 → List mV → Option mR} (hk : ∀ x y S r, k x y S = some r → k' x y S = some r) : ∀ r, ml1 S k = some r → ml1 S k' = some r := by
  intro r h
  unfold ml1 at h ⊢
  split at h
  · exact hk _ _ _ _ h
  · cases h
theorem ml0_mono {S : List mV} {k k' : Int32 → List mV → Option mR} (hk : ∀ x S r, k x S = some r → k' x S = some r) : ∀ r, ml0 S k = some r → ml0 S k' = some r := by
  intro r h
  unfold ml0 at h ⊢
  split at h
  · exact hk _ _ _ h
  · cases h
theorem mswitch_mono {J J' : Nat → Option mR} {d : Nat} (hJ : ∀ t r, J t = some r → J' t = some r) : ∀ (ts : List Nat) (k : Nat) (x : Int32) r, mswitch x J d k ts = some r → mswitch x J' d k ts = some r
  | [], k, x, r, h => hJ _ _ h
  | t :: ts, k, x, r, h => by
    unfold mswitch at h ⊢
    by_cases q : x = nI k
    · rw [if_pos q] at h ⊢; exact hJ _ _ h
    · rw [if_neg q] at h ⊢; exact mswitch_mono hJ ts (k + 1) x r h
variable (hR : ∀ q r, Rf q = some r → Rg q = some r) (hK : ∀ a b c d r, K a b c d = some r → K' a b c d = some r)
theorem mjump_mono (hR : ∀ q r, Rf q = some r → Rg q = some r) (hK : ∀ a b c d r, K a b c d = some r → K' a b c d = some r) {j : Nat} {rest : List mE} {info : List Nat} {L : List (Option mV)} {S : List mV} {σ : mS} : ∀ r, mjump Rf j K rest info L S σ = some r → mjump Rg j K' rest info L S σ = some r := by
  intro r h
  unfold mjump at h ⊢
  split at h
  · exact hK _ _ _ _ _ h
  · exact hR _ _ h
  · cases h
theorem mcall_mono (hR : ∀ q r, Rf q = some r → Rg q = some r) (hK : ∀ a b c d r, K a b c d = some r → K' a b c d = some r) {rest : List mE} {info : List Nat} {L : List (Option mV)} {σ : mS} {kr : Nat} : ∀ (n : Nat) (acc S : List mV) r, mcall Rf K rest info L σ kr n acc S = some r → mcall Rg K' rest info L σ kr n acc S = some r
  | n + 1, acc, v :: S, r, h => by unfold mcall at h ⊢; exact mcall_mono hR hK n (v :: acc) S r h
  | n + 1, acc, [], r, h => by unfold mcall at h; cases h
  | 0, acc, S, r, h => by
    unfold mcall at h ⊢
    cases hb : (Nat.ble (swords S) 8 && Nat.ble (swords acc) (info.getD 1 0) && mrc kr acc)
    · rw [hb] at h; cases h
    · rw [hb] at h
      simp only [cond_true] at h ⊢
      split at h
      · exact bdV_mono (hR _) (fun _ _ q => hK _ _ _ _ _ q) _ h
      · exact bdI_mono (hR _) (fun _ _ _ q => hK _ _ _ _ _ q) _ h
      · exact bdL_mono (hR _) (fun _ _ _ q => hK _ _ _ _ _ q) _ h
      · exact bdX_mono (hR _) (fun _ _ _ q => hK _ _ _ _ _ q) (fun _ _ q => hK _ _ _ _ _ q) _ h
      · exact bdY_mono (hR _) (fun _ _ _ q => hK _ _ _ _ _ q) (fun _ _ q => hK _ _ _ _ _ q) _ h
      · cases h
theorem mld1_mono (hK : ∀ a b c d r, K a b c d = some r → K' a b c d = some r) {rest : List mE} {L : List (Option mV)} {S : List mV} {σ : mS} {i : Nat} : ∀ r, mload1 K rest L S σ i = some r → mload1 K' rest L S σ i = some r := by
  intro r h; unfold mload1 at h ⊢; split at h
  · exact hK _ _ _ _ _ h
  · cases h
theorem mld2_mono (hK : ∀ a b c d r, K a b c d = some r → K' a b c d = some r) {rest : List mE} {L : List (Option mV)} {S : List mV} {σ : mS} {i : Nat} : ∀ r, mload2 K rest L S σ i = some r → mload2 K' rest L S σ i = some r := by
  intro r h; unfold mload2 at h ⊢; split at h
  · exact hK _ _ _ _ _ h
  · cases h
theorem mld3_mono (hK : ∀ a b c d r, K a b c d = some r → K' a b c d = some r) {rest : List mE} {L : List (Option mV)} {S : List mV} {σ : mS} {i : Nat} : ∀ r, mload3 K rest L S σ i = some r → mload3 K' rest L S σ i = some r := by
  intro r h; unfold mload3 at h ⊢; split at h
  · exact hK _ _ _ _ _ h
  · cases h
theorem mst1_mono (hK : ∀ a b c d r, K a b c d = some r → K' a b c d = some r) {rest : List mE} {L : List (Option mV)} {S : List mV} {σ : mS} {i : Nat} : ∀ r, mstore1 K rest L S σ i = some r → mstore1 K' rest L S σ i = some r := by
  intro r h; unfold mstore1 at h ⊢; split at h
  · exact hK _ _ _ _ _ h
  · cases h
theorem mst2_mono (hK : ∀ a b c d r, K a b c d = some r → K' a b c d = some r) {rest : List mE} {L : List (Option mV)} {S : List mV} {σ : mS} {i : Nat} : ∀ r, mstore2 K rest L S σ i = some r → mstore2 K' rest L S σ i = some r := by
  intro r h; unfold mstore2 at h ⊢; split at h
  · exact hK _ _ _ _ _ h
  · cases h
theorem mst3_mono (hK : ∀ a b c d r, K a b c d = some r → K' a b c d = some r) {rest : List mE} {L : List (Option mV)} {S : List mV} {σ : mS} {i : Nat} : ∀ r, mstore3 K rest L S σ i = some r → mstore3 K' rest L S σ i = some r := by
  intro r h; unfold mstore3 at h ⊢; split at h
  · exact hK _ _ _ _ _ h
  · cases h
theorem mii_mono (hK : ∀ a b c d r, K a b c d = some r → K' a b c d = some r) {rest : List mE} {L : List (Option mV)} {S : List mV} {σ : mS} {g : Int32 → Int32 → Int32} : ∀ r, mii K rest L S σ g = some r → mii K' rest L S σ g = some r := by
  intro r h; unfold mii at h ⊢; split at h
  · exact hK _ _ _ _ _ h
  · cases h
theorem mll_mono (hK : ∀ a b c d r, K a b c d = some r → K' a b c d = some r) {rest : List mE} {L : List (Option mV)} {S : List mV} {σ : mS} {g : Int64 → Int64 → Int64} : ∀ r, mll K rest L S σ g = some r → mll K' rest L S σ g = some r := by
  intro r h; unfold mll at h ⊢; split at h
  · exact hK _ _ _ _ _ h
  · cases h
theorem ite_mono {c : Prop} {i1 : Decidable c} {a b a' b' : Option mR} (h1 : ∀ r, a = some r → a' = some r) (h2 : ∀ r, b = some r → b' = some r) : ∀ r, ite c a b = some r → ite c a' b' = some r := by
  intro r h
  by_cases q : c
  · rw [if_pos q] at h ⊢; exact h1 r h
  · rw [if_neg q] at h ⊢; exact h2 r h
theorem none_mono {a' : Option mR} : ∀ r : mR, (none : Option mR) = some r → a' = some r := fun _ h => by cases h
theorem cnd_mono {b : Bool} {a a' : Option mR} (h1 : ∀ r, a = some r → a' = some r) : ∀ r, (bif b then a else none) = some r → (bif b then a' else none) = some r := by
  intro r h
  cases b
  · cases h
  · exact h1 r h
set_option maxHeartbeats 4000000 in
theorem mstepA_mono (hR : ∀ q r, Rf q = some r → Rg q = some r) (hK : ∀ a b c d r, K a b c d = some r → K' a b c d = some r) {j : Nat} {e : mE} {rest : List mE} {L : List (Option mV)} {S : List mV} {σ : mS} : ∀ r, mstepA Rf j K e rest L S σ = some r → mstepA Rg j K' e rest L S σ = some r := by
  obtain ⟨pc, i, len, info, cut⟩ := e
  intro r
  cases i
  case if_icmp cnd off => cases cnd <;> exact ml1_mono (fun x y S => ite_mono (by first | exact mjump_mono hR hK | exact hK _ _ _ _) (by first | exact mjump_mono hR hK | exact hK _ _ _ _)) r
  case ifCond cnd off => cases cnd <;> exact ml0_mono (fun x S => ite_mono (by first | exact mjump_mono hR hK | exact hK _ _ _ _) (by first | exact mjump_mono hR hK | exact hK _ _ _ _)) r
  case tableswitch =>
    refine ml0_mono (fun x S r h => ?_) r
    dsimp only at h ⊢
    split at h
    · exact mswitch_mono (fun t r q => hK _ _ _ _ _ q) _ _ _ _ h
    · cases h
  case goto => exact mjump_mono hR hK r
  case idiv => exact ml1_mono (fun x y S => ite_mono none_mono (hK _ _ _ _)) r
  case irem => exact ml1_mono (fun x y S => ite_mono none_mono (hK _ _ _ _)) r
  case i2l => exact ml0_mono (fun x S => hK _ _ _ _) r
  case i2b => exact ml0_mono (fun x S => hK _ _ _ _) r
  case i2s => exact ml0_mono (fun x S => hK _ _ _ _) r
  all_goals first
    | exact none_mono r
    | exact hK _ _ _ _ r
    | exact mld1_mono hK r
    | exact mld2_mono hK r
    | exact mld3_mono hK r
    | exact mst1_mono hK r
    | exact mst2_mono hK r
    | exact mst3_mono hK r
    | exact mii_mono hK r
    | exact mll_mono hK r
    | (intro h; simp only [mstepA] at h ⊢; split at h <;> first | (cases h; done) | exact hK _ _ _ _ _ h | exact ite_mono none_mono (hK _ _ _ _) _ h)
set_option maxHeartbeats 4000000 in
theorem mstepB_mono (hR : ∀ q r, Rf q = some r → Rg q = some r) (hK : ∀ a b c d r, K a b c d = some r → K' a b c d = some r) {e : mE} {rest : List mE} {L : List (Option mV)} {S : List mV} {σ : mS} : ∀ r, mstepB Rf K e rest L S σ = some r → mstepB Rg K' e rest L S σ = some r := by
  obtain ⟨pc, i, len, info, cut⟩ := e
  intro r
  cases i
  case invokevirtual => 
    intro h
    simp only [mstepB] at h ⊢
    split at h
    · exact mcall_mono hR hK _ _ _ _ h
    · cases h
  case invokestatic =>
    intro h
    simp only [mstepB] at h ⊢
    split at h
    · exact ml1_mono (fun x y S => cnd_mono (hK _ _ _ _)) _ h
    · exact ml1_mono (fun x y S => cnd_mono (hK _ _ _ _)) _ h
    · split at h
      · split at h
        · exact cnd_mono (ite_mono none_mono (hK _ _ _ _)) _ h
        · cases h
      · cases h
    · exact mcall_mono hR hK _ _ _ _ h
    · cases h
  case getfield =>
    intro h
    simp only [mstepB] at h ⊢
    split at h
    · refine cnd_mono (fun r h => ?_) _ h
      split at h <;> exact hK _ _ _ _ _ h
    · cases h
  case putfield =>
    intro h
    simp only [mstepB] at h ⊢
    split at h
    · exact cnd_mono (hK _ _ _ _) _ h
    · exact cnd_mono (ite_mono (hK _ _ _ _) none_mono) _ h
    · cases h
  case bastore =>
    intro h
    simp only [mstepB] at h ⊢
    split at h
    · split at h
      · exact ite_mono none_mono (hK _ _ _ _) _ h
      · exact ite_mono none_mono (ite_mono (hK _ _ _ _) none_mono) _ h
      · cases h
    · cases h
  all_goals first
    | exact none_mono r
    | exact hK _ _ _ _ r
    | exact id
    | (intro h; simp only [mstepB] at h ⊢
       split at h <;> first
         | (cases h; done)
         | exact hK _ _ _ _ _ h
         | exact ite_mono none_mono (hK _ _ _ _) _ h
         | (split at h <;> first
             | (cases h; done)
             | exact hK _ _ _ _ _ h
             | exact ite_mono none_mono (hK _ _ _ _) _ h
             | (refine ite_mono none_mono (fun r h => ?_) _ h
                split at h <;> first | exact hK _ _ _ _ _ h | (cases h; done))))
theorem goF_mono (hR : ∀ q r, Rf q = some r → Rg q = some r) (hK : ∀ a b c d r, K a b c d = some r → K' a b c d = some r) {j : Nat} : ∀ a b c d r, goF Rf j K a b c d = some r → goF Rg j K' a b c d = some r := by
  intro a b c d r h
  unfold goF at h ⊢
  split at h
  · cases h
  · split at h
    · exact hK _ _ _ _ _ h
    · exact hR _ _ h
theorem stepN_mono (hR : ∀ q r, Rf q = some r → Rg q = some r) {j : Nat} : ∀ (n : Nat) a b c d r, stepN Rf j n a b c d = some r → stepN Rg j n a b c d = some r
  | 0, _, _, _, _, r, h => by unfold stepN at h; cases h
  | n + 1, [], _, _, _, r, h => by unfold stepN at h; cases h
  | n + 1, e :: rest, L, S, σ, r, h => by
    unfold stepN at h ⊢
    cases hb : mGrp e.2.1
    · rw [hb] at h
      simp only [cond_false] at h ⊢
      exact mstepA_mono hR (goF_mono hR (stepN_mono hR n)) _ h
    · rw [hb] at h
      simp only [cond_true] at h ⊢
      exact mstepB_mono hR (goF_mono hR (stepN_mono hR n)) _ h
theorem mblock_mono (code : Nat → List mE) (hR : ∀ q r, Rf q = some r → Rg q = some r) {q : mQ} : ∀ r, mblockOf code Rf q = some r → mblockOf code Rg q = some r := fun r h => stepN_mono hR _ _ _ _ _ r h
end FX
/-- the least relation that the steps close -/
def EvR (code : Nat → List mE) (q : mQ) (r : mR) : Prop := ∀ P : mQ → mR → Prop, (∀ (Rf : mQ → Option mR) (q : mQ) (r : mR), (∀ q' r', Rf q' = some r' → P q' r') → mblockOf code Rf q = some r → P q r) → P q r
theorem EvR.mk {code : Nat → List mE} {Rf : mQ → Option mR} {q : mQ} {r : mR} (hR : ∀ q' r', Rf q' = some r' → EvR code q' r') (h : mblockOf code Rf q = some r) : EvR code q r :=
  fun P hP => hP Rf q r (fun q' r' h' => hR q' r' h' P hP) h
theorem EvR.inv {code : Nat → List mE} {q : mQ} {r : mR} (h : EvR code q r) : ∃ Rf : mQ → Option mR, (∀ q' r', Rf q' = some r' → EvR code q' r') ∧ mblockOf code Rf q = some r := by
  refine h (fun q r => ∃ Rf : mQ → Option mR, (∀ q' r', Rf q' = some r' → EvR code q' r') ∧ mblockOf code Rf q = some r) ?_
  intro Rf q r hR hb
  refine ⟨Rf, fun q' r' h' => ?_, hb⟩
  obtain ⟨Rg, h1, h2⟩ := hR q' r' h'
  exact EvR.mk h1 h2
theorem EvR.uniq {code : Nat → List mE} {q : mQ} {r : mR} (h : EvR code q r) : ∀ r2, EvR code q r2 → r2 = r := by
  refine (h (fun q r => EvR code q r ∧ ∀ r2, EvR code q r2 → r2 = r) ?_).2
  intro Rf q r hR hb
  refine ⟨EvR.mk (fun q' r' h' => (hR q' r' h').1) hb, fun r2 h2 => ?_⟩
  obtain ⟨Rg, hg, hg2⟩ := h2.inv
  have hF : ∀ q' r', Rf q' = some r' → (fun q => match Rf q with | some r => some r | none => Rg q) q' = some r' := by
    intro q' r' h'
    simp only [h']
  have hG : ∀ q' r', Rg q' = some r' → (fun q => match Rf q with | some r => some r | none => Rg q) q' = some r' := by
    intro q' r' h'
    cases hq : Rf q' with
    | none => simp only [hq, h']
    | some r'' => simp only [hq]; rw [(hR q' r'' hq).2 r' (hg q' r' h')]
  have e1 := mblock_mono code hF _ hb
  have e2 := mblock_mono code hG _ hg2
  rw [e1] at e2
  exact (Option.some.inj e2).symm
noncomputable def EvOf (code : Nat → List mE) (q : mQ) : Option mR := @dite _ (∃ r, EvR code q r) (Classical.propDecidable _) (fun h => some (Classical.choose h)) (fun _ => none)
theorem EvOf_R {code : Nat → List mE} {q : mQ} {r : mR} : EvOf code q = some r ↔ EvR code q r := by
  unfold EvOf
  by_cases h : ∃ r, EvR code q r
  · rw [dif_pos h]
    constructor
    · intro e
      rw [← Option.some.inj e]
      exact Classical.choose_spec h
    · intro e
      rw [EvR.uniq e _ (Classical.choose_spec h)]
  · rw [dif_neg h]
    constructor
    · intro e; cases e
    · intro e; exact absurd ⟨r, e⟩ h
/-- one step of it -/
theorem EvOf_eq (code : Nat → List mE) (q : mQ) : EvOf code q = mblockOf code (EvOf code) q := by
  have h1 : ∀ r, EvOf code q = some r → mblockOf code (EvOf code) q = some r := by
    intro r h
    obtain ⟨Rf, hR, hb⟩ := (EvOf_R.mp h).inv
    exact mblock_mono code (fun q' r' h' => EvOf_R.mpr (hR q' r' h')) _ hb
  have h2 : ∀ r, mblockOf code (EvOf code) q = some r → EvOf code q = some r := fun r h => EvOf_R.mpr (EvR.mk (fun q' r' h' => EvOf_R.mp h') h)
  cases h : EvOf code q with
  | some r => exact (h1 r h).symm
  | none =>
    cases h' : mblockOf code (EvOf code) q with
    | none => rfl
    | some r => rw [h2 r h'] at h; cases h
end
section
/-! The mini-code of each method (by program out of the decode rows), and its blocks. -/
def k_X0_become : List mE := [(0, .aload_n 1, 1, [], []), (1, .getfield 9, 3, [0, 0], []), (4, .iconst 0, 1, [0], []), (5, .aload_n 0, 1, [], []), (6, .getfield 9, 3, [0, 0], []), (9, .iconst 0, 1, [0], []), (10, .bipush 12, 2, [12], []), (12, .invokestatic 31, 3, [1002], []), (15, .aload_n 0, 1, [], []), (16, .getfield 18, 3, [0, 1], []), (19, .aload_n 1, 1, [], []), (20, .getfield 18, 3, [0, 1], []), (23, .getfield 37, 3, [1, 0], []), (26, .putfield 37, 3, [1, 0], []), (29, .iconst 0, 1, [0], []), (30, .istore_n 2, 1, [], []), (31, .iload_n 2, 1, [], [1, 1, 1]), (32, .aload_n 1, 1, [], []), (33, .getfield 42, 3, [0, 3], []), (36, .if_icmp .ge 24, 3, [60, 0], []), (39, .aload_n 0, 1, [], []), (40, .getfield 24, 3, [0, 2], []), (43, .iload_n 2, 1, [], []), (44, .aaload, 1, [], []), (45, .aload_n 1, 1, [], []), (46, .getfield 24, 3, [0, 2], []), (49, .iload_n 2, 1, [], []), (50, .aaload, 1, [], []), (51, .invokevirtual 45, 3, [2, 8, 59, 3, 0], []), (54, .iinc 2 1, 3, [], []), (57, .goto (-26), 3, [31, 1, 1, 1, 1], []), (60, .aload_n 0, 1, [], []), (61, .aload_n 1, 1, [], []), (62, .getfield 42, 3, [0, 3], []), (65, .putfield 42, 3, [0, 3], []), (68, .aload_n 0, 1, [], []), (69, .aload_n 1, 1, [], []), (70, .getfield 49, 3, [0, 4], []), (73, .putfield 49, 3, [0, 4], []), (76, .aload_n 0, 1, [], []), (77, .aload_n 1, 1, [], []), (78, .getfield 52, 3, [0, 5], []), (81, .putfield 52, 3, [0, 5], []), (84, .aload_n 0, 1, [], []), (85, .aload_n 1, 1, [], []), (86, .getfield 55, 3, [0, 6], []), (89, .putfield 55, 3, [0, 6], []), (92, .aload_n 0, 1, [], []), (93, .aload_n 1, 1, [], []), (94, .getfield 58, 3, [0, 7], []), (97, .putfield 58, 3, [0, 7], []), (100, .aload_n 0, 1, [], []), (101, .aload_n 1, 1, [], []), (102, .getfield 61, 3, [0, 8], []), (105, .putfield 61, 3, [0, 8], []), (108, .aload_n 0, 1, [], []), (109, .aload_n 1, 1, [], []), (110, .getfield 64, 3, [0, 9], []), (113, .putfield 64, 3, [0, 9], []), (116, .aload_n 0, 1, [], []), (117, .aload_n 1, 1, [], []), (118, .getfield 67, 3, [0, 10], []), (121, .putfield 67, 3, [0, 10], []), (124, .aload_n 0, 1, [], []), (125, .aload_n 1, 1, [], []), (126, .getfield 70, 3, [0, 11], []), (129, .putfield 70, 3, [0, 11], []), (132, .aload_n 0, 1, [], []), (133, .aload_n 1, 1, [], []), (134, .getfield 73, 3, [0, 12], []), (137, .putfield 73, 3, [0, 12, 1], []), (140, .return_, 1, [], [])]
def k_X0_startAnew : List mE := [(0, .aload_n 0, 1, [], []), (1, .iload_n 1, 1, [], []), (2, .putfield 42, 3, [0, 3], []), (5, .aload_n 0, 1, [], []), (6, .iconst 0, 1, [0], []), (7, .putfield 49, 3, [0, 4], []), (10, .aload_n 0, 1, [], []), (11, .iconst 0, 1, [0], []), (12, .putfield 52, 3, [0, 5], []), (15, .aload_n 0, 1, [], []), (16, .iconst 0, 1, [0], []), (17, .putfield 55, 3, [0, 6], []), (20, .aload_n 0, 1, [], []), (21, .iconst 0, 1, [0], []), (22, .putfield 58, 3, [0, 7], []), (25, .aload_n 0, 1, [], []), (26, .iconst 0, 1, [0], []), (27, .putfield 61, 3, [0, 8], []), (30, .aload_n 0, 1, [], []), (31, .iconst 0, 1, [0], []), (32, .putfield 64, 3, [0, 9], []), (35, .aload_n 0, 1, [], []), (36, .iconst 0, 1, [0], []), (37, .putfield 67, 3, [0, 10], []), (40, .aload_n 0, 1, [], []), (41, .iconst 0, 1, [0], []), (42, .putfield 70, 3, [0, 11], []), (45, .aload_n 0, 1, [], []), (46, .iconst 0, 1, [0], []), (47, .putfield 73, 3, [0, 12, 1], []), (50, .iconst 0, 1, [0], []), (51, .istore_n 3, 1, [], []), (52, .iload_n 3, 1, [], [1, 0, 1, 1]), (53, .aload_n 0, 1, [], []), (54, .getfield 42, 3, [0, 3], []), (57, .if_icmp .ge 15, 3, [72, 0], []), (60, .aload_n 0, 1, [], []), (61, .iload_n 3, 1, [], []), (62, .aload_n 2, 1, [], []), (63, .invokevirtual 77, 3, [3, 0, 2, 7, 0], []), (66, .iinc 3 1, 3, [], []), (69, .goto (-17), 3, [52, 1, 1, 0, 1, 1], []), (72, .return_, 1, [], [])]
def k_X0_startStation : List mE := [(0, .aload_n 0, 1, [], []), (1, .getfield 24, 3, [0, 2], []), (4, .iload_n 1, 1, [], []), (5, .aaload, 1, [], []), (6, .astore_n 3, 1, [], []), (7, .aload_n 3, 1, [], []), (8, .iconst 0, 1, [0], []), (9, .putfield 81, 3, [8, 6], []), (12, .iconst 0, 1, [0], []), (13, .istore 4, 2, [], []), (15, .iload 4, 2, [], [1, 1, 1, 1, 1, 0, 0]), (17, .bipush 6, 2, [6], []), (19, .if_icmp .ge 82, 3, [101, 0], []), (22, .iload_n 1, 1, [], []), (23, .bipush 6, 2, [6], []), (25, .imul, 1, [], []), (26, .iload 4, 2, [], []), (28, .iadd, 1, [], []), (29, .istore 5, 2, [], []), (31, .iload 5, 2, [], []), (33, .aload_n 2, 1, [], []), (34, .arraylength, 1, [], []), (35, .if_icmp .ge 10, 3, [45, 0], []), (38, .aload_n 2, 1, [], []), (39, .iload 5, 2, [], []), (41, .iaload, 1, [], []), (42, .goto 4, 3, [46, 0], []), (45, .iconst 0, 1, [0], []), (46, .istore 6, 2, [], []), (48, .aload_n 3, 1, [], []), (49, .getfield 84, 3, [8, 3], []), (52, .iload 4, 2, [], []), (54, .iload 6, 2, [], []), (56, .iastore, 1, [], []), (57, .aload_n 3, 1, [], []), (58, .getfield 87, 3, [8, 4], []), (61, .iload 4, 2, [], []), (63, .iconst 1, 1, [1], []), (64, .iastore, 1, [], []), (65, .aload_n 3, 1, [], []), (66, .getfield 90, 3, [8, 5], []), (69, .iload 4, 2, [], []), (71, .iconst 0, 1, [0], []), (72, .iastore, 1, [], []), (73, .aload_n 3, 1, [], []), (74, .dup, 1, [], []), (75, .getfield 81, 3, [8, 6], []), (78, .iload 6, 2, [], []), (80, .ifCond .le 10, 3, [90, 0], []), (83, .iconst 1, 1, [1], []), (84, .iload 4, 2, [], []), (86, .ishl, 1, [], []), (87, .goto 4, 3, [91, 0], []), (90, .iconst 0, 1, [0], []), (91, .ior, 1, [], []), (92, .putfield 81, 3, [8, 6], []), (95, .iinc 4 1, 3, [], []), (98, .goto (-83), 3, [15, 1, 1, 1, 1, 1, 1, 0, 0], []), (101, .iconst 0, 1, [0], []), (102, .istore 4, 2, [], []), (104, .iload 4, 2, [], [1, 0, 0, 1, 1, 0, 0]), (106, .iconst 4, 1, [4], []), (107, .if_icmp .ge 51, 3, [158, 0], []), (110, .aload_n 3, 1, [], []), (111, .getfield 93, 3, [8, 0], []), (114, .iload 4, 2, [], []), (116, .aaload, 1, [], []), (117, .iconst 0, 1, [0], []), (118, .putfield 97, 3, [6, 1], []), (121, .aload_n 3, 1, [], []), (122, .getfield 93, 3, [8, 0], []), (125, .iload 4, 2, [], []), (127, .aaload, 1, [], []), (128, .iconst 0, 1, [0], []), (129, .putfield 102, 3, [6, 3], []), (132, .aload_n 3, 1, [], []), (133, .getfield 93, 3, [8, 0], []), (136, .iload 4, 2, [], []), (138, .aaload, 1, [], []), (139, .aload_n 0, 1, [], []), (140, .getfield 9, 3, [0, 0], []), (143, .bipush 7, 2, [7], []), (145, .iload 4, 2, [], []), (147, .iadd, 1, [], []), (148, .iaload, 1, [], []), (149, .putfield 105, 3, [6, 2], []), (152, .iinc 4 1, 3, [], []), (155, .goto (-51), 3, [104, 1, 1, 0, 0, 1, 1, 0, 0], []), (158, .aload_n 3, 1, [], []), (159, .iconst 0, 1, [0], []), (160, .putfield 108, 3, [8, 7], []), (163, .aload_n 3, 1, [], []), (164, .iconst 0, 1, [0], []), (165, .putfield 111, 3, [8, 8], []), (168, .aload_n 3, 1, [], []), (169, .iconst 0, 1, [0], []), (170, .putfield 114, 3, [8, 9], []), (173, .aload_n 3, 1, [], []), (174, .iconst 0, 1, [0], []), (175, .putfield 117, 3, [8, 10], []), (178, .aload_n 3, 1, [], []), (179, .getfield 120, 3, [8, 1], []), (182, .iconst 0, 1, [0], []), (183, .putfield 124, 3, [2, 0, 1], []), (186, .aload_n 3, 1, [], []), (187, .iconst (-1), 1, [], []), (188, .iconst 0, 1, [0], []), (189, .invokevirtual 129, 3, [3, 8, 62, 3, 0], []), (192, .aload_n 3, 1, [], []), (193, .getfield 133, 3, [8, 2], []), (196, .invokevirtual 137, 3, [1, 3, 38, 2, 0], []), (199, .return_, 1, [], [])]
def k_X0_hear : List mE := [(0, .iload_n 1, 1, [], []), (1, .ifCond .lt 43, 3, [44, 0], []), (4, .iload_n 1, 1, [], []), (5, .aload_n 0, 1, [], []), (6, .getfield 42, 3, [0, 3], []), (9, .if_icmp .ge 35, 3, [44, 0], []), (12, .iload_n 2, 1, [], []), (13, .ifCond .lt 31, 3, [44, 0], []), (16, .iload_n 2, 1, [], []), (17, .aload_n 0, 1, [], []), (18, .getfield 42, 3, [0, 3], []), (21, .if_icmp .ge 23, 3, [44, 0], []), (24, .aload_n 0, 1, [], []), (25, .getfield 24, 3, [0, 2], []), (28, .iload_n 1, 1, [], []), (29, .aaload, 1, [], []), (30, .getfield 81, 3, [8, 6], []), (33, .iload_n 2, 1, [], []), (34, .ishr, 1, [], []), (35, .iconst 1, 1, [1], []), (36, .iand, 1, [], []), (37, .ifCond .eq 7, 3, [44, 0], []), (40, .iconst 1, 1, [1], []), (41, .goto 4, 3, [45, 0], []), (44, .iconst 0, 1, [0], []), (45, .ireturn, 1, [1], [])]
def k_X0_sumOf : List mE := [(0, .iconst 0, 1, [0], []), (1, .istore_n 2, 1, [], []), (2, .iconst 0, 1, [0], []), (3, .istore_n 3, 1, [], []), (4, .iload_n 3, 1, [], [1, 1, 1, 1]), (5, .aload_n 0, 1, [], []), (6, .getfield 42, 3, [0, 3], []), (9, .if_icmp .ge 26, 3, [35, 0], []), (12, .iload_n 2, 1, [], []), (13, .aload_n 0, 1, [], []), (14, .getfield 24, 3, [0, 2], []), (17, .iload_n 3, 1, [], []), (18, .aaload, 1, [], []), (19, .getfield 133, 3, [8, 2], []), (22, .getfield 142, 3, [3, 0], []), (25, .iload_n 1, 1, [], []), (26, .iaload, 1, [], []), (27, .iadd, 1, [], []), (28, .istore_n 2, 1, [], []), (29, .iinc 3 1, 3, [], []), (32, .goto (-28), 3, [4, 1, 1, 1, 1, 1], []), (35, .iload_n 2, 1, [], []), (36, .ireturn, 1, [], [])]
def k_X0_waiting : List mE := [(0, .iconst 0, 1, [0], []), (1, .istore_n 1, 1, [], []), (2, .iconst 0, 1, [0], []), (3, .istore_n 2, 1, [], []), (4, .iload_n 2, 1, [], [1, 1, 1]), (5, .aload_n 0, 1, [], []), (6, .getfield 42, 3, [0, 3], []), (9, .if_icmp .ge 21, 3, [30, 0], []), (12, .iload_n 1, 1, [], []), (13, .aload_n 0, 1, [], []), (14, .getfield 24, 3, [0, 2], []), (17, .iload_n 2, 1, [], []), (18, .aaload, 1, [], []), (19, .invokevirtual 145, 3, [1, 8, 61, 3, 1], []), (22, .iadd, 1, [], []), (23, .istore_n 1, 1, [], []), (24, .iinc 2 1, 3, [], []), (27, .goto (-23), 3, [4, 1, 1, 1, 1], []), (30, .iload_n 1, 1, [], []), (31, .ireturn, 1, [], [])]
def k_X0_exchangesOn : List mE := [(0, .iconst 0, 1, [0], []), (1, .istore_n 1, 1, [], []), (2, .iconst 0, 1, [0], []), (3, .istore_n 2, 1, [], []), (4, .iload_n 2, 1, [], [1, 1, 1]), (5, .aload_n 0, 1, [], []), (6, .getfield 42, 3, [0, 3], []), (9, .if_icmp .ge 32, 3, [41, 0], []), (12, .iload_n 1, 1, [], []), (13, .aload_n 0, 1, [], []), (14, .getfield 24, 3, [0, 2], []), (17, .iload_n 2, 1, [], []), (18, .aaload, 1, [], []), (19, .getfield 120, 3, [8, 1], []), (22, .getfield 124, 3, [2, 0], []), (25, .ifCond .eq 7, 3, [32, 0], []), (28, .iconst 1, 1, [1], []), (29, .goto 4, 3, [33, 0], []), (32, .iconst 0, 1, [0], []), (33, .iadd, 1, [], []), (34, .istore_n 1, 1, [], []), (35, .iinc 2 1, 3, [], []), (38, .goto (-34), 3, [4, 1, 1, 1, 1], []), (41, .iload_n 1, 1, [], []), (42, .ireturn, 1, [], [])]
def k_X0_emptyQueues : List mE := [(0, .iconst 0, 1, [0], []), (1, .istore_n 2, 1, [], []), (2, .iload_n 2, 1, [], [1, 1, 1]), (3, .aload_n 0, 1, [], []), (4, .getfield 42, 3, [0, 3], []), (7, .if_icmp .ge 24, 3, [31, 0], []), (10, .aload_n 0, 1, [], []), (11, .getfield 24, 3, [0, 2], []), (14, .iload_n 2, 1, [], []), (15, .aaload, 1, [], []), (16, .getfield 93, 3, [8, 0], []), (19, .iload_n 1, 1, [], []), (20, .aaload, 1, [], []), (21, .iconst 0, 1, [0], []), (22, .putfield 97, 3, [6, 1], []), (25, .iinc 2 1, 3, [], []), (28, .goto (-26), 3, [2, 1, 1, 1, 1], []), (31, .return_, 1, [], [])]
def k_X0_whyNotOffer : List mE := [(0, .iload_n 1, 1, [], []), (1, .ifCond .lt 28, 3, [29, 0], []), (4, .iload_n 1, 1, [], []), (5, .aload_n 0, 1, [], []), (6, .getfield 42, 3, [0, 3], []), (9, .if_icmp .ge 20, 3, [29, 0], []), (12, .iload_n 3, 1, [], []), (13, .ifCond .lt 16, 3, [29, 0], []), (16, .iload_n 3, 1, [], []), (17, .aload_n 0, 1, [], []), (18, .getfield 42, 3, [0, 3], []), (21, .if_icmp .ge 8, 3, [29, 0], []), (24, .iload_n 1, 1, [], []), (25, .iload_n 3, 1, [], []), (26, .if_icmp .ne 5, 3, [31, 0], []), (29, .iconst (-1), 1, [], []), (30, .ireturn, 1, [], []), (31, .iload_n 2, 1, [], []), (32, .invokestatic 149, 3, [1, 102, 1, 1], []), (35, .ifCond .eq 16, 3, [51, 0], []), (38, .iload 4, 2, [], []), (40, .iconst 1, 1, [1], []), (41, .if_icmp .lt 10, 3, [51, 0], []), (44, .iload 4, 2, [], []), (46, .bipush 9, 2, [9], []), (48, .if_icmp .le 5, 3, [53, 0], []), (51, .iconst (-1), 1, [], []), (52, .ireturn, 1, [], []), (53, .aload_n 0, 1, [], []), (54, .iload_n 1, 1, [], []), (55, .iload_n 3, 1, [], []), (56, .invokevirtual 153, 3, [3, 0, 3, 3, 1], []), (59, .ifCond .ne 6, 3, [65, 0], []), (62, .bipush (-3), 2, [], []), (64, .ireturn, 1, [], []), (65, .aload_n 0, 1, [], []), (66, .getfield 24, 3, [0, 2], []), (69, .iload_n 1, 1, [], []), (70, .aaload, 1, [], []), (71, .getfield 93, 3, [8, 0], []), (74, .iload_n 2, 1, [], []), (75, .aaload, 1, [], []), (76, .getfield 97, 3, [6, 1], []), (79, .bipush 8, 2, [8], []), (81, .if_icmp .lt 8, 3, [89, 0], []), (84, .bipush (-2), 2, [], []), (86, .goto 4, 3, [90, 0], []), (89, .iconst 0, 1, [0], []), (90, .ireturn, 1, [], [])]
def k_X0_takeFrame : List mE := [(0, .aload_n 0, 1, [], []), (1, .getfield 24, 3, [0, 2], []), (4, .iload_n 1, 1, [], []), (5, .aaload, 1, [], []), (6, .getfield 93, 3, [8, 0], []), (9, .iload_n 2, 1, [], []), (10, .aaload, 1, [], []), (11, .astore 5, 2, [], []), (13, .aload 5, 2, [], []), (15, .iload_n 3, 1, [], []), (16, .iload 4, 2, [], []), (18, .aload_n 0, 1, [], []), (19, .getfield 49, 3, [0, 4], []), (22, .invokevirtual 157, 3, [4, 6, 50, 5, 0], []), (25, .aload 5, 2, [], []), (27, .getfield 97, 3, [6, 1], []), (30, .ireturn, 1, [], [])]
def k_X0_markLast : List mE := [(0, .aload_n 0, 1, [], []), (1, .getfield 24, 3, [0, 2], []), (4, .iload_n 1, 1, [], []), (5, .aaload, 1, [], []), (6, .getfield 93, 3, [8, 0], []), (9, .iload_n 2, 1, [], []), (10, .aaload, 1, [], []), (11, .astore_n 3, 1, [], []), (12, .aload_n 3, 1, [], []), (13, .getfield 97, 3, [6, 1], []), (16, .ifCond .le 19, 3, [35, 0], []), (19, .aload_n 3, 1, [], []), (20, .getfield 161, 3, [6, 0], []), (23, .aload_n 3, 1, [], []), (24, .getfield 97, 3, [6, 1], []), (27, .iconst 1, 1, [1], []), (28, .isub, 1, [], []), (29, .iconst 5, 1, [5], []), (30, .imul, 1, [], []), (31, .iconst 4, 1, [4], []), (32, .iadd, 1, [], []), (33, .iconst 1, 1, [1], []), (34, .iastore, 1, [], []), (35, .aload_n 0, 1, [], []), (36, .iconst 0, 1, [0], []), (37, .putfield 73, 3, [0, 12, 1], []), (40, .return_, 1, [], [])]
def k_X0_drawAll : List mE := [(0, .iconst 0, 1, [0], []), (1, .istore_n 1, 1, [], []), (2, .iconst 0, 1, [0], []), (3, .istore_n 2, 1, [], []), (4, .iload_n 2, 1, [], [1, 1, 1, 0, 0]), (5, .aload_n 0, 1, [], []), (6, .getfield 42, 3, [0, 3], []), (9, .if_icmp .ge 65, 3, [74, 0], []), (12, .iconst 0, 1, [0], []), (13, .istore_n 3, 1, [], []), (14, .iload_n 3, 1, [], [1, 1, 1, 1, 0]), (15, .iconst 4, 1, [4], []), (16, .if_icmp .ge 52, 3, [68, 0], []), (19, .aload_n 0, 1, [], []), (20, .getfield 24, 3, [0, 2], []), (23, .iload_n 2, 1, [], []), (24, .aaload, 1, [], []), (25, .getfield 93, 3, [8, 0], []), (28, .iload_n 3, 1, [], []), (29, .aaload, 1, [], []), (30, .astore 4, 2, [], []), (32, .aload 4, 2, [], []), (34, .getfield 97, 3, [6, 1], []), (37, .ifCond .le 25, 3, [62, 0], []), (40, .aload 4, 2, [], []), (42, .aload_n 0, 1, [], []), (43, .getfield 18, 3, [0, 1], []), (46, .aload 4, 2, [], []), (48, .getfield 105, 3, [6, 2], []), (51, .iconst 1, 1, [1], []), (52, .iadd, 1, [], []), (53, .invokevirtual 164, 3, [2, 1, 34, 2, 1], []), (56, .putfield 102, 3, [6, 3], []), (59, .iinc 1 1, 3, [], []), (62, .iinc 3 1, 3, [], []), (65, .goto (-51), 3, [14, 1, 1, 1, 1, 1, 0], []), (68, .iinc 2 1, 3, [], []), (71, .goto (-67), 3, [4, 1, 1, 1, 1, 0, 0], []), (74, .iload_n 1, 1, [], []), (75, .ireturn, 1, [], [])]
def k_X0_isReady : List mE := [(0, .aload_n 0, 1, [], []), (1, .getfield 24, 3, [0, 2], []), (4, .iload_n 1, 1, [], []), (5, .aaload, 1, [], []), (6, .getfield 93, 3, [8, 0], []), (9, .iload_n 2, 1, [], []), (10, .aaload, 1, [], []), (11, .astore_n 3, 1, [], []), (12, .aload_n 3, 1, [], []), (13, .getfield 97, 3, [6, 1], []), (16, .ifCond .le 34, 3, [50, 0], []), (19, .aload_n 3, 1, [], []), (20, .getfield 102, 3, [6, 3], []), (23, .ifCond .ne 27, 3, [50, 0], []), (26, .aload_n 0, 1, [], []), (27, .getfield 9, 3, [0, 0], []), (30, .iconst 3, 1, [3], []), (31, .iload_n 2, 1, [], []), (32, .iadd, 1, [], []), (33, .iaload, 1, [], []), (34, .aload_n 0, 1, [], []), (35, .getfield 24, 3, [0, 2], []), (38, .iload_n 1, 1, [], []), (39, .aaload, 1, [], []), (40, .getfield 108, 3, [8, 7], []), (43, .if_icmp .gt 7, 3, [50, 0], []), (46, .iconst 1, 1, [1], []), (47, .goto 4, 3, [51, 0], []), (50, .iconst 0, 1, [0], []), (51, .ireturn, 1, [1], [])]
def k_X0_passSlot : List mE := [(0, .aload_n 0, 1, [], []), (1, .aload_n 0, 1, [], []), (2, .invokevirtual 168, 3, [1, 0, 14, 3, 1], []), (5, .putfield 58, 3, [0, 7], []), (8, .aload_n 0, 1, [], []), (9, .iconst 0, 1, [0], []), (10, .putfield 61, 3, [0, 8], []), (13, .iconst 0, 1, [0], []), (14, .istore_n 1, 1, [], []), (15, .iload_n 1, 1, [], [1, 1, 0]), (16, .aload_n 0, 1, [], []), (17, .getfield 42, 3, [0, 3], []), (20, .if_icmp .ge 42, 3, [62, 0], []), (23, .aload_n 0, 1, [], []), (24, .getfield 24, 3, [0, 2], []), (27, .iload_n 1, 1, [], []), (28, .aaload, 1, [], []), (29, .invokevirtual 171, 3, [1, 8, 60, 1, 1], []), (32, .ifCond .eq 24, 3, [56, 0], []), (35, .aload_n 0, 1, [], []), (36, .getfield 24, 3, [0, 2], []), (39, .iload_n 1, 1, [], []), (40, .aaload, 1, [], []), (41, .getfield 111, 3, [8, 8], []), (44, .aload_n 0, 1, [], []), (45, .getfield 49, 3, [0, 4], []), (48, .if_icmp .gt 8, 3, [56, 0], []), (51, .aload_n 0, 1, [], []), (52, .iload_n 1, 1, [], []), (53, .invokevirtual 175, 3, [2, 0, 15, 4, 0], []), (56, .iinc 1 1, 3, [], []), (59, .goto (-44), 3, [15, 1, 1, 1, 0], []), (62, .aload_n 0, 1, [], []), (63, .aload_n 0, 1, [], []), (64, .invokevirtual 179, 3, [1, 0, 18, 4, 1], []), (67, .putfield 52, 3, [0, 5], []), (70, .aload_n 0, 1, [], []), (71, .aload_n 0, 1, [], []), (72, .invokevirtual 182, 3, [1, 0, 21, 4, 1], []), (75, .putfield 55, 3, [0, 6], []), (78, .aload_n 0, 1, [], []), (79, .invokevirtual 185, 3, [1, 0, 22, 4, 0], []), (82, .iconst 0, 1, [0], []), (83, .istore_n 1, 1, [], []), (84, .iload_n 1, 1, [], [1, 1, 0]), (85, .aload_n 0, 1, [], []), (86, .getfield 42, 3, [0, 3], []), (89, .if_icmp .ge 122, 3, [211, 0], []), (92, .aload_n 0, 1, [], []), (93, .getfield 24, 3, [0, 2], []), (96, .iload_n 1, 1, [], []), (97, .aaload, 1, [], []), (98, .getfield 120, 3, [8, 1], []), (101, .astore_n 2, 1, [], []), (102, .aload_n 2, 1, [], []), (103, .getfield 124, 3, [2, 0], []), (106, .ifCond .eq 99, 3, [205, 0], []), (109, .aload_n 2, 1, [], []), (110, .getfield 188, 3, [2, 1], []), (113, .ifCond .lt 92, 3, [205, 0], []), (116, .aload_n 2, 1, [], []), (117, .getfield 188, 3, [2, 1], []), (120, .aload_n 0, 1, [], []), (121, .getfield 42, 3, [0, 3], []), (124, .if_icmp .ge 81, 3, [205, 0], []), (127, .aload_n 2, 1, [], []), (128, .getfield 191, 3, [2, 5], []), (131, .tableswitch 64 0 2 #[25, 38, 51], 25, [195, 156, 169, 182], []), (156, .aload_n 0, 1, [], []), (157, .iload_n 1, 1, [], []), (158, .aload_n 2, 1, [], []), (159, .getfield 188, 3, [2, 1], []), (162, .aload_n 2, 1, [], []), (163, .invokevirtual 194, 3, [4, 0, 24, 4, 0], []), (166, .goto 39, 3, [205, 0], []), (169, .aload_n 0, 1, [], []), (170, .iload_n 1, 1, [], []), (171, .aload_n 2, 1, [], []), (172, .getfield 188, 3, [2, 1], []), (175, .aload_n 2, 1, [], []), (176, .invokevirtual 198, 3, [4, 0, 25, 5, 0], []), (179, .goto 26, 3, [205, 0], []), (182, .aload_n 0, 1, [], []), (183, .iload_n 1, 1, [], []), (184, .aload_n 2, 1, [], []), (185, .getfield 188, 3, [2, 1], []), (188, .aload_n 2, 1, [], []), (189, .invokevirtual 201, 3, [4, 0, 26, 5, 0], []), (192, .goto 13, 3, [205, 0], []), (195, .aload_n 0, 1, [], []), (196, .iload_n 1, 1, [], []), (197, .aload_n 2, 1, [], []), (198, .getfield 188, 3, [2, 1], []), (201, .aload_n 2, 1, [], []), (202, .invokevirtual 204, 3, [4, 0, 29, 6, 0], []), (205, .iinc 1 1, 3, [], []), (208, .goto (-124), 3, [84, 1, 1, 1, 0], []), (211, .iconst 0, 1, [0], []), (212, .istore_n 1, 1, [], []), (213, .iload_n 1, 1, [], [1, 1, 0]), (214, .aload_n 0, 1, [], []), (215, .getfield 42, 3, [0, 3], []), (218, .if_icmp .ge 14, 3, [232, 0], []), (221, .aload_n 0, 1, [], []), (222, .iload_n 1, 1, [], []), (223, .invokevirtual 207, 3, [2, 0, 33, 6, 0], []), (226, .iinc 1 1, 3, [], []), (229, .goto (-16), 3, [213, 1, 1, 1, 0], []), (232, .aload_n 0, 1, [], []), (233, .dup, 1, [], []), (234, .getfield 49, 3, [0, 4], []), (237, .iconst 1, 1, [1], []), (238, .iadd, 1, [], []), (239, .putfield 49, 3, [0, 4], []), (242, .return_, 1, [], [])]
def k_X0_runningSpans : List mE := [(0, .iconst 0, 1, [0], []), (1, .istore_n 1, 1, [], []), (2, .iconst 0, 1, [0], []), (3, .istore_n 2, 1, [], []), (4, .iload_n 2, 1, [], [1, 1, 1]), (5, .aload_n 0, 1, [], []), (6, .getfield 42, 3, [0, 3], []), (9, .if_icmp .ge 35, 3, [44, 0], []), (12, .iload_n 1, 1, [], []), (13, .aload_n 0, 1, [], []), (14, .getfield 24, 3, [0, 2], []), (17, .iload_n 2, 1, [], []), (18, .aaload, 1, [], []), (19, .getfield 111, 3, [8, 8], []), (22, .aload_n 0, 1, [], []), (23, .getfield 49, 3, [0, 4], []), (26, .if_icmp .le 9, 3, [35, 0], []), (29, .iconst 1, 1, [1], []), (30, .iload_n 2, 1, [], []), (31, .ishl, 1, [], []), (32, .goto 4, 3, [36, 0], []), (35, .iconst 0, 1, [0], []), (36, .ior, 1, [], []), (37, .istore_n 1, 1, [], []), (38, .iinc 2 1, 3, [], []), (41, .goto (-37), 3, [4, 1, 1, 1, 1], []), (44, .iload_n 1, 1, [], []), (45, .ireturn, 1, [], [])]
def k_X0_beginOf : List mE := [(0, .iconst (-1), 1, [], []), (1, .istore_n 2, 1, [], []), (2, .iconst 0, 1, [0], []), (3, .istore_n 3, 1, [], []), (4, .iload_n 3, 1, [], [1, 1, 1, 1]), (5, .iconst 4, 1, [4], []), (6, .if_icmp .ge 59, 3, [65, 0], []), (9, .aload_n 0, 1, [], []), (10, .iload_n 1, 1, [], []), (11, .iload_n 3, 1, [], []), (12, .invokevirtual 210, 3, [3, 0, 12, 4, 1], []), (15, .ifCond .eq 44, 3, [59, 0], []), (18, .iload_n 2, 1, [], []), (19, .iconst (-1), 1, [], []), (20, .if_icmp .ne 14, 3, [34, 0], []), (23, .iload_n 3, 1, [], []), (24, .istore_n 2, 1, [], []), (25, .aload_n 0, 1, [], []), (26, .iload_n 1, 1, [], []), (27, .iload_n 3, 1, [], []), (28, .invokevirtual 213, 3, [3, 0, 16, 7, 0], []), (31, .goto 28, 3, [59, 0], []), (34, .aload_n 0, 1, [], []), (35, .getfield 24, 3, [0, 2], []), (38, .iload_n 1, 1, [], []), (39, .aaload, 1, [], []), (40, .getfield 133, 3, [8, 2], []), (43, .getfield 142, 3, [3, 0], []), (46, .bipush 6, 2, [6], []), (48, .dup2, 1, [], []), (49, .iaload, 1, [], []), (50, .iconst 1, 1, [1], []), (51, .iadd, 1, [], []), (52, .iastore, 1, [], []), (53, .aload_n 0, 1, [], []), (54, .iload_n 1, 1, [], []), (55, .iload_n 3, 1, [], []), (56, .invokevirtual 216, 3, [3, 0, 32, 4, 0], []), (59, .iinc 3 1, 3, [], []), (62, .goto (-58), 3, [4, 1, 1, 1, 1, 1], []), (65, .return_, 1, [], [])]
def k_X0_beginExchange : List mE := [(0, .aload_n 0, 1, [], []), (1, .getfield 24, 3, [0, 2], []), (4, .iload_n 1, 1, [], []), (5, .aaload, 1, [], []), (6, .astore_n 3, 1, [], []), (7, .aload_n 3, 1, [], []), (8, .getfield 120, 3, [8, 1], []), (11, .astore 4, 2, [], []), (13, .aload_n 3, 1, [], []), (14, .getfield 93, 3, [8, 0], []), (17, .iload_n 2, 1, [], []), (18, .aaload, 1, [], []), (19, .astore 5, 2, [], []), (21, .aload 4, 2, [], []), (23, .iconst 1, 1, [1], []), (24, .putfield 124, 3, [2, 0, 1], []), (27, .aload 4, 2, [], []), (29, .aload 5, 2, [], []), (31, .iconst 0, 1, [0], []), (32, .iconst 0, 1, [0], []), (33, .invokevirtual 219, 3, [3, 6, 49, 3, 1], []), (36, .putfield 188, 3, [2, 1], []), (39, .aload 4, 2, [], []), (41, .iload_n 2, 1, [], []), (42, .putfield 223, 3, [2, 2], []), (45, .aload 4, 2, [], []), (47, .aload 5, 2, [], []), (49, .aload_n 0, 1, [], []), (50, .getfield 9, 3, [0, 0], []), (53, .iconst 1, 1, [1], []), (54, .iaload, 1, [], []), (55, .invokevirtual 226, 3, [2, 6, 53, 4, 1], []), (58, .putfield 229, 3, [2, 3], []), (61, .aload 4, 2, [], []), (63, .iconst 0, 1, [0], []), (64, .putfield 231, 3, [2, 4], []), (67, .iconst 0, 1, [0], []), (68, .istore 6, 2, [], []), (70, .iload 6, 2, [], [1, 1, 0, 1, 1, 0, 1]), (72, .aload 4, 2, [], []), (74, .getfield 229, 3, [2, 3], []), (77, .if_icmp .ge 25, 3, [102, 0], []), (80, .aload 4, 2, [], []), (82, .dup, 1, [], []), (83, .getfield 231, 3, [2, 4], []), (86, .aload_n 3, 1, [], []), (87, .iload 6, 2, [], []), (89, .invokestatic 234, 3, [2, 17, 5, 1], []), (92, .iadd, 1, [], []), (93, .putfield 231, 3, [2, 4], []), (96, .iinc 6 1, 3, [], []), (99, .goto (-29), 3, [70, 1, 1, 1, 0, 1, 1, 0, 1], []), (102, .aload 4, 2, [], []), (104, .getfield 231, 3, [2, 4], []), (107, .aload_n 0, 1, [], []), (108, .getfield 9, 3, [0, 0], []), (111, .iconst 0, 1, [0], []), (112, .iaload, 1, [], []), (113, .if_icmp .lt 7, 3, [120, 0], []), (116, .iconst 1, 1, [1], []), (117, .goto 4, 3, [121, 0], []), (120, .iconst 0, 1, [0], []), (121, .istore 6, 2, [], []), (123, .aload 4, 2, [], []), (125, .iload 6, 2, [], []), (127, .ifCond .eq 7, 3, [134, 0], []), (130, .iconst 0, 1, [0], []), (131, .goto 4, 3, [135, 0], []), (134, .iconst 2, 1, [2], []), (135, .putfield 191, 3, [2, 5], []), (138, .aload 4, 2, [], []), (140, .iload 6, 2, [], []), (142, .ifCond .eq 7, 3, [149, 0], []), (145, .iconst 1, 1, [1], []), (146, .goto 8, 3, [154, 0], []), (149, .aload 4, 2, [], []), (151, .getfield 231, 3, [2, 4], []), (154, .putfield 238, 3, [2, 6], [1, 1, 0, 1, 1, 0, 1]), (157, .aload 4, 2, [], []), (159, .aload_n 0, 1, [], []), (160, .getfield 49, 3, [0, 4], []), (163, .aload 4, 2, [], []), (165, .getfield 231, 3, [2, 4], []), (168, .iadd, 1, [], []), (169, .iload 6, 2, [], []), (171, .ifCond .eq 7, 3, [178, 0], []), (174, .iconst 3, 1, [3], []), (175, .goto 4, 3, [179, 0], []), (178, .iconst 1, 1, [1], []), (179, .iadd, 1, [], []), (180, .putfield 241, 3, [2, 8], []), (183, .aload 4, 2, [], []), (185, .iconst 0, 1, [0], []), (186, .putfield 244, 3, [2, 7], []), (189, .aload 4, 2, [], []), (191, .iconst 0, 1, [0], []), (192, .putfield 247, 3, [2, 9], []), (195, .aload 4, 2, [], []), (197, .iconst 0, 1, [0], []), (198, .putfield 250, 3, [2, 10], []), (201, .aload 4, 2, [], []), (203, .aload_n 3, 1, [], []), (204, .iconst 0, 1, [0], []), (205, .invokestatic 234, 3, [2, 17, 5, 1], []), (208, .putfield 253, 3, [2, 11], []), (211, .aload 4, 2, [], []), (213, .iconst 0, 1, [0], []), (214, .putfield 256, 3, [2, 12, 1], []), (217, .aload_n 3, 1, [], []), (218, .getfield 133, 3, [8, 2], []), (221, .getfield 142, 3, [3, 0], []), (224, .iconst 3, 1, [3], []), (225, .dup2, 1, [], []), (226, .iaload, 1, [], []), (227, .iconst 1, 1, [1], []), (228, .iadd, 1, [], []), (229, .iastore, 1, [], []), (230, .aload_n 0, 1, [], []), (231, .dup, 1, [], []), (232, .getfield 61, 3, [0, 8], []), (235, .iconst 1, 1, [1], []), (236, .iload_n 1, 1, [], []), (237, .ishl, 1, [], []), (238, .ior, 1, [], []), (239, .putfield 61, 3, [0, 8], []), (242, .return_, 1, [], [])]
def k_X0_placesOf : List mE := [(0, .aload_n 0, 1, [], []), (1, .getfield 120, 3, [8, 1], []), (4, .astore_n 2, 1, [], []), (5, .aload_n 2, 1, [], []), (6, .getfield 188, 3, [2, 1], []), (9, .ifCond .lt 27, 3, [36, 0], []), (12, .aload_n 2, 1, [], []), (13, .getfield 188, 3, [2, 1], []), (16, .bipush 6, 2, [6], []), (18, .if_icmp .ge 18, 3, [36, 0], []), (21, .aload_n 2, 1, [], []), (22, .getfield 223, 3, [2, 2], []), (25, .ifCond .lt 11, 3, [36, 0], []), (28, .aload_n 2, 1, [], []), (29, .getfield 223, 3, [2, 2], []), (32, .iconst 4, 1, [4], []), (33, .if_icmp .lt 5, 3, [38, 0], []), (36, .iconst 0, 1, [0], []), (37, .ireturn, 1, [], []), (38, .iconst 1, 1, [1], []), (39, .aload_n 0, 1, [], []), (40, .getfield 87, 3, [8, 4], []), (43, .aload_n 2, 1, [], []), (44, .getfield 188, 3, [2, 1], []), (47, .iaload, 1, [], []), (48, .invokestatic 259, 3, [1000], []), (51, .istore_n 3, 1, [], []), (52, .iconst 0, 1, [0], []), (53, .aload_n 0, 1, [], []), (54, .getfield 93, 3, [8, 0], []), (57, .aload_n 2, 1, [], []), (58, .getfield 223, 3, [2, 2], []), (61, .aaload, 1, [], []), (62, .iload_n 1, 1, [], []), (63, .iconst 1, 1, [1], []), (64, .invokevirtual 219, 3, [3, 6, 49, 3, 1], []), (67, .invokestatic 259, 3, [1000], []), (70, .istore 4, 2, [], []), (72, .iload 4, 2, [], []), (74, .iload_n 3, 1, [], []), (75, .iadd, 1, [], []), (76, .iconst 1, 1, [1], []), (77, .isub, 1, [], []), (78, .iload_n 3, 1, [], []), (79, .idiv, 1, [], []), (80, .ireturn, 1, [], [])]
def k_X0_senders : List mE := [(0, .iconst 0, 1, [0], []), (1, .istore_n 1, 1, [], []), (2, .iconst 0, 1, [0], []), (3, .istore_n 2, 1, [], []), (4, .iload_n 2, 1, [], [1, 1, 1, 0]), (5, .aload_n 0, 1, [], []), (6, .getfield 42, 3, [0, 3], []), (9, .if_icmp .ge 43, 3, [52, 0], []), (12, .aload_n 0, 1, [], []), (13, .getfield 24, 3, [0, 2], []), (16, .iload_n 2, 1, [], []), (17, .aaload, 1, [], []), (18, .astore_n 3, 1, [], []), (19, .iload_n 1, 1, [], []), (20, .aload_n 3, 1, [], []), (21, .getfield 120, 3, [8, 1], []), (24, .invokevirtual 264, 3, [1, 2, 36, 1, 1], []), (27, .ifCond .ne 10, 3, [37, 0], []), (30, .aload_n 3, 1, [], []), (31, .getfield 267, 3, [8, 12], []), (34, .ifCond .eq 9, 3, [43, 0], []), (37, .iconst 1, 1, [1], []), (38, .iload_n 2, 1, [], []), (39, .ishl, 1, [], []), (40, .goto 4, 3, [44, 0], []), (43, .iconst 0, 1, [0], []), (44, .ior, 1, [], []), (45, .istore_n 1, 1, [], []), (46, .iinc 2 1, 3, [], []), (49, .goto (-45), 3, [4, 1, 1, 1, 1, 0], []), (52, .iload_n 1, 1, [], []), (53, .ireturn, 1, [], [])]
def k_X0_sendsNow : List mE := [(0, .aload_n 0, 1, [], []), (1, .getfield 52, 3, [0, 5], []), (4, .iload_n 1, 1, [], []), (5, .ishr, 1, [], []), (6, .iconst 1, 1, [1], []), (7, .iand, 1, [], []), (8, .ifCond .eq 7, 3, [15, 0], []), (11, .iconst 1, 1, [1], []), (12, .goto 4, 3, [16, 0], []), (15, .iconst 0, 1, [0], []), (16, .ireturn, 1, [1], [])]
def k_X0_isClear : List mE := [(0, .aload_n 0, 1, [], []), (1, .iload_n 1, 1, [], []), (2, .invokevirtual 270, 3, [2, 0, 19, 2, 1], []), (5, .ifCond .ne 27, 3, [32, 0], []), (8, .aload_n 0, 1, [], []), (9, .getfield 24, 3, [0, 2], []), (12, .iload_n 1, 1, [], []), (13, .aaload, 1, [], []), (14, .getfield 81, 3, [8, 6], []), (17, .aload_n 0, 1, [], []), (18, .getfield 52, 3, [0, 5], []), (21, .iand, 1, [], []), (22, .iconst 1, 1, [1], []), (23, .iload_n 2, 1, [], []), (24, .ishl, 1, [], []), (25, .if_icmp .ne 7, 3, [32, 0], []), (28, .iconst 1, 1, [1], []), (29, .goto 4, 3, [33, 0], []), (32, .iconst 0, 1, [0], []), (33, .ireturn, 1, [1], [])]
def k_X0_clearOnes : List mE := [(0, .iconst 0, 1, [0], []), (1, .istore_n 1, 1, [], []), (2, .iconst 0, 1, [0], []), (3, .istore_n 2, 1, [], []), (4, .iload_n 2, 1, [], [1, 1, 1, 0]), (5, .aload_n 0, 1, [], []), (6, .getfield 42, 3, [0, 3], []), (9, .if_icmp .ge 58, 3, [67, 0], []), (12, .aload_n 0, 1, [], []), (13, .getfield 24, 3, [0, 2], []), (16, .iload_n 2, 1, [], []), (17, .aaload, 1, [], []), (18, .getfield 81, 3, [8, 6], []), (21, .aload_n 0, 1, [], []), (22, .getfield 52, 3, [0, 5], []), (25, .iand, 1, [], []), (26, .invokestatic 273, 3, [1, 218, 1, 1], []), (29, .iconst 1, 1, [1], []), (30, .if_icmp .ne 7, 3, [37, 0], []), (33, .iconst 1, 1, [1], []), (34, .goto 4, 3, [38, 0], []), (37, .iconst 0, 1, [0], []), (38, .istore_n 3, 1, [], []), (39, .iload_n 1, 1, [], []), (40, .iload_n 3, 1, [], []), (41, .ifCond .eq 17, 3, [58, 0], []), (44, .aload_n 0, 1, [], []), (45, .iload_n 2, 1, [], []), (46, .invokevirtual 270, 3, [2, 0, 19, 2, 1], []), (49, .ifCond .ne 9, 3, [58, 0], []), (52, .iconst 1, 1, [1], []), (53, .iload_n 2, 1, [], []), (54, .ishl, 1, [], []), (55, .goto 4, 3, [59, 0], []), (58, .iconst 0, 1, [0], []), (59, .ior, 1, [], []), (60, .istore_n 1, 1, [], []), (61, .iinc 2 1, 3, [], []), (64, .goto (-60), 3, [4, 1, 1, 1, 1, 0], []), (67, .iload_n 1, 1, [], []), (68, .ireturn, 1, [], [])]
def k_X0_noteSlot : List mE := [(0, .aload_n 0, 1, [], []), (1, .getfield 52, 3, [0, 5], []), (4, .invokestatic 273, 3, [1, 218, 1, 1], []), (7, .istore_n 1, 1, [], []), (8, .aload_n 0, 1, [], []), (9, .dup, 1, [], []), (10, .getfield 67, 3, [0, 10], []), (13, .iload_n 1, 1, [], []), (14, .ifCond .ne 7, 3, [21, 0], []), (17, .iconst 1, 1, [1], []), (18, .goto 4, 3, [22, 0], []), (21, .iconst 0, 1, [0], []), (22, .iadd, 1, [], []), (23, .putfield 67, 3, [0, 10], []), (26, .aload_n 0, 1, [], []), (27, .dup, 1, [], []), (28, .getfield 64, 3, [0, 9], []), (31, .iload_n 1, 1, [], []), (32, .iconst 1, 1, [1], []), (33, .if_icmp .ne 7, 3, [40, 0], []), (36, .iconst 1, 1, [1], []), (37, .goto 4, 3, [41, 0], []), (40, .iconst 0, 1, [0], []), (41, .iadd, 1, [], []), (42, .putfield 64, 3, [0, 9], []), (45, .aload_n 0, 1, [], []), (46, .dup, 1, [], []), (47, .getfield 70, 3, [0, 11], []), (50, .iload_n 1, 1, [], []), (51, .iconst 1, 1, [1], []), (52, .if_icmp .le 7, 3, [59, 0], []), (55, .iconst 1, 1, [1], []), (56, .goto 4, 3, [60, 0], []), (59, .iconst 0, 1, [0], []), (60, .iadd, 1, [], []), (61, .putfield 70, 3, [0, 11], []), (64, .iconst 0, 1, [0], []), (65, .istore_n 2, 1, [], []), (66, .iload_n 2, 1, [], [1, 0, 1, 0]), (67, .aload_n 0, 1, [], []), (68, .getfield 42, 3, [0, 3], []), (71, .if_icmp .ge 123, 3, [194, 0], []), (74, .aload_n 0, 1, [], []), (75, .getfield 24, 3, [0, 2], []), (78, .iload_n 2, 1, [], []), (79, .aaload, 1, [], []), (80, .astore_n 3, 1, [], []), (81, .aload_n 3, 1, [], []), (82, .getfield 133, 3, [8, 2], []), (85, .getfield 142, 3, [3, 0], []), (88, .iconst 5, 1, [5], []), (89, .dup2, 1, [], []), (90, .iaload, 1, [], []), (91, .aload_n 0, 1, [], []), (92, .iload_n 2, 1, [], []), (93, .invokevirtual 270, 3, [2, 0, 19, 2, 1], []), (96, .ifCond .eq 7, 3, [103, 0], []), (99, .iconst 1, 1, [1], []), (100, .goto 4, 3, [104, 0], []), (103, .iconst 0, 1, [0], []), (104, .iadd, 1, [], []), (105, .iastore, 1, [], []), (106, .aload_n 3, 1, [], []), (107, .invokevirtual 171, 3, [1, 8, 60, 1, 1], []), (110, .ifCond .eq 78, 3, [188, 0], []), (113, .aload_n 3, 1, [], []), (114, .invokevirtual 145, 3, [1, 8, 61, 3, 1], []), (117, .ifCond .le 71, 3, [188, 0], []), (120, .aload_n 0, 1, [], []), (121, .getfield 58, 3, [0, 7], []), (124, .iload_n 2, 1, [], []), (125, .ishr, 1, [], []), (126, .iconst 1, 1, [1], []), (127, .iand, 1, [], []), (128, .ifCond .eq 19, 3, [147, 0], []), (131, .aload_n 3, 1, [], []), (132, .getfield 133, 3, [8, 2], []), (135, .dup, 1, [], []), (136, .getfield 278, 3, [3, 6], []), (139, .iconst 1, 1, [1], []), (140, .iadd, 1, [], []), (141, .putfield 278, 3, [3, 6], []), (144, .goto 44, 3, [188, 0], []), (147, .aload_n 3, 1, [], []), (148, .getfield 81, 3, [8, 6], []), (151, .aload_n 0, 1, [], []), (152, .getfield 52, 3, [0, 5], []), (155, .iand, 1, [], []), (156, .ifCond .eq 19, 3, [175, 0], []), (159, .aload_n 3, 1, [], []), (160, .getfield 133, 3, [8, 2], []), (163, .dup, 1, [], []), (164, .getfield 281, 3, [3, 7], []), (167, .iconst 1, 1, [1], []), (168, .iadd, 1, [], []), (169, .putfield 281, 3, [3, 7], []), (172, .goto 16, 3, [188, 0], []), (175, .aload_n 3, 1, [], []), (176, .getfield 133, 3, [8, 2], []), (179, .dup, 1, [], []), (180, .getfield 284, 3, [3, 8], []), (183, .iconst 1, 1, [1], []), (184, .iadd, 1, [], []), (185, .putfield 284, 3, [3, 8], []), (188, .iinc 2 1, 3, [], []), (191, .goto (-125), 3, [66, 1, 1, 0, 1, 0], []), (194, .return_, 1, [], [])]
def k_X0_spread : List mE := [(0, .iconst 0, 1, [0], []), (1, .istore 6, 2, [], []), (3, .iload 6, 2, [], [1, 1, 1, 1, 1, 1, 1]), (5, .aload_n 0, 1, [], []), (6, .getfield 42, 3, [0, 3], []), (9, .if_icmp .ge 40, 3, [49, 0], []), (12, .iload 6, 2, [], []), (14, .iload_n 2, 1, [], []), (15, .if_icmp .eq 28, 3, [43, 0], []), (18, .aload_n 0, 1, [], []), (19, .iload 6, 2, [], []), (21, .iload_n 1, 1, [], []), (22, .invokevirtual 287, 3, [3, 0, 20, 3, 1], []), (25, .ifCond .eq 18, 3, [43, 0], []), (28, .aload_n 0, 1, [], []), (29, .getfield 24, 3, [0, 2], []), (32, .iload 6, 2, [], []), (34, .aaload, 1, [], []), (35, .iload_n 3, 1, [], []), (36, .iload 4, 2, [], []), (38, .iload 5, 2, [], []), (40, .invokevirtual 290, 3, [4, 8, 64, 4, 0], []), (43, .iinc 6 1, 3, [], []), (46, .goto (-43), 3, [3, 1, 1, 1, 1, 1, 1, 1, 1], []), (49, .return_, 1, [], [])]
def k_X0_goAsk : List mE := [(0, .aload_n 0, 1, [], []), (1, .iload_n 2, 1, [], []), (2, .iload_n 1, 1, [], []), (3, .invokevirtual 287, 3, [3, 0, 20, 3, 1], []), (6, .ifCond .ne 11, 3, [17, 0], []), (9, .aload_n 3, 1, [], []), (10, .iconst 1, 1, [1], []), (11, .putfield 247, 3, [2, 9], []), (14, .goto 58, 3, [72, 0], []), (17, .aload_n 0, 1, [], []), (18, .getfield 24, 3, [0, 2], []), (21, .iload_n 2, 1, [], []), (22, .aaload, 1, [], []), (23, .invokevirtual 171, 3, [1, 8, 60, 1, 1], []), (26, .ifCond .ne 11, 3, [37, 0], []), (29, .aload_n 3, 1, [], []), (30, .iconst 2, 1, [2], []), (31, .putfield 247, 3, [2, 9], []), (34, .goto 38, 3, [72, 0], []), (37, .aload_n 0, 1, [], []), (38, .getfield 24, 3, [0, 2], []), (41, .iload_n 2, 1, [], []), (42, .aaload, 1, [], []), (43, .getfield 111, 3, [8, 8], []), (46, .aload_n 0, 1, [], []), (47, .getfield 49, 3, [0, 4], []), (50, .if_icmp .le 11, 3, [61, 0], []), (53, .aload_n 3, 1, [], []), (54, .iconst 3, 1, [3], []), (55, .putfield 247, 3, [2, 9], []), (58, .goto 14, 3, [72, 0], []), (61, .aload_n 0, 1, [], []), (62, .getfield 24, 3, [0, 2], []), (65, .iload_n 2, 1, [], []), (66, .aaload, 1, [], []), (67, .iload_n 1, 1, [], []), (68, .iconst 1, 1, [1], []), (69, .invokevirtual 129, 3, [3, 8, 62, 3, 0], []), (72, .aload_n 0, 1, [], []), (73, .iload_n 1, 1, [], []), (74, .iload_n 2, 1, [], []), (75, .iload_n 1, 1, [], []), (76, .iconst 0, 1, [0], []), (77, .aload_n 3, 1, [], []), (78, .getfield 241, 3, [2, 8], []), (81, .invokevirtual 293, 3, [6, 0, 23, 7, 0], []), (84, .aload_n 3, 1, [], []), (85, .iconst 1, 1, [1], []), (86, .putfield 191, 3, [2, 5], []), (89, .return_, 1, [], [])]
def k_X0_goGrant : List mE := [(0, .aload_n 0, 1, [], []), (1, .getfield 24, 3, [0, 2], []), (4, .iload_n 2, 1, [], []), (5, .aaload, 1, [], []), (6, .iload_n 1, 1, [], []), (7, .iconst 1, 1, [1], []), (8, .invokevirtual 297, 3, [3, 8, 63, 3, 1], []), (11, .istore 4, 2, [], []), (13, .iload 4, 2, [], []), (15, .ifCond .eq 40, 3, [55, 0], []), (18, .aload_n 0, 1, [], []), (19, .iload_n 1, 1, [], []), (20, .iload_n 2, 1, [], []), (21, .invokevirtual 287, 3, [3, 0, 20, 3, 1], []), (24, .ifCond .eq 31, 3, [55, 0], []), (27, .aload_n 3, 1, [], []), (28, .iconst 2, 1, [2], []), (29, .putfield 191, 3, [2, 5], []), (32, .aload_n 3, 1, [], []), (33, .aload_n 3, 1, [], []), (34, .getfield 231, 3, [2, 4], []), (37, .putfield 238, 3, [2, 6], []), (40, .aload_n 0, 1, [], []), (41, .iload_n 2, 1, [], []), (42, .iload_n 1, 1, [], []), (43, .iload_n 1, 1, [], []), (44, .iconst 1, 1, [1], []), (45, .aload_n 3, 1, [], []), (46, .getfield 241, 3, [2, 8], []), (49, .invokevirtual 293, 3, [6, 0, 23, 7, 0], []), (52, .goto 26, 3, [78, 0], []), (55, .aload_n 3, 1, [], []), (56, .iload 4, 2, [], []), (58, .ifCond .eq 7, 3, [65, 0], []), (61, .iconst 4, 1, [4], []), (62, .goto 7, 3, [69, 0], []), (65, .aload_n 3, 1, [], []), (66, .getfield 247, 3, [2, 9], []), (69, .putfield 247, 3, [2, 9], []), (72, .aload_n 0, 1, [], []), (73, .iload_n 1, 1, [], []), (74, .aload_n 3, 1, [], []), (75, .invokevirtual 300, 3, [3, 0, 31, 4, 0], []), (78, .return_, 1, [], [])]
def k_X0_goData : List mE := [(0, .aload_n 0, 1, [], []), (1, .iload_n 2, 1, [], []), (2, .iload_n 1, 1, [], []), (3, .invokevirtual 287, 3, [3, 0, 20, 3, 1], []), (6, .istore 4, 2, [], []), (8, .aload_n 0, 1, [], []), (9, .getfield 24, 3, [0, 2], []), (12, .iload_n 1, 1, [], []), (13, .aaload, 1, [], []), (14, .getfield 133, 3, [8, 2], []), (17, .dup, 1, [], []), (18, .getfield 304, 3, [3, 2], []), (21, .iconst 1, 1, [1], []), (22, .iadd, 1, [], []), (23, .putfield 304, 3, [3, 2], []), (26, .iload 4, 2, [], []), (28, .ifCond .ne 29, 3, [57, 0], []), (31, .aload_n 0, 1, [], []), (32, .getfield 24, 3, [0, 2], []), (35, .iload_n 1, 1, [], []), (36, .aaload, 1, [], []), (37, .getfield 133, 3, [8, 2], []), (40, .aload_n 0, 1, [], []), (41, .getfield 24, 3, [0, 2], []), (44, .iload_n 2, 1, [], []), (45, .aaload, 1, [], []), (46, .getfield 81, 3, [8, 6], []), (49, .aload_n 0, 1, [], []), (50, .getfield 52, 3, [0, 5], []), (53, .iand, 1, [], []), (54, .invokestatic 307, 3, [2, 27, 3, 0], []), (57, .aload_n 0, 1, [], []), (58, .getfield 24, 3, [0, 2], []), (61, .iload_n 1, 1, [], []), (62, .aaload, 1, [], []), (63, .iload 4, 2, [], []), (65, .invokestatic 311, 3, [2, 28, 3, 0], []), (68, .aload_n 3, 1, [], []), (69, .dup, 1, [], []), (70, .getfield 238, 3, [2, 6], []), (73, .iconst 1, 1, [1], []), (74, .isub, 1, [], []), (75, .putfield 238, 3, [2, 6], []), (78, .aload_n 3, 1, [], []), (79, .getfield 238, 3, [2, 6], []), (82, .ifCond .le 4, 3, [86, 0], []), (85, .return_, 1, [], []), (86, .aload_n 0, 1, [], []), (87, .iload_n 1, 1, [], []), (88, .iload_n 2, 1, [], []), (89, .iload_n 1, 1, [], []), (90, .iconst 2, 1, [2], []), (91, .aload_n 0, 1, [], []), (92, .getfield 49, 3, [0, 4], []), (95, .iconst 2, 1, [2], []), (96, .iadd, 1, [], []), (97, .invokevirtual 293, 3, [6, 0, 23, 7, 0], []), (100, .aload_n 3, 1, [], []), (101, .getfield 244, 3, [2, 7], []), (104, .ifCond .ne 11, 3, [115, 0], []), (107, .aload_n 3, 1, [], []), (108, .iconst 5, 1, [5], []), (109, .putfield 247, 3, [2, 9], []), (112, .goto 35, 3, [147, 0], []), (115, .aload_n 0, 1, [], []), (116, .getfield 24, 3, [0, 2], []), (119, .iload_n 2, 1, [], []), (120, .aaload, 1, [], []), (121, .invokevirtual 171, 3, [1, 8, 60, 1, 1], []), (124, .ifCond .ne 12, 3, [136, 0], []), (127, .aload_n 3, 1, [], []), (128, .bipush 6, 2, [6], []), (130, .putfield 247, 3, [2, 9], []), (133, .goto 14, 3, [147, 0], []), (136, .aload_n 0, 1, [], []), (137, .getfield 24, 3, [0, 2], []), (140, .iload_n 2, 1, [], []), (141, .aaload, 1, [], []), (142, .iload_n 1, 1, [], []), (143, .iconst 2, 1, [2], []), (144, .invokevirtual 129, 3, [3, 8, 62, 3, 0], []), (147, .aload_n 3, 1, [], []), (148, .iconst 3, 1, [3], []), (149, .putfield 191, 3, [2, 5], []), (152, .return_, 1, [], [])]
def k_X0_noteSpoilt : List mE := [(0, .iconst 0, 1, [0], []), (1, .istore_n 2, 1, [], []), (2, .iload_n 2, 1, [], [1, 1, 1]), (3, .bipush 6, 2, [6], []), (5, .if_icmp .ge 31, 3, [36, 0], []), (8, .aload_n 0, 1, [], []), (9, .getfield 315, 3, [3, 1], []), (12, .iload_n 2, 1, [], []), (13, .dup2, 1, [], []), (14, .iaload, 1, [], []), (15, .iload_n 1, 1, [], []), (16, .iload_n 2, 1, [], []), (17, .ishr, 1, [], []), (18, .iconst 1, 1, [1], []), (19, .iand, 1, [], []), (20, .ifCond .eq 7, 3, [27, 0], []), (23, .iconst 1, 1, [1], []), (24, .goto 4, 3, [28, 0], []), (27, .iconst 0, 1, [0], []), (28, .iadd, 1, [], []), (29, .iastore, 1, [], []), (30, .iinc 2 1, 3, [], []), (33, .goto (-31), 3, [2, 1, 1, 1, 1], []), (36, .return_, 1, [], [])]
def k_X0_goPlace : List mE := [(0, .aload_n 0, 1, [], []), (1, .getfield 120, 3, [8, 1], []), (4, .astore_n 2, 1, [], []), (5, .iload_n 1, 1, [], []), (6, .ifCond .eq 24, 3, [30, 0], []), (9, .aload_n 0, 1, [], []), (10, .getfield 84, 3, [8, 3], []), (13, .aload_n 2, 1, [], []), (14, .getfield 188, 3, [2, 1], []), (17, .iaload, 1, [], []), (18, .aload_n 0, 1, [], []), (19, .getfield 87, 3, [8, 4], []), (22, .aload_n 2, 1, [], []), (23, .getfield 188, 3, [2, 1], []), (26, .iaload, 1, [], []), (27, .if_icmp .ge 8, 3, [35, 0], []), (30, .aload_n 2, 1, [], []), (31, .iconst 1, 1, [1], []), (32, .putfield 256, 3, [2, 12, 1], []), (35, .aload_n 2, 1, [], []), (36, .dup, 1, [], []), (37, .getfield 253, 3, [2, 11], []), (40, .iconst 1, 1, [1], []), (41, .isub, 1, [], []), (42, .putfield 253, 3, [2, 11], []), (45, .aload_n 2, 1, [], []), (46, .getfield 253, 3, [2, 11], []), (49, .ifCond .gt 56, 3, [105, 0], []), (52, .aload_n 2, 1, [], []), (53, .dup, 1, [], []), (54, .getfield 244, 3, [2, 7], []), (57, .aload_n 2, 1, [], []), (58, .getfield 256, 3, [2, 12], []), (61, .ifCond .eq 7, 3, [68, 0], []), (64, .iconst 0, 1, [0], []), (65, .goto 9, 3, [74, 0], []), (68, .iconst 1, 1, [1], []), (69, .aload_n 2, 1, [], []), (70, .getfield 250, 3, [2, 10], []), (73, .ishl, 1, [], []), (74, .ior, 1, [], []), (75, .putfield 244, 3, [2, 7], []), (78, .aload_n 2, 1, [], []), (79, .dup, 1, [], []), (80, .getfield 250, 3, [2, 10], []), (83, .iconst 1, 1, [1], []), (84, .iadd, 1, [], []), (85, .putfield 250, 3, [2, 10], []), (88, .aload_n 2, 1, [], []), (89, .aload_n 0, 1, [], []), (90, .aload_n 2, 1, [], []), (91, .getfield 250, 3, [2, 10], []), (94, .invokestatic 234, 3, [2, 17, 5, 1], []), (97, .putfield 253, 3, [2, 11], []), (100, .aload_n 2, 1, [], []), (101, .iconst 0, 1, [0], []), (102, .putfield 256, 3, [2, 12, 1], []), (105, .return_, 1, [], [])]
def k_X0_goAnswer : List mE := [(0, .aload_n 0, 1, [], []), (1, .getfield 24, 3, [0, 2], []), (4, .iload_n 2, 1, [], []), (5, .aaload, 1, [], []), (6, .iload_n 1, 1, [], []), (7, .iconst 2, 1, [2], []), (8, .invokevirtual 297, 3, [3, 8, 63, 3, 1], []), (11, .istore 4, 2, [], []), (13, .aload_n 0, 1, [], []), (14, .getfield 24, 3, [0, 2], []), (17, .iload_n 1, 1, [], []), (18, .aaload, 1, [], []), (19, .astore 5, 2, [], []), (21, .iload 4, 2, [], []), (23, .ifCond .eq 76, 3, [99, 0], []), (26, .aload_n 0, 1, [], []), (27, .iload_n 1, 1, [], []), (28, .iload_n 2, 1, [], []), (29, .invokevirtual 287, 3, [3, 0, 20, 3, 1], []), (32, .ifCond .eq 67, 3, [99, 0], []), (35, .aload_n 3, 1, [], []), (36, .iconst 0, 1, [0], []), (37, .putfield 124, 3, [2, 0, 1], []), (40, .aload_n 0, 1, [], []), (41, .iload_n 1, 1, [], []), (42, .aload_n 3, 1, [], []), (43, .invokevirtual 318, 3, [3, 0, 30, 7, 0], []), (46, .aload 5, 2, [], []), (48, .getfield 90, 3, [8, 5], []), (51, .iload_n 2, 1, [], []), (52, .dup2, 1, [], []), (53, .iaload, 1, [], []), (54, .iconst 1, 1, [1], []), (55, .iadd, 1, [], []), (56, .iastore, 1, [], []), (57, .aload 5, 2, [], []), (59, .getfield 90, 3, [8, 5], []), (62, .iload_n 2, 1, [], []), (63, .iaload, 1, [], []), (64, .iconst 3, 1, [3], []), (65, .if_icmp .lt 86, 3, [151, 0], []), (68, .aload 5, 2, [], []), (70, .getfield 87, 3, [8, 4], []), (73, .iload_n 2, 1, [], []), (74, .iconst 3, 1, [3], []), (75, .aload 5, 2, [], []), (77, .getfield 87, 3, [8, 4], []), (80, .iload_n 2, 1, [], []), (81, .iaload, 1, [], []), (82, .iconst 1, 1, [1], []), (83, .iadd, 1, [], []), (84, .invokestatic 321, 3, [1001], []), (87, .iastore, 1, [], []), (88, .aload 5, 2, [], []), (90, .getfield 90, 3, [8, 5], []), (93, .iload_n 2, 1, [], []), (94, .iconst 0, 1, [0], []), (95, .iastore, 1, [], []), (96, .goto 55, 3, [151, 0], []), (99, .aload_n 3, 1, [], []), (100, .iload 4, 2, [], []), (102, .ifCond .eq 8, 3, [110, 0], []), (105, .bipush 7, 2, [7], []), (107, .goto 7, 3, [114, 0], []), (110, .aload_n 3, 1, [], []), (111, .getfield 247, 3, [2, 9], []), (114, .putfield 247, 3, [2, 9], []), (117, .aload_n 0, 1, [], []), (118, .iload_n 1, 1, [], []), (119, .aload_n 3, 1, [], []), (120, .invokevirtual 300, 3, [3, 0, 31, 4, 0], []), (123, .aload 5, 2, [], []), (125, .getfield 87, 3, [8, 4], []), (128, .iload_n 2, 1, [], []), (129, .iconst 1, 1, [1], []), (130, .aload 5, 2, [], []), (132, .getfield 87, 3, [8, 4], []), (135, .iload_n 2, 1, [], []), (136, .iaload, 1, [], []), (137, .iconst 1, 1, [1], []), (138, .isub, 1, [], []), (139, .invokestatic 259, 3, [1000], []), (142, .iastore, 1, [], []), (143, .aload 5, 2, [], []), (145, .getfield 90, 3, [8, 5], []), (148, .iload_n 2, 1, [], []), (149, .iconst 0, 1, [0], []), (150, .iastore, 1, [], []), (151, .return_, 1, [], [])]
def k_X0_deliver : List mE := [(0, .aload_n 0, 1, [], []), (1, .getfield 24, 3, [0, 2], []), (4, .iload_n 1, 1, [], []), (5, .aaload, 1, [], []), (6, .astore_n 3, 1, [], []), (7, .aload_n 3, 1, [], []), (8, .getfield 93, 3, [8, 0], []), (11, .aload_n 2, 1, [], []), (12, .getfield 223, 3, [2, 2], []), (15, .aaload, 1, [], []), (16, .astore 4, 2, [], []), (18, .aload_n 2, 1, [], []), (19, .getfield 229, 3, [2, 3], []), (22, .iconst 1, 1, [1], []), (23, .isub, 1, [], []), (24, .istore 5, 2, [], []), (26, .iload 5, 2, [], [1, 0, 1, 1, 1, 1, 0]), (28, .ifCond .lt 127, 3, [155, 0], []), (31, .aload_n 2, 1, [], []), (32, .getfield 244, 3, [2, 7], []), (35, .iload 5, 2, [], []), (37, .ishr, 1, [], []), (38, .iconst 1, 1, [1], []), (39, .iand, 1, [], []), (40, .ifCond .eq 73, 3, [113, 0], []), (43, .aload_n 0, 1, [], []), (44, .getfield 49, 3, [0, 4], []), (47, .aload 4, 2, [], []), (49, .iload 5, 2, [], []), (51, .iconst 3, 1, [3], []), (52, .invokevirtual 219, 3, [3, 6, 49, 3, 1], []), (55, .isub, 1, [], []), (56, .iconst 1, 1, [1], []), (57, .iadd, 1, [], []), (58, .istore 6, 2, [], []), (60, .aload_n 3, 1, [], []), (61, .getfield 133, 3, [8, 2], []), (64, .aload 4, 2, [], []), (66, .iload 5, 2, [], []), (68, .iconst 1, 1, [1], []), (69, .invokevirtual 219, 3, [3, 6, 49, 3, 1], []), (72, .iload 6, 2, [], []), (74, .invokevirtual 324, 3, [3, 3, 39, 3, 0], []), (77, .aload_n 0, 1, [], []), (78, .dup, 1, [], []), (79, .getfield 73, 3, [0, 12], []), (82, .aload 4, 2, [], []), (84, .iload 5, 2, [], []), (86, .iconst 4, 1, [4], []), (87, .invokevirtual 219, 3, [3, 6, 49, 3, 1], []), (90, .iconst 1, 1, [1], []), (91, .if_icmp .ne 7, 3, [98, 0], []), (94, .iconst 1, 1, [1], []), (95, .goto 4, 3, [99, 0], []), (98, .iconst 0, 1, [0], []), (99, .ior, 1, [], []), (100, .putfield 73, 3, [0, 12, 1], []), (103, .aload 4, 2, [], []), (105, .iload 5, 2, [], []), (107, .invokevirtual 327, 3, [2, 6, 52, 3, 0], []), (110, .goto 39, 3, [149, 0], []), (113, .aload 4, 2, [], []), (115, .iload 5, 2, [], []), (117, .invokevirtual 330, 3, [2, 6, 51, 2, 1], []), (120, .aload_n 0, 1, [], []), (121, .getfield 9, 3, [0, 0], []), (124, .iconst 2, 1, [2], []), (125, .iaload, 1, [], []), (126, .if_icmp .lt 23, 3, [149, 0], []), (129, .aload_n 3, 1, [], []), (130, .getfield 133, 3, [8, 2], []), (133, .getfield 142, 3, [3, 0], []), (136, .iconst 2, 1, [2], []), (137, .dup2, 1, [], []), (138, .iaload, 1, [], []), (139, .iconst 1, 1, [1], []), (140, .iadd, 1, [], []), (141, .iastore, 1, [], []), (142, .aload 4, 2, [], []), (144, .iload 5, 2, [], []), (146, .invokevirtual 327, 3, [2, 6, 52, 3, 0], []), (149, .iinc 5 (-1), 3, [], []), (152, .goto (-126), 3, [26, 1, 1, 0, 1, 1, 1, 1, 0], []), (155, .aload 4, 2, [], []), (157, .aload_n 0, 1, [], []), (158, .getfield 9, 3, [0, 0], []), (161, .bipush 7, 2, [7], []), (163, .aload_n 2, 1, [], []), (164, .getfield 223, 3, [2, 2], []), (167, .iadd, 1, [], []), (168, .iaload, 1, [], []), (169, .putfield 105, 3, [6, 2], []), (172, .aload 4, 2, [], []), (174, .aload_n 0, 1, [], []), (175, .getfield 18, 3, [0, 1], []), (178, .aload 4, 2, [], []), (180, .getfield 105, 3, [6, 2], []), (183, .iconst 1, 1, [1], []), (184, .iadd, 1, [], []), (185, .invokevirtual 164, 3, [2, 1, 34, 2, 1], []), (188, .putfield 102, 3, [6, 3], []), (191, .return_, 1, [], [])]
def k_X0_failExchange : List mE := [(0, .aload_n 2, 1, [], []), (1, .iconst 0, 1, [0], []), (2, .putfield 124, 3, [2, 0, 1], []), (5, .aload_n 0, 1, [], []), (6, .getfield 24, 3, [0, 2], []), (9, .iload_n 1, 1, [], []), (10, .aaload, 1, [], []), (11, .getfield 133, 3, [8, 2], []), (14, .astore_n 3, 1, [], []), (15, .aload_n 3, 1, [], []), (16, .getfield 142, 3, [3, 0], []), (19, .iconst 4, 1, [4], []), (20, .dup2, 1, [], []), (21, .iaload, 1, [], []), (22, .iconst 1, 1, [1], []), (23, .iadd, 1, [], []), (24, .iastore, 1, [], []), (25, .aload_n 3, 1, [], []), (26, .aload_n 2, 1, [], []), (27, .getfield 247, 3, [2, 9], []), (30, .putfield 333, 3, [3, 3], []), (33, .aload_n 3, 1, [], []), (34, .aload_n 0, 1, [], []), (35, .getfield 49, 3, [0, 4], []), (38, .putfield 334, 3, [3, 4], []), (41, .aload_n 3, 1, [], []), (42, .aload_n 2, 1, [], []), (43, .getfield 188, 3, [2, 1], []), (46, .putfield 337, 3, [3, 5], []), (49, .aload_n 0, 1, [], []), (50, .iload_n 1, 1, [], []), (51, .aload_n 2, 1, [], []), (52, .getfield 223, 3, [2, 2], []), (55, .invokevirtual 216, 3, [3, 0, 32, 4, 0], []), (58, .return_, 1, [], [])]
def k_X0_failFirst : List mE := [(0, .aload_n 0, 1, [], []), (1, .getfield 24, 3, [0, 2], []), (4, .iload_n 1, 1, [], []), (5, .aaload, 1, [], []), (6, .getfield 93, 3, [8, 0], []), (9, .iload_n 2, 1, [], []), (10, .aaload, 1, [], []), (11, .astore_n 3, 1, [], []), (12, .aload_n 3, 1, [], []), (13, .iconst 0, 1, [0], []), (14, .invokevirtual 330, 3, [2, 6, 51, 2, 1], []), (17, .aload_n 0, 1, [], []), (18, .getfield 9, 3, [0, 0], []), (21, .iconst 2, 1, [2], []), (22, .iaload, 1, [], []), (23, .if_icmp .lt 42, 3, [65, 0], []), (26, .aload_n 0, 1, [], []), (27, .getfield 24, 3, [0, 2], []), (30, .iload_n 1, 1, [], []), (31, .aaload, 1, [], []), (32, .getfield 133, 3, [8, 2], []), (35, .getfield 142, 3, [3, 0], []), (38, .iconst 2, 1, [2], []), (39, .dup2, 1, [], []), (40, .iaload, 1, [], []), (41, .iconst 1, 1, [1], []), (42, .iadd, 1, [], []), (43, .iastore, 1, [], []), (44, .aload_n 3, 1, [], []), (45, .iconst 0, 1, [0], []), (46, .invokevirtual 327, 3, [2, 6, 52, 3, 0], []), (49, .aload_n 3, 1, [], []), (50, .aload_n 0, 1, [], []), (51, .getfield 9, 3, [0, 0], []), (54, .bipush 7, 2, [7], []), (56, .iload_n 2, 1, [], []), (57, .iadd, 1, [], []), (58, .iaload, 1, [], []), (59, .putfield 105, 3, [6, 2], []), (62, .goto 25, 3, [87, 0], []), (65, .aload_n 3, 1, [], []), (66, .aload_n 0, 1, [], []), (67, .getfield 9, 3, [0, 0], []), (70, .bipush 11, 2, [11], []), (72, .iaload, 1, [], []), (73, .iconst 2, 1, [2], []), (74, .aload_n 3, 1, [], []), (75, .getfield 105, 3, [6, 2], []), (78, .imul, 1, [], []), (79, .iconst 1, 1, [1], []), (80, .iadd, 1, [], []), (81, .invokestatic 321, 3, [1001], []), (84, .putfield 105, 3, [6, 2], []), (87, .aload_n 3, 1, [], []), (88, .aload_n 0, 1, [], []), (89, .getfield 18, 3, [0, 1], []), (92, .aload_n 3, 1, [], []), (93, .getfield 105, 3, [6, 2], []), (96, .iconst 1, 1, [1], []), (97, .iadd, 1, [], []), (98, .invokevirtual 164, 3, [2, 1, 34, 2, 1], []), (101, .putfield 102, 3, [6, 3], []), (104, .return_, 1, [], [])]
def k_X0_settle : List mE := [(0, .aload_n 0, 1, [], []), (1, .getfield 24, 3, [0, 2], []), (4, .iload_n 1, 1, [], []), (5, .aaload, 1, [], []), (6, .astore_n 2, 1, [], []), (7, .aload_n 0, 1, [], []), (8, .iload_n 1, 1, [], []), (9, .invokevirtual 270, 3, [2, 0, 19, 2, 1], []), (12, .ifCond .ne 30, 3, [42, 0], []), (15, .aload_n 2, 1, [], []), (16, .getfield 81, 3, [8, 6], []), (19, .aload_n 0, 1, [], []), (20, .getfield 52, 3, [0, 5], []), (23, .iand, 1, [], []), (24, .ifCond .ne 18, 3, [42, 0], []), (27, .aload_n 0, 1, [], []), (28, .getfield 58, 3, [0, 7], []), (31, .iload_n 1, 1, [], []), (32, .ishr, 1, [], []), (33, .iconst 1, 1, [1], []), (34, .iand, 1, [], []), (35, .ifCond .ne 7, 3, [42, 0], []), (38, .iconst 1, 1, [1], []), (39, .goto 4, 3, [43, 0], []), (42, .iconst 0, 1, [0], []), (43, .istore_n 3, 1, [], []), (44, .aload_n 2, 1, [], []), (45, .iload_n 3, 1, [], []), (46, .ifCond .eq 12, 3, [58, 0], []), (49, .aload_n 2, 1, [], []), (50, .getfield 108, 3, [8, 7], []), (53, .iconst 1, 1, [1], []), (54, .iadd, 1, [], []), (55, .goto 4, 3, [59, 0], []), (58, .iconst 0, 1, [0], []), (59, .putfield 108, 3, [8, 7], []), (62, .iconst 0, 1, [0], []), (63, .istore 4, 2, [], []), (65, .iload 4, 2, [], [1, 0, 1, 0, 1, 0]), (67, .iconst 4, 1, [4], []), (68, .if_icmp .ge 61, 3, [129, 0], []), (71, .aload_n 2, 1, [], []), (72, .getfield 93, 3, [8, 0], []), (75, .iload 4, 2, [], []), (77, .aaload, 1, [], []), (78, .astore 5, 2, [], []), (80, .aload 5, 2, [], []), (82, .getfield 97, 3, [6, 1], []), (85, .ifCond .le 38, 3, [123, 0], []), (88, .aload 5, 2, [], []), (90, .getfield 102, 3, [6, 3], []), (93, .ifCond .le 30, 3, [123, 0], []), (96, .aload_n 2, 1, [], []), (97, .getfield 108, 3, [8, 7], []), (100, .aload_n 0, 1, [], []), (101, .getfield 9, 3, [0, 0], []), (104, .iconst 3, 1, [3], []), (105, .iload 4, 2, [], []), (107, .iadd, 1, [], []), (108, .iaload, 1, [], []), (109, .if_icmp .le 14, 3, [123, 0], []), (112, .aload 5, 2, [], []), (114, .dup, 1, [], []), (115, .getfield 102, 3, [6, 3], []), (118, .iconst 1, 1, [1], []), (119, .isub, 1, [], []), (120, .putfield 102, 3, [6, 3], []), (123, .iinc 4 1, 3, [], []), (126, .goto (-61), 3, [65, 1, 1, 0, 1, 0, 1, 0], []), (129, .return_, 1, [], [])]
def k_X1_draw : List mE := [(0, .aload_n 0, 1, [], []), (1, .aload_n 0, 1, [], []), (2, .getfield 7, 3, [1, 0], []), (5, .ldc 13, 2, [1103515245], []), (7, .imul, 1, [], []), (8, .sipush 12345, 3, [12345], []), (11, .iadd, 1, [], []), (12, .putfield 7, 3, [1, 0], []), (15, .iload_n 1, 1, [], []), (16, .iconst 1, 1, [1], []), (17, .if_icmp .ge 7, 3, [24, 0], []), (20, .iconst 0, 1, [0], []), (21, .goto 12, 3, [33, 0], []), (24, .aload_n 0, 1, [], []), (25, .getfield 7, 3, [1, 0], []), (28, .bipush 16, 2, [16], []), (30, .iushr, 1, [], []), (31, .iload_n 1, 1, [], []), (32, .irem, 1, [], []), (33, .ireturn, 1, [], [])]
def k_X2_become : List mE := [(0, .aload_n 0, 1, [], []), (1, .aload_n 1, 1, [], []), (2, .getfield 9, 3, [2, 0], []), (5, .putfield 9, 3, [2, 0, 1], []), (8, .aload_n 0, 1, [], []), (9, .aload_n 1, 1, [], []), (10, .getfield 15, 3, [2, 1], []), (13, .putfield 15, 3, [2, 1], []), (16, .aload_n 0, 1, [], []), (17, .aload_n 1, 1, [], []), (18, .getfield 19, 3, [2, 2], []), (21, .putfield 19, 3, [2, 2], []), (24, .aload_n 0, 1, [], []), (25, .aload_n 1, 1, [], []), (26, .getfield 22, 3, [2, 3], []), (29, .putfield 22, 3, [2, 3], []), (32, .aload_n 0, 1, [], []), (33, .aload_n 1, 1, [], []), (34, .getfield 25, 3, [2, 4], []), (37, .putfield 25, 3, [2, 4], []), (40, .aload_n 0, 1, [], []), (41, .aload_n 1, 1, [], []), (42, .getfield 28, 3, [2, 5], []), (45, .putfield 28, 3, [2, 5], []), (48, .aload_n 0, 1, [], []), (49, .aload_n 1, 1, [], []), (50, .getfield 31, 3, [2, 6], []), (53, .putfield 31, 3, [2, 6], []), (56, .aload_n 0, 1, [], []), (57, .aload_n 1, 1, [], []), (58, .getfield 34, 3, [2, 7], []), (61, .putfield 34, 3, [2, 7], []), (64, .aload_n 0, 1, [], []), (65, .aload_n 1, 1, [], []), (66, .getfield 37, 3, [2, 8], []), (69, .putfield 37, 3, [2, 8], []), (72, .aload_n 0, 1, [], []), (73, .aload_n 1, 1, [], []), (74, .getfield 40, 3, [2, 9], []), (77, .putfield 40, 3, [2, 9], []), (80, .aload_n 0, 1, [], []), (81, .aload_n 1, 1, [], []), (82, .getfield 43, 3, [2, 10], []), (85, .putfield 43, 3, [2, 10], []), (88, .aload_n 0, 1, [], []), (89, .aload_n 1, 1, [], []), (90, .getfield 46, 3, [2, 11], []), (93, .putfield 46, 3, [2, 11], []), (96, .aload_n 0, 1, [], []), (97, .aload_n 1, 1, [], []), (98, .getfield 49, 3, [2, 12], []), (101, .putfield 49, 3, [2, 12, 1], []), (104, .return_, 1, [], [])]
def k_X2_sends : List mE := [(0, .aload_n 0, 1, [], []), (1, .getfield 9, 3, [2, 0], []), (4, .ifCond .eq 22, 3, [26, 0], []), (7, .aload_n 0, 1, [], []), (8, .getfield 28, 3, [2, 5], []), (11, .ifCond .eq 11, 3, [22, 0], []), (14, .aload_n 0, 1, [], []), (15, .getfield 28, 3, [2, 5], []), (18, .iconst 2, 1, [2], []), (19, .if_icmp .ne 7, 3, [26, 0], []), (22, .iconst 1, 1, [1], []), (23, .goto 4, 3, [27, 0], []), (26, .iconst 0, 1, [0], []), (27, .ireturn, 1, [1], [])]
def k_X3_become : List mE := [(0, .aload_n 1, 1, [], []), (1, .getfield 9, 3, [3, 0], []), (4, .iconst 0, 1, [0], []), (5, .aload_n 0, 1, [], []), (6, .getfield 9, 3, [3, 0], []), (9, .iconst 0, 1, [0], []), (10, .bipush 9, 2, [9], []), (12, .invokestatic 18, 3, [1002], []), (15, .aload_n 1, 1, [], []), (16, .getfield 15, 3, [3, 1], []), (19, .iconst 0, 1, [0], []), (20, .aload_n 0, 1, [], []), (21, .getfield 15, 3, [3, 1], []), (24, .iconst 0, 1, [0], []), (25, .bipush 6, 2, [6], []), (27, .invokestatic 18, 3, [1002], []), (30, .aload_n 0, 1, [], []), (31, .aload_n 1, 1, [], []), (32, .getfield 24, 3, [3, 2], []), (35, .putfield 24, 3, [3, 2], []), (38, .aload_n 0, 1, [], []), (39, .aload_n 1, 1, [], []), (40, .getfield 28, 3, [3, 3], []), (43, .putfield 28, 3, [3, 3], []), (46, .aload_n 0, 1, [], []), (47, .aload_n 1, 1, [], []), (48, .getfield 31, 3, [3, 4], []), (51, .putfield 31, 3, [3, 4], []), (54, .aload_n 0, 1, [], []), (55, .aload_n 1, 1, [], []), (56, .getfield 34, 3, [3, 5], []), (59, .putfield 34, 3, [3, 5], []), (62, .aload_n 0, 1, [], []), (63, .aload_n 1, 1, [], []), (64, .getfield 37, 3, [3, 6], []), (67, .putfield 37, 3, [3, 6], []), (70, .aload_n 0, 1, [], []), (71, .aload_n 1, 1, [], []), (72, .getfield 40, 3, [3, 7], []), (75, .putfield 40, 3, [3, 7], []), (78, .aload_n 0, 1, [], []), (79, .aload_n 1, 1, [], []), (80, .getfield 43, 3, [3, 8], []), (83, .putfield 43, 3, [3, 8], []), (86, .return_, 1, [], [])]
def k_X3_startAnew : List mE := [(0, .iconst 0, 1, [0], []), (1, .istore_n 1, 1, [], []), (2, .iload_n 1, 1, [], [1, 1]), (3, .bipush 9, 2, [9], []), (5, .if_icmp .ge 16, 3, [21, 0], []), (8, .aload_n 0, 1, [], []), (9, .getfield 9, 3, [3, 0], []), (12, .iload_n 1, 1, [], []), (13, .iconst 0, 1, [0], []), (14, .iastore, 1, [], []), (15, .iinc 1 1, 3, [], []), (18, .goto (-16), 3, [2, 1, 1, 1], []), (21, .iconst 0, 1, [0], []), (22, .istore_n 1, 1, [], []), (23, .iload_n 1, 1, [], [1, 1]), (24, .bipush 6, 2, [6], []), (26, .if_icmp .ge 16, 3, [42, 0], []), (29, .aload_n 0, 1, [], []), (30, .getfield 15, 3, [3, 1], []), (33, .iload_n 1, 1, [], []), (34, .iconst 0, 1, [0], []), (35, .iastore, 1, [], []), (36, .iinc 1 1, 3, [], []), (39, .goto (-16), 3, [23, 1, 1, 1], []), (42, .aload_n 0, 1, [], []), (43, .iconst 0, 1, [0], []), (44, .putfield 24, 3, [3, 2], []), (47, .aload_n 0, 1, [], []), (48, .iconst 0, 1, [0], []), (49, .putfield 28, 3, [3, 3], []), (52, .aload_n 0, 1, [], []), (53, .iconst 0, 1, [0], []), (54, .putfield 31, 3, [3, 4], []), (57, .aload_n 0, 1, [], []), (58, .iconst 0, 1, [0], []), (59, .putfield 34, 3, [3, 5], []), (62, .aload_n 0, 1, [], []), (63, .iconst 0, 1, [0], []), (64, .putfield 37, 3, [3, 6], []), (67, .aload_n 0, 1, [], []), (68, .iconst 0, 1, [0], []), (69, .putfield 40, 3, [3, 7], []), (72, .aload_n 0, 1, [], []), (73, .iconst 0, 1, [0], []), (74, .putfield 43, 3, [3, 8], []), (77, .return_, 1, [], [])]
def k_X3_delivered : List mE := [(0, .aload_n 0, 1, [], []), (1, .getfield 9, 3, [3, 0], []), (4, .iconst 0, 1, [0], []), (5, .dup2, 1, [], []), (6, .iaload, 1, [], []), (7, .iconst 1, 1, [1], []), (8, .iadd, 1, [], []), (9, .iastore, 1, [], []), (10, .aload_n 0, 1, [], []), (11, .getfield 9, 3, [3, 0], []), (14, .iconst 1, 1, [1], []), (15, .dup2, 1, [], []), (16, .iaload, 1, [], []), (17, .iload_n 1, 1, [], []), (18, .iadd, 1, [], []), (19, .iastore, 1, [], []), (20, .aload_n 0, 1, [], []), (21, .getfield 9, 3, [3, 0], []), (24, .bipush 7, 2, [7], []), (26, .dup2, 1, [], []), (27, .iaload, 1, [], []), (28, .iload_n 2, 1, [], []), (29, .iadd, 1, [], []), (30, .iastore, 1, [], []), (31, .aload_n 0, 1, [], []), (32, .getfield 9, 3, [3, 0], []), (35, .bipush 8, 2, [8], []), (37, .aload_n 0, 1, [], []), (38, .getfield 9, 3, [3, 0], []), (41, .bipush 8, 2, [8], []), (43, .iaload, 1, [], []), (44, .iload_n 2, 1, [], []), (45, .invokestatic 46, 3, [1000], []), (48, .iastore, 1, [], []), (49, .return_, 1, [], [])]
def k_X4_forget : List mE := [(0, .aload_n 0, 1, [], []), (1, .iconst 0, 1, [0], []), (2, .putfield 15, 3, [4, 1], []), (5, .return_, 1, [], [])]
def k_X4_add : List mE := [(0, .aload_n 0, 1, [], []), (1, .getfield 15, 3, [4, 1], []), (4, .bipush 16, 2, [16], []), (6, .if_icmp .ge 23, 3, [29, 0], []), (9, .aload_n 0, 1, [], []), (10, .getfield 9, 3, [4, 0], []), (13, .aload_n 0, 1, [], []), (14, .getfield 15, 3, [4, 1], []), (17, .lload_n 1, 1, [], []), (18, .lastore, 1, [], []), (19, .aload_n 0, 1, [], []), (20, .dup, 1, [], []), (21, .getfield 15, 3, [4, 1], []), (24, .iconst 1, 1, [1], []), (25, .iadd, 1, [], []), (26, .putfield 15, 3, [4, 1], []), (29, .return_, 1, [], [])]
def k_X4_tellOne : List mE := [(0, .aload_n 0, 1, [], []), (1, .invokevirtual 19, 3, [1, 4, 40, 1, 0], []), (4, .aload_n 0, 1, [], []), (5, .lload_n 1, 1, [], []), (6, .invokevirtual 22, 3, [2, 4, 41, 3, 0], []), (9, .return_, 1, [], [])]
def k_X4_tellTwo : List mE := [(0, .aload_n 0, 1, [], []), (1, .lload_n 1, 1, [], []), (2, .invokevirtual 26, 3, [2, 4, 42, 3, 0], []), (5, .aload_n 0, 1, [], []), (6, .lload_n 3, 1, [], []), (7, .invokevirtual 22, 3, [2, 4, 41, 3, 0], []), (10, .return_, 1, [], [])]
def k_X4_tellThree : List mE := [(0, .aload_n 0, 1, [], []), (1, .lload_n 1, 1, [], []), (2, .lload_n 3, 1, [], []), (3, .invokevirtual 29, 3, [3, 4, 43, 5, 0], []), (6, .aload_n 0, 1, [], []), (7, .lload 5, 2, [], []), (9, .invokevirtual 22, 3, [2, 4, 41, 3, 0], []), (12, .return_, 1, [], [])]
def k_X4_tellPart : List mE := [(0, .lload_n 1, 1, [], []), (1, .lstore 5, 2, [], []), (3, .lload_n 3, 1, [], []), (4, .lstore 7, 2, [], []), (6, .iconst 0, 1, [0], []), (7, .istore 9, 2, [], []), (9, .iload 9, 2, [], [1, 1, 0, 1, 0, 1, 0, 1, 0, 1, 0, 0]), (11, .bipush 100, 2, [100], []), (13, .if_icmp .ge 31, 3, [44, 0], []), (16, .lload 7, 2, [], []), (18, .lconst 0, 1, [0], []), (19, .lcmp, 1, [], []), (20, .ifCond .eq 24, 3, [44, 0], []), (23, .lload 5, 2, [], []), (25, .lload 7, 2, [], []), (27, .lrem, 1, [], []), (28, .lstore 10, 2, [], []), (30, .lload 7, 2, [], []), (32, .lstore 5, 2, [], []), (34, .lload 10, 2, [], []), (36, .lstore 7, 2, [], []), (38, .iinc 9 1, 3, [], []), (41, .goto (-32), 3, [9, 1, 1, 1, 0, 1, 0, 1, 0, 1, 0, 1, 0, 0], []), (44, .lload 5, 2, [], []), (46, .lconst 0, 1, [0], []), (47, .lcmp, 1, [], []), (48, .ifCond .le 15, 3, [63, 0], []), (51, .aload_n 0, 1, [], []), (52, .lload_n 1, 1, [], []), (53, .lload 5, 2, [], []), (55, .ldiv, 1, [], []), (56, .lload_n 3, 1, [], []), (57, .lload 5, 2, [], []), (59, .ldiv, 1, [], []), (60, .invokevirtual 29, 3, [3, 4, 43, 5, 0], []), (63, .return_, 1, [], [])]
def k_X5_push : List mE := [(0, .aload_n 0, 1, [], []), (1, .aload_n 0, 1, [], []), (2, .getfield 18, 3, [5, 2], []), (5, .iconst 1, 1, [1], []), (6, .iadd, 1, [], []), (7, .bipush 6, 2, [6], []), (9, .if_icmp .ge 12, 3, [21, 0], []), (12, .aload_n 0, 1, [], []), (13, .getfield 18, 3, [5, 2], []), (16, .iconst 1, 1, [1], []), (17, .iadd, 1, [], []), (18, .goto 4, 3, [22, 0], []), (21, .iconst 0, 1, [0], []), (22, .putfield 18, 3, [5, 2], []), (25, .aload_n 0, 1, [], []), (26, .getfield 11, 3, [5, 0], []), (29, .aload_n 0, 1, [], []), (30, .getfield 18, 3, [5, 2], []), (33, .aaload, 1, [], []), (34, .aload_n 1, 1, [], []), (35, .invokevirtual 22, 3, [2, 0, 0, 3, 0], []), (38, .aload_n 0, 1, [], []), (39, .getfield 26, 3, [5, 1], []), (42, .bipush 6, 2, [6], []), (44, .if_icmp .ge 13, 3, [57, 0], []), (47, .aload_n 0, 1, [], []), (48, .dup, 1, [], []), (49, .getfield 26, 3, [5, 1], []), (52, .iconst 1, 1, [1], []), (53, .iadd, 1, [], []), (54, .putfield 26, 3, [5, 1], []), (57, .return_, 1, [], [])]
def k_X5_popInto : List mE := [(0, .aload_n 0, 1, [], []), (1, .getfield 26, 3, [5, 1], []), (4, .iconst 1, 1, [1], []), (5, .if_icmp .ge 5, 3, [10, 0], []), (8, .iconst 0, 1, [0], []), (9, .ireturn, 1, [1], []), (10, .aload_n 1, 1, [], []), (11, .aload_n 0, 1, [], []), (12, .getfield 11, 3, [5, 0], []), (15, .aload_n 0, 1, [], []), (16, .getfield 18, 3, [5, 2], []), (19, .aaload, 1, [], []), (20, .invokevirtual 22, 3, [2, 0, 0, 3, 0], []), (23, .aload_n 0, 1, [], []), (24, .aload_n 0, 1, [], []), (25, .getfield 18, 3, [5, 2], []), (28, .ifCond .le 12, 3, [40, 0], []), (31, .aload_n 0, 1, [], []), (32, .getfield 18, 3, [5, 2], []), (35, .iconst 1, 1, [1], []), (36, .isub, 1, [], []), (37, .goto 4, 3, [41, 0], []), (40, .iconst 5, 1, [5], []), (41, .putfield 18, 3, [5, 2], []), (44, .aload_n 0, 1, [], []), (45, .dup, 1, [], []), (46, .getfield 26, 3, [5, 1], []), (49, .iconst 1, 1, [1], []), (50, .isub, 1, [], []), (51, .putfield 26, 3, [5, 1], []), (54, .iconst 1, 1, [1], []), (55, .ireturn, 1, [1], [])]
def k_X6_become : List mE := [(0, .aload_n 1, 1, [], []), (1, .getfield 9, 3, [6, 0], []), (4, .iconst 0, 1, [0], []), (5, .aload_n 0, 1, [], []), (6, .getfield 9, 3, [6, 0], []), (9, .iconst 0, 1, [0], []), (10, .aload_n 0, 1, [], []), (11, .getfield 9, 3, [6, 0], []), (14, .arraylength, 1, [], []), (15, .invokestatic 15, 3, [1002], []), (18, .aload_n 0, 1, [], []), (19, .aload_n 1, 1, [], []), (20, .getfield 21, 3, [6, 1], []), (23, .putfield 21, 3, [6, 1], []), (26, .aload_n 0, 1, [], []), (27, .aload_n 1, 1, [], []), (28, .getfield 25, 3, [6, 2], []), (31, .putfield 25, 3, [6, 2], []), (34, .aload_n 0, 1, [], []), (35, .aload_n 1, 1, [], []), (36, .getfield 28, 3, [6, 3], []), (39, .putfield 28, 3, [6, 3], []), (42, .return_, 1, [], [])]
def k_X6_fieldOf : List mE := [(0, .iload_n 1, 1, [], []), (1, .ifCond .lt 24, 3, [25, 0], []), (4, .iload_n 1, 1, [], []), (5, .aload_n 0, 1, [], []), (6, .getfield 21, 3, [6, 1], []), (9, .if_icmp .ge 16, 3, [25, 0], []), (12, .aload_n 0, 1, [], []), (13, .getfield 9, 3, [6, 0], []), (16, .iload_n 1, 1, [], []), (17, .iconst 5, 1, [5], []), (18, .imul, 1, [], []), (19, .iload_n 2, 1, [], []), (20, .iadd, 1, [], []), (21, .iaload, 1, [], []), (22, .goto 4, 3, [26, 0], []), (25, .iconst (-1), 1, [], []), (26, .ireturn, 1, [], [])]
def k_X6_addLast : List mE := [(0, .aload_n 0, 1, [], []), (1, .getfield 21, 3, [6, 1], []), (4, .bipush 8, 2, [8], []), (6, .if_icmp .ge 71, 3, [77, 0], []), (9, .aload_n 0, 1, [], []), (10, .getfield 21, 3, [6, 1], []), (13, .iconst 5, 1, [5], []), (14, .imul, 1, [], []), (15, .istore 4, 2, [], []), (17, .aload_n 0, 1, [], []), (18, .getfield 9, 3, [6, 0], []), (21, .iload 4, 2, [], []), (23, .iconst 0, 1, [0], []), (24, .iadd, 1, [], []), (25, .iload_n 1, 1, [], []), (26, .iastore, 1, [], []), (27, .aload_n 0, 1, [], []), (28, .getfield 9, 3, [6, 0], []), (31, .iload 4, 2, [], []), (33, .iconst 1, 1, [1], []), (34, .iadd, 1, [], []), (35, .iload_n 2, 1, [], []), (36, .iastore, 1, [], []), (37, .aload_n 0, 1, [], []), (38, .getfield 9, 3, [6, 0], []), (41, .iload 4, 2, [], []), (43, .iconst 2, 1, [2], []), (44, .iadd, 1, [], []), (45, .iconst 0, 1, [0], []), (46, .iastore, 1, [], []), (47, .aload_n 0, 1, [], []), (48, .getfield 9, 3, [6, 0], []), (51, .iload 4, 2, [], []), (53, .iconst 3, 1, [3], []), (54, .iadd, 1, [], []), (55, .iload_n 3, 1, [], []), (56, .iastore, 1, [], []), (57, .aload_n 0, 1, [], []), (58, .getfield 9, 3, [6, 0], []), (61, .iload 4, 2, [], []), (63, .iconst 4, 1, [4], []), (64, .iadd, 1, [], []), (65, .iconst 0, 1, [0], []), (66, .iastore, 1, [], []), (67, .aload_n 0, 1, [], []), (68, .dup, 1, [], []), (69, .getfield 21, 3, [6, 1], []), (72, .iconst 1, 1, [1], []), (73, .iadd, 1, [], []), (74, .putfield 21, 3, [6, 1], []), (77, .return_, 1, [], [])]
def k_X6_tryAgain : List mE := [(0, .iload_n 1, 1, [], []), (1, .ifCond .lt 11, 3, [12, 0], []), (4, .iload_n 1, 1, [], []), (5, .aload_n 0, 1, [], []), (6, .getfield 21, 3, [6, 1], []), (9, .if_icmp .lt 5, 3, [14, 0], []), (12, .iconst 0, 1, [0], []), (13, .ireturn, 1, [], []), (14, .aload_n 0, 1, [], []), (15, .getfield 9, 3, [6, 0], []), (18, .iload_n 1, 1, [], []), (19, .iconst 5, 1, [5], []), (20, .imul, 1, [], []), (21, .iconst 2, 1, [2], []), (22, .iadd, 1, [], []), (23, .dup2, 1, [], []), (24, .iaload, 1, [], []), (25, .iconst 1, 1, [1], []), (26, .iadd, 1, [], []), (27, .iastore, 1, [], []), (28, .aload_n 0, 1, [], []), (29, .getfield 9, 3, [6, 0], []), (32, .iload_n 1, 1, [], []), (33, .iconst 5, 1, [5], []), (34, .imul, 1, [], []), (35, .iconst 2, 1, [2], []), (36, .iadd, 1, [], []), (37, .iaload, 1, [], []), (38, .ireturn, 1, [], [])]
def k_X6_removeAt : List mE := [(0, .iload_n 1, 1, [], []), (1, .ifCond .lt 11, 3, [12, 0], []), (4, .iload_n 1, 1, [], []), (5, .aload_n 0, 1, [], []), (6, .getfield 21, 3, [6, 1], []), (9, .if_icmp .lt 4, 3, [13, 0], []), (12, .return_, 1, [], []), (13, .iload_n 1, 1, [], []), (14, .iconst 1, 1, [1], []), (15, .iadd, 1, [], []), (16, .iconst 5, 1, [5], []), (17, .imul, 1, [], []), (18, .istore_n 2, 1, [], []), (19, .iload_n 2, 1, [], [1, 0, 1]), (20, .aload_n 0, 1, [], []), (21, .getfield 21, 3, [6, 1], []), (24, .iconst 5, 1, [5], []), (25, .imul, 1, [], []), (26, .if_icmp .ge 23, 3, [49, 0], []), (29, .aload_n 0, 1, [], []), (30, .getfield 9, 3, [6, 0], []), (33, .iload_n 2, 1, [], []), (34, .iconst 5, 1, [5], []), (35, .isub, 1, [], []), (36, .aload_n 0, 1, [], []), (37, .getfield 9, 3, [6, 0], []), (40, .iload_n 2, 1, [], []), (41, .iaload, 1, [], []), (42, .iastore, 1, [], []), (43, .iinc 2 1, 3, [], []), (46, .goto (-27), 3, [19, 1, 1, 0, 1], []), (49, .aload_n 0, 1, [], []), (50, .dup, 1, [], []), (51, .getfield 21, 3, [6, 1], []), (54, .iconst 1, 1, [1], []), (55, .isub, 1, [], []), (56, .putfield 21, 3, [6, 1], []), (59, .return_, 1, [], [])]
def k_X6_alikeAtFirst : List mE := [(0, .iconst 0, 1, [0], []), (1, .istore_n 2, 1, [], []), (2, .iconst 0, 1, [0], []), (3, .istore_n 3, 1, [], []), (4, .iload_n 3, 1, [], [1, 1, 1, 1]), (5, .aload_n 0, 1, [], []), (6, .getfield 21, 3, [6, 1], []), (9, .if_icmp .ge 35, 3, [44, 0], []), (12, .iload_n 3, 1, [], []), (13, .iload_n 1, 1, [], []), (14, .if_icmp .ge 30, 3, [44, 0], []), (17, .aload_n 0, 1, [], []), (18, .iload_n 3, 1, [], []), (19, .iconst 0, 1, [0], []), (20, .invokevirtual 31, 3, [3, 6, 49, 3, 1], []), (23, .aload_n 0, 1, [], []), (24, .iconst 0, 1, [0], []), (25, .iconst 0, 1, [0], []), (26, .invokevirtual 31, 3, [3, 6, 49, 3, 1], []), (29, .if_icmp .eq 6, 3, [35, 0], []), (32, .goto 12, 3, [44, 0], []), (35, .iinc 2 1, 3, [], []), (38, .iinc 3 1, 3, [], []), (41, .goto (-37), 3, [4, 1, 1, 1, 1, 1], []), (44, .iload_n 2, 1, [], []), (45, .ireturn, 1, [], [])]
def k_X7_addFour : List mE := [(0, .aload_n 0, 1, [], []), (1, .getfield 15, 3, [7, 1], []), (4, .ifCond .lt 14, 3, [18, 0], []), (7, .aload_n 0, 1, [], []), (8, .getfield 15, 3, [7, 1], []), (11, .iconst 4, 1, [4], []), (12, .iadd, 1, [], []), (13, .bipush 80, 2, [80], []), (15, .if_icmp .le 5, 3, [20, 0], []), (18, .iconst 0, 1, [0], []), (19, .ireturn, 1, [1], []), (20, .iconst 0, 1, [0], []), (21, .istore_n 2, 1, [], []), (22, .iload_n 2, 1, [], [1, 1, 1]), (23, .iconst 4, 1, [4], []), (24, .if_icmp .ge 33, 3, [57, 0], []), (27, .aload_n 0, 1, [], []), (28, .getfield 9, 3, [7, 0], []), (31, .aload_n 0, 1, [], []), (32, .getfield 15, 3, [7, 1], []), (35, .iload_n 2, 1, [], []), (36, .iadd, 1, [], []), (37, .iload_n 1, 1, [], []), (38, .bipush 24, 2, [24], []), (40, .bipush 8, 2, [8], []), (42, .iload_n 2, 1, [], []), (43, .imul, 1, [], []), (44, .isub, 1, [], []), (45, .iushr, 1, [], []), (46, .sipush 255, 3, [255], []), (49, .iand, 1, [], []), (50, .iastore, 1, [], []), (51, .iinc 2 1, 3, [], []), (54, .goto (-32), 3, [22, 1, 1, 1, 1], []), (57, .aload_n 0, 1, [], []), (58, .dup, 1, [], []), (59, .getfield 15, 3, [7, 1], []), (62, .iconst 4, 1, [4], []), (63, .iadd, 1, [], []), (64, .putfield 15, 3, [7, 1], []), (67, .iconst 1, 1, [1], []), (68, .ireturn, 1, [1], [])]
def k_X7_cutTo : List mE := [(0, .iload_n 1, 1, [], []), (1, .ifCond .lt 11, 3, [12, 0], []), (4, .iload_n 1, 1, [], []), (5, .aload_n 0, 1, [], []), (6, .getfield 15, 3, [7, 1], []), (9, .if_icmp .le 5, 3, [14, 0], []), (12, .iconst 0, 1, [0], []), (13, .ireturn, 1, [1], []), (14, .aload_n 0, 1, [], []), (15, .iload_n 1, 1, [], []), (16, .putfield 15, 3, [7, 1], []), (19, .iconst 1, 1, [1], []), (20, .ireturn, 1, [1], [])]
def k_X7_at : List mE := [(0, .iload_n 1, 1, [], []), (1, .ifCond .lt 20, 3, [21, 0], []), (4, .iload_n 1, 1, [], []), (5, .aload_n 0, 1, [], []), (6, .getfield 15, 3, [7, 1], []), (9, .if_icmp .ge 12, 3, [21, 0], []), (12, .aload_n 0, 1, [], []), (13, .getfield 9, 3, [7, 0], []), (16, .iload_n 1, 1, [], []), (17, .iaload, 1, [], []), (18, .goto 4, 3, [22, 0], []), (21, .iconst (-1), 1, [], []), (22, .ireturn, 1, [], [])]
def k_X7_digitAt : List mE := [(0, .aload_n 0, 1, [], []), (1, .iload_n 1, 1, [], []), (2, .invokevirtual 19, 3, [2, 7, 56, 2, 1], []), (5, .bipush 48, 2, [48], []), (7, .isub, 1, [], []), (8, .istore 4, 2, [], []), (10, .iload 4, 2, [], []), (12, .iload_n 2, 1, [], []), (13, .if_icmp .lt 14, 3, [27, 0], []), (16, .iload 4, 2, [], []), (18, .iload_n 3, 1, [], []), (19, .if_icmp .gt 8, 3, [27, 0], []), (22, .iload 4, 2, [], []), (24, .goto 4, 3, [28, 0], []), (27, .iconst (-1), 1, [], []), (28, .ireturn, 1, [], [])]
def k_X7_letterAt : List mE := [(0, .aload_n 0, 1, [], []), (1, .iload_n 1, 1, [], []), (2, .invokevirtual 19, 3, [2, 7, 56, 2, 1], []), (5, .bipush 97, 2, [97], []), (7, .isub, 1, [], []), (8, .istore_n 3, 1, [], []), (9, .iload_n 3, 1, [], []), (10, .ifCond .lt 12, 3, [22, 0], []), (13, .iload_n 3, 1, [], []), (14, .iload_n 2, 1, [], []), (15, .if_icmp .ge 7, 3, [22, 0], []), (18, .iload_n 3, 1, [], []), (19, .goto 4, 3, [23, 0], []), (22, .iconst (-1), 1, [], []), (23, .ireturn, 1, [], [])]
def k_X8_become : List mE := [(0, .iconst 0, 1, [0], []), (1, .istore_n 2, 1, [], []), (2, .iload_n 2, 1, [], [1, 1, 1]), (3, .iconst 4, 1, [4], []), (4, .if_icmp .ge 24, 3, [28, 0], []), (7, .aload_n 0, 1, [], []), (8, .getfield 11, 3, [8, 0], []), (11, .iload_n 2, 1, [], []), (12, .aaload, 1, [], []), (13, .aload_n 1, 1, [], []), (14, .getfield 11, 3, [8, 0], []), (17, .iload_n 2, 1, [], []), (18, .aaload, 1, [], []), (19, .invokevirtual 46, 3, [2, 6, 48, 2, 0], []), (22, .iinc 2 1, 3, [], []), (25, .goto (-23), 3, [2, 1, 1, 1, 1], []), (28, .aload_n 0, 1, [], []), (29, .getfield 20, 3, [8, 1], []), (32, .aload_n 1, 1, [], []), (33, .getfield 20, 3, [8, 1], []), (36, .invokevirtual 50, 3, [2, 2, 35, 2, 0], []), (39, .aload_n 0, 1, [], []), (40, .getfield 27, 3, [8, 2], []), (43, .aload_n 1, 1, [], []), (44, .getfield 27, 3, [8, 2], []), (47, .invokevirtual 53, 3, [2, 3, 37, 2, 0], []), (50, .aload_n 1, 1, [], []), (51, .getfield 31, 3, [8, 3], []), (54, .iconst 0, 1, [0], []), (55, .aload_n 0, 1, [], []), (56, .getfield 31, 3, [8, 3], []), (59, .iconst 0, 1, [0], []), (60, .bipush 6, 2, [6], []), (62, .invokestatic 56, 3, [1002], []), (65, .aload_n 1, 1, [], []), (66, .getfield 35, 3, [8, 4], []), (69, .iconst 0, 1, [0], []), (70, .aload_n 0, 1, [], []), (71, .getfield 35, 3, [8, 4], []), (74, .iconst 0, 1, [0], []), (75, .bipush 6, 2, [6], []), (77, .invokestatic 56, 3, [1002], []), (80, .aload_n 1, 1, [], []), (81, .getfield 38, 3, [8, 5], []), (84, .iconst 0, 1, [0], []), (85, .aload_n 0, 1, [], []), (86, .getfield 38, 3, [8, 5], []), (89, .iconst 0, 1, [0], []), (90, .bipush 6, 2, [6], []), (92, .invokestatic 56, 3, [1002], []), (95, .aload_n 0, 1, [], []), (96, .aload_n 1, 1, [], []), (97, .getfield 62, 3, [8, 6], []), (100, .putfield 62, 3, [8, 6], []), (103, .aload_n 0, 1, [], []), (104, .aload_n 1, 1, [], []), (105, .getfield 65, 3, [8, 7], []), (108, .putfield 65, 3, [8, 7], []), (111, .aload_n 0, 1, [], []), (112, .aload_n 1, 1, [], []), (113, .getfield 68, 3, [8, 8], []), (116, .putfield 68, 3, [8, 8], []), (119, .aload_n 0, 1, [], []), (120, .aload_n 1, 1, [], []), (121, .getfield 71, 3, [8, 9], []), (124, .putfield 71, 3, [8, 9], []), (127, .aload_n 0, 1, [], []), (128, .aload_n 1, 1, [], []), (129, .getfield 74, 3, [8, 10], []), (132, .putfield 74, 3, [8, 10], []), (135, .aload_n 0, 1, [], []), (136, .aload_n 1, 1, [], []), (137, .getfield 41, 3, [8, 11], []), (140, .putfield 41, 3, [8, 11], []), (143, .aload_n 0, 1, [], []), (144, .aload_n 1, 1, [], []), (145, .getfield 77, 3, [8, 12], []), (148, .putfield 77, 3, [8, 12], []), (151, .return_, 1, [], [])]
def k_X8_isFree : List mE := [(0, .aload_n 0, 1, [], []), (1, .getfield 20, 3, [8, 1], []), (4, .getfield 80, 3, [2, 0], []), (7, .ifCond .ne 14, 3, [21, 0], []), (10, .aload_n 0, 1, [], []), (11, .getfield 77, 3, [8, 12], []), (14, .ifCond .ne 7, 3, [21, 0], []), (17, .iconst 1, 1, [1], []), (18, .goto 4, 3, [22, 0], []), (21, .iconst 0, 1, [0], []), (22, .ireturn, 1, [1], [])]
def k_X8_waiting : List mE := [(0, .iconst 0, 1, [0], []), (1, .istore_n 1, 1, [], []), (2, .iconst 0, 1, [0], []), (3, .istore_n 2, 1, [], []), (4, .iload_n 2, 1, [], [1, 1, 1]), (5, .iconst 4, 1, [4], []), (6, .if_icmp .ge 21, 3, [27, 0], []), (9, .iload_n 1, 1, [], []), (10, .aload_n 0, 1, [], []), (11, .getfield 11, 3, [8, 0], []), (14, .iload_n 2, 1, [], []), (15, .aaload, 1, [], []), (16, .getfield 84, 3, [6, 1], []), (19, .iadd, 1, [], []), (20, .istore_n 1, 1, [], []), (21, .iinc 2 1, 3, [], []), (24, .goto (-20), 3, [4, 1, 1, 1, 1], []), (27, .iload_n 1, 1, [], []), (28, .ireturn, 1, [], [])]
def k_X8_setOwing : List mE := [(0, .aload_n 0, 1, [], []), (1, .iload_n 1, 1, [], []), (2, .putfield 41, 3, [8, 11], []), (5, .aload_n 0, 1, [], []), (6, .iload_n 2, 1, [], []), (7, .putfield 77, 3, [8, 12], []), (10, .return_, 1, [], [])]
def k_X8_pays : List mE := [(0, .aload_n 0, 1, [], []), (1, .getfield 41, 3, [8, 11], []), (4, .iload_n 1, 1, [], []), (5, .if_icmp .ne 11, 3, [16, 0], []), (8, .aload_n 0, 1, [], []), (9, .getfield 77, 3, [8, 12], []), (12, .iload_n 2, 1, [], []), (13, .if_icmp .eq 5, 3, [18, 0], []), (16, .iconst 0, 1, [0], []), (17, .ireturn, 1, [1], []), (18, .aload_n 0, 1, [], []), (19, .iconst (-1), 1, [], []), (20, .iconst 0, 1, [0], []), (21, .invokevirtual 87, 3, [3, 8, 62, 3, 0], []), (24, .iconst 1, 1, [1], []), (25, .ireturn, 1, [1], [])]
def k_X8_listen : List mE := [(0, .iload_n 3, 1, [], []), (1, .aload_n 0, 1, [], []), (2, .getfield 68, 3, [8, 8], []), (5, .if_icmp .le 18, 3, [23, 0], []), (8, .aload_n 0, 1, [], []), (9, .iload_n 3, 1, [], []), (10, .putfield 68, 3, [8, 8], []), (13, .aload_n 0, 1, [], []), (14, .iload_n 1, 1, [], []), (15, .putfield 71, 3, [8, 9], []), (18, .aload_n 0, 1, [], []), (19, .iload_n 2, 1, [], []), (20, .putfield 74, 3, [8, 10], []), (23, .return_, 1, [], [])]
def k_X9_sign : List mE := [(0, .aload_n 0, 1, [], []), (1, .getfield 44, 3, [9, 6], []), (4, .iload_n 1, 1, [], []), (5, .invokevirtual 59, 3, [2, 7, 54, 3, 1], []), (8, .ifCond .eq 13, 3, [21, 0], []), (11, .aload_n 0, 1, [], []), (12, .getfield 44, 3, [9, 6], []), (15, .getfield 63, 3, [7, 1], []), (18, .goto 4, 3, [22, 0], []), (21, .iconst (-1), 1, [], []), (22, .ireturn, 1, [], [])]
def k_X9_end : List mE := [(0, .aload_n 0, 1, [], []), (1, .getfield 44, 3, [9, 6], []), (4, .iload_n 1, 1, [], []), (5, .invokevirtual 67, 3, [2, 7, 55, 2, 1], []), (8, .ireturn, 1, [1], [])]
def k_X9_net : List mE := [(0, .aload_n 0, 1, [], []), (1, .getfield 44, 3, [9, 6], []), (4, .iconst 0, 1, [0], []), (5, .iconst 1, 1, [1], []), (6, .bipush 6, 2, [6], []), (8, .invokevirtual 70, 3, [4, 7, 57, 5, 1], []), (11, .istore_n 1, 1, [], []), (12, .iload_n 1, 1, [], []), (13, .ifCond .ge 7, 3, [20, 0], []), (16, .iconst 0, 1, [0], []), (17, .goto 8, 3, [25, 0], []), (20, .aload_n 0, 1, [], []), (21, .iload_n 1, 1, [], []), (22, .invokevirtual 74, 3, [2, 9, 103, 6, 1], []), (25, .istore_n 2, 1, [], []), (26, .iload_n 2, 1, [], []), (27, .ifCond .lt 15, 3, [42, 0], []), (30, .aload_n 0, 1, [], []), (31, .getfield 44, 3, [9, 6], []), (34, .iconst 0, 1, [0], []), (35, .putfield 63, 3, [7, 1], []), (38, .iconst (-1), 1, [], []), (39, .iload_n 2, 1, [], []), (40, .isub, 1, [], []), (41, .ireturn, 1, [], []), (42, .aload_n 0, 1, [], []), (43, .getfield 44, 3, [9, 6], []), (46, .getfield 63, 3, [7, 1], []), (49, .iconst 1, 1, [1], []), (50, .isub, 1, [], []), (51, .iconst 3, 1, [3], []), (52, .idiv, 1, [], []), (53, .istore_n 3, 1, [], []), (54, .aload_n 0, 1, [], []), (55, .getfield 44, 3, [9, 6], []), (58, .iconst 0, 1, [0], []), (59, .putfield 63, 3, [7, 1], []), (62, .aload_n 0, 1, [], []), (63, .getfield 29, 3, [9, 3], []), (66, .aload_n 0, 1, [], []), (67, .getfield 10, 3, [9, 0], []), (70, .invokevirtual 78, 3, [2, 5, 46, 2, 0], []), (73, .aload_n 0, 1, [], []), (74, .getfield 10, 3, [9, 0], []), (77, .iload_n 1, 1, [], []), (78, .aload_n 0, 1, [], []), (79, .getfield 55, 3, [9, 8], []), (82, .invokevirtual 82, 3, [3, 0, 1, 4, 0], []), (85, .iload_n 3, 1, [], []), (86, .ireturn, 1, [], [])]
def k_X9_sets : List mE := [(0, .iload_n 1, 1, [], []), (1, .ifCond .lt 9, 3, [10, 0], []), (4, .iload_n 1, 1, [], []), (5, .bipush 12, 2, [12], []), (7, .if_icmp .le 5, 3, [12, 0], []), (10, .iconst (-1), 1, [], []), (11, .ireturn, 1, [], []), (12, .iload_n 1, 1, [], []), (13, .bipush 12, 2, [12], []), (15, .if_icmp .ne 28, 3, [43, 0], []), (18, .aload_n 0, 1, [], []), (19, .getfield 29, 3, [9, 3], []), (22, .aload_n 0, 1, [], []), (23, .getfield 10, 3, [9, 0], []), (26, .invokevirtual 78, 3, [2, 5, 46, 2, 0], []), (29, .aload_n 0, 1, [], []), (30, .getfield 10, 3, [9, 0], []), (33, .getfield 86, 3, [0, 1], []), (36, .iload_n 2, 1, [], []), (37, .putfield 89, 3, [1, 0], []), (40, .bipush 100, 2, [100], []), (42, .ireturn, 1, [], []), (43, .iload_n 2, 1, [], []), (44, .iconst 1, 1, [1], []), (45, .if_icmp .lt 12, 3, [57, 0], []), (48, .iload_n 2, 1, [], []), (49, .getstatic 92, 3, [51], []), (52, .iload_n 1, 1, [], []), (53, .iaload, 1, [], []), (54, .if_icmp .le 5, 3, [59, 0], []), (57, .iconst (-1), 1, [], []), (58, .ireturn, 1, [], []), (59, .aload_n 0, 1, [], []), (60, .getfield 10, 3, [9, 0], []), (63, .getfield 95, 3, [0, 0], []), (66, .iload_n 1, 1, [], []), (67, .iaload, 1, [], []), (68, .istore_n 3, 1, [], []), (69, .iload_n 3, 1, [], []), (70, .iload_n 2, 1, [], []), (71, .if_icmp .ne 6, 3, [77, 0], []), (74, .bipush (-2), 2, [], []), (76, .ireturn, 1, [], []), (77, .aload_n 0, 1, [], []), (78, .getfield 29, 3, [9, 3], []), (81, .aload_n 0, 1, [], []), (82, .getfield 10, 3, [9, 0], []), (85, .invokevirtual 78, 3, [2, 5, 46, 2, 0], []), (88, .aload_n 0, 1, [], []), (89, .getfield 10, 3, [9, 0], []), (92, .getfield 95, 3, [0, 0], []), (95, .iload_n 1, 1, [], []), (96, .iload_n 2, 1, [], []), (97, .iastore, 1, [], []), (98, .bipush 100, 2, [100], []), (100, .iload_n 3, 1, [], []), (101, .iadd, 1, [], []), (102, .ireturn, 1, [], [])]
def k_X9_setting : List mE := [(0, .iload_n 1, 1, [], []), (1, .ifCond .lt 9, 3, [10, 0], []), (4, .iload_n 1, 1, [], []), (5, .bipush 12, 2, [12], []), (7, .if_icmp .le 11, 3, [18, 0], []), (10, .new 98, 3, [], []), (13, .dup, 1, [], []), (14, .invokespecial 100, 3, [], []), (17, .athrow, 1, [], []), (18, .iload_n 1, 1, [], []), (19, .bipush 12, 2, [12], []), (21, .if_icmp .ne 16, 3, [37, 0], []), (24, .aload_n 0, 1, [], []), (25, .getfield 10, 3, [9, 0], []), (28, .getfield 86, 3, [0, 1], []), (31, .getfield 89, 3, [1, 0], []), (34, .goto 12, 3, [46, 0], []), (37, .aload_n 0, 1, [], []), (38, .getfield 10, 3, [9, 0], []), (41, .getfield 95, 3, [0, 0], []), (44, .iload_n 1, 1, [], []), (45, .iaload, 1, [], []), (46, .ireturn, 1, [], [])]
def k_X9_sheet : List mE := [(0, .iload_n 1, 1, [], []), (1, .invokestatic 101, 3, [1, 102, 1, 1], []), (4, .ifCond .eq 18, 3, [22, 0], []), (7, .iload_n 2, 1, [], []), (8, .ifCond .lt 14, 3, [22, 0], []), (11, .iload_n 2, 1, [], []), (12, .iconst 3, 1, [3], []), (13, .if_icmp .gt 9, 3, [22, 0], []), (16, .iload_n 3, 1, [], []), (17, .bipush 6, 2, [6], []), (19, .if_icmp .le 5, 3, [24, 0], []), (22, .iconst (-1), 1, [], []), (23, .ireturn, 1, [], []), (24, .aload_n 0, 1, [], []), (25, .getfield 10, 3, [9, 0], []), (28, .invokevirtual 104, 3, [1, 0, 6, 3, 1], []), (31, .ifCond .le 6, 3, [37, 0], []), (34, .bipush (-4), 2, [], []), (36, .ireturn, 1, [], []), (37, .iload_n 2, 1, [], []), (38, .iconst 3, 1, [3], []), (39, .if_icmp .eq 10, 3, [49, 0], []), (42, .iload_n 3, 1, [], []), (43, .ifCond .ge 6, 3, [49, 0], []), (46, .bipush (-2), 2, [], []), (48, .ireturn, 1, [], []), (49, .aload_n 0, 1, [], []), (50, .getfield 10, 3, [9, 0], []), (53, .iload_n 1, 1, [], []), (54, .invokevirtual 108, 3, [2, 0, 7, 3, 0], []), (57, .iload_n 2, 1, [], []), (58, .iconst 3, 1, [3], []), (59, .if_icmp .ne 6, 3, [65, 0], []), (62, .bipush (-3), 2, [], []), (64, .ireturn, 1, [], []), (65, .iconst 0, 1, [0], []), (66, .istore 6, 2, [], []), (68, .iconst 0, 1, [0], []), (69, .istore 7, 2, [], []), (71, .iload 7, 2, [], [1, 1, 1, 1, 1, 1, 1, 1]), (73, .iload_n 3, 1, [], []), (74, .if_icmp .ge 46, 3, [120, 0], []), (77, .iload 7, 2, [], []), (79, .aload_n 0, 1, [], []), (80, .getfield 10, 3, [9, 0], []), (83, .getfield 112, 3, [0, 3], []), (86, .if_icmp .ge 34, 3, [120, 0], []), (89, .aload_n 0, 1, [], []), (90, .iload 7, 2, [], []), (92, .iload_n 1, 1, [], []), (93, .iload_n 2, 1, [], []), (94, .iload 4, 2, [], []), (96, .iload 7, 2, [], []), (98, .iload 5, 2, [], []), (100, .imul, 1, [], []), (101, .iadd, 1, [], []), (102, .invokestatic 115, 3, [2, 104, 2, 1], []), (105, .invokevirtual 119, 3, [4, 9, 105, 5, 1], []), (108, .ifCond .eq 6, 3, [114, 0], []), (111, .iinc 6 1, 3, [], []), (114, .iinc 7 1, 3, [], []), (117, .goto (-46), 3, [71, 1, 1, 1, 1, 1, 1, 1, 1, 1], []), (120, .iload 6, 2, [], []), (122, .ireturn, 1, [], [])]
def k_X9_offers : List mE := [(0, .aload_n 0, 1, [], []), (1, .getfield 10, 3, [9, 0], []), (4, .iload_n 1, 1, [], []), (5, .iload_n 2, 1, [], []), (6, .iload_n 3, 1, [], []), (7, .iload 4, 2, [], []), (9, .invokevirtual 123, 3, [5, 0, 8, 5, 1], []), (12, .istore 5, 2, [], []), (14, .iload 5, 2, [], []), (16, .ifCond .ge 6, 3, [22, 0], []), (19, .iload 5, 2, [], []), (21, .ireturn, 1, [], []), (22, .aload_n 0, 1, [], []), (23, .getfield 29, 3, [9, 3], []), (26, .aload_n 0, 1, [], []), (27, .getfield 10, 3, [9, 0], []), (30, .invokevirtual 78, 3, [2, 5, 46, 2, 0], []), (33, .aload_n 0, 1, [], []), (34, .getfield 10, 3, [9, 0], []), (37, .iload_n 1, 1, [], []), (38, .iload_n 2, 1, [], []), (39, .iload_n 3, 1, [], []), (40, .iload 4, 2, [], []), (42, .invokevirtual 127, 3, [5, 0, 9, 6, 1], []), (45, .ireturn, 1, [], [])]
def k_X9_slots : List mE := [(0, .iload_n 1, 1, [], []), (1, .iconst 1, 1, [1], []), (2, .if_icmp .lt 9, 3, [11, 0], []), (5, .iload_n 1, 1, [], []), (6, .bipush 60, 2, [60], []), (8, .if_icmp .le 5, 3, [13, 0], []), (11, .iconst (-1), 1, [], []), (12, .ireturn, 1, [], []), (13, .aload_n 0, 1, [], []), (14, .getfield 29, 3, [9, 3], []), (17, .aload_n 0, 1, [], []), (18, .getfield 10, 3, [9, 0], []), (21, .invokevirtual 78, 3, [2, 5, 46, 2, 0], []), (24, .aload_n 0, 1, [], []), (25, .getfield 10, 3, [9, 0], []), (28, .iconst 0, 1, [0], []), (29, .invokevirtual 130, 3, [2, 0, 4, 4, 1], []), (32, .istore_n 2, 1, [], []), (33, .aload_n 0, 1, [], []), (34, .getfield 10, 3, [9, 0], []), (37, .iconst 2, 1, [2], []), (38, .invokevirtual 130, 3, [2, 0, 4, 4, 1], []), (41, .istore_n 3, 1, [], []), (42, .aload_n 0, 1, [], []), (43, .getfield 10, 3, [9, 0], []), (46, .iconst 4, 1, [4], []), (47, .invokevirtual 130, 3, [2, 0, 4, 4, 1], []), (50, .istore 4, 2, [], []), (52, .aload_n 0, 1, [], []), (53, .getfield 10, 3, [9, 0], []), (56, .bipush 6, 2, [6], []), (58, .invokevirtual 130, 3, [2, 0, 4, 4, 1], []), (61, .istore 5, 2, [], []), (63, .iconst 0, 1, [0], []), (64, .istore 6, 2, [], []), (66, .iload 6, 2, [], [1, 1, 1, 1, 1, 1, 1]), (68, .iload_n 1, 1, [], []), (69, .if_icmp .ge 16, 3, [85, 0], []), (72, .aload_n 0, 1, [], []), (73, .getfield 10, 3, [9, 0], []), (76, .invokevirtual 133, 3, [1, 0, 13, 3, 0], []), (79, .iinc 6 1, 3, [], []), (82, .goto (-16), 3, [66, 1, 1, 1, 1, 1, 1, 1, 1], []), (85, .aload_n 0, 1, [], []), (86, .getfield 51, 3, [9, 7], []), (89, .aload_n 0, 1, [], []), (90, .getfield 10, 3, [9, 0], []), (93, .iconst 2, 1, [2], []), (94, .invokevirtual 130, 3, [2, 0, 4, 4, 1], []), (97, .iload_n 3, 1, [], []), (98, .isub, 1, [], []), (99, .i2l, 1, [], []), (100, .aload_n 0, 1, [], []), (101, .getfield 10, 3, [9, 0], []), (104, .iconst 4, 1, [4], []), (105, .invokevirtual 130, 3, [2, 0, 4, 4, 1], []), (108, .iload 4, 2, [], []), (110, .isub, 1, [], []), (111, .i2l, 1, [], []), (112, .aload_n 0, 1, [], []), (113, .getfield 10, 3, [9, 0], []), (116, .bipush 6, 2, [6], []), (118, .invokevirtual 130, 3, [2, 0, 4, 4, 1], []), (121, .iload 5, 2, [], []), (123, .isub, 1, [], []), (124, .i2l, 1, [], []), (125, .invokevirtual 136, 3, [4, 4, 44, 7, 0], []), (128, .aload_n 0, 1, [], []), (129, .getfield 10, 3, [9, 0], []), (132, .iconst 0, 1, [0], []), (133, .invokevirtual 130, 3, [2, 0, 4, 4, 1], []), (136, .iload_n 2, 1, [], []), (137, .isub, 1, [], []), (138, .ireturn, 1, [], [])]
def k_X9_draws : List mE := [(0, .aload_n 0, 1, [], []), (1, .getfield 29, 3, [9, 3], []), (4, .aload_n 0, 1, [], []), (5, .getfield 10, 3, [9, 0], []), (8, .invokevirtual 78, 3, [2, 5, 46, 2, 0], []), (11, .aload_n 0, 1, [], []), (12, .getfield 10, 3, [9, 0], []), (15, .invokevirtual 140, 3, [1, 0, 11, 5, 1], []), (18, .ireturn, 1, [], [])]
def k_X9_station : List mE := [(0, .aload_n 0, 1, [], []), (1, .iload_n 1, 1, [], []), (2, .invokevirtual 143, 3, [2, 9, 101, 2, 1], []), (5, .ifCond .eq 13, 3, [18, 0], []), (8, .iload_n 2, 1, [], []), (9, .ifCond .lt 9, 3, [18, 0], []), (12, .iload_n 2, 1, [], []), (13, .bipush 6, 2, [6], []), (15, .if_icmp .le 11, 3, [26, 0], []), (18, .new 98, 3, [], []), (21, .dup, 1, [], []), (22, .invokespecial 100, 3, [], []), (25, .athrow, 1, [], []), (26, .aload_n 0, 1, [], []), (27, .getfield 10, 3, [9, 0], []), (30, .getfield 146, 3, [0, 2], []), (33, .iload_n 1, 1, [], []), (34, .aaload, 1, [], []), (35, .astore_n 3, 1, [], []), (36, .iload_n 2, 1, [], []), (37, .tableswitch 77 0 5 #[39, 44, 49, 62, 67, 72], 39, [114, 76, 81, 86, 99, 104, 109], []), (76, .aload_n 3, 1, [], []), (77, .getfield 150, 3, [8, 7], []), (80, .ireturn, 1, [], []), (81, .aload_n 3, 1, [], []), (82, .getfield 155, 3, [8, 8], []), (85, .ireturn, 1, [], []), (86, .aload_n 3, 1, [], []), (87, .invokevirtual 158, 3, [1, 8, 60, 1, 1], []), (90, .ifCond .eq 7, 3, [97, 0], []), (93, .iconst 1, 1, [1], []), (94, .goto 4, 3, [98, 0], []), (97, .iconst 0, 1, [0], []), (98, .ireturn, 1, [], []), (99, .aload_n 3, 1, [], []), (100, .getfield 162, 3, [8, 11], []), (103, .ireturn, 1, [], []), (104, .aload_n 3, 1, [], []), (105, .getfield 165, 3, [8, 12], []), (108, .ireturn, 1, [], []), (109, .aload_n 3, 1, [], []), (110, .getfield 168, 3, [8, 6], []), (113, .ireturn, 1, [], []), (114, .aload_n 3, 1, [], []), (115, .invokevirtual 171, 3, [1, 8, 61, 3, 1], []), (118, .ireturn, 1, [], [])]
def k_X9_rank : List mE := [(0, .aload_n 0, 1, [], []), (1, .iload_n 1, 1, [], []), (2, .invokevirtual 143, 3, [2, 9, 101, 2, 1], []), (5, .ifCond .eq 19, 3, [24, 0], []), (8, .iload_n 2, 1, [], []), (9, .invokestatic 101, 3, [1, 102, 1, 1], []), (12, .ifCond .eq 12, 3, [24, 0], []), (15, .iload_n 3, 1, [], []), (16, .ifCond .lt 8, 3, [24, 0], []), (19, .iload_n 3, 1, [], []), (20, .iconst 3, 1, [3], []), (21, .if_icmp .le 11, 3, [32, 0], []), (24, .new 98, 3, [], []), (27, .dup, 1, [], []), (28, .invokespecial 100, 3, [], []), (31, .athrow, 1, [], []), (32, .aload_n 0, 1, [], []), (33, .getfield 10, 3, [9, 0], []), (36, .getfield 146, 3, [0, 2], []), (39, .iload_n 1, 1, [], []), (40, .aaload, 1, [], []), (41, .getfield 174, 3, [8, 0], []), (44, .iload_n 2, 1, [], []), (45, .aaload, 1, [], []), (46, .astore 4, 2, [], []), (48, .iload_n 3, 1, [], []), (49, .tableswitch 45 0 2 #[27, 33, 39], 27, [94, 76, 82, 88], []), (76, .aload 4, 2, [], []), (78, .getfield 178, 3, [6, 1], []), (81, .ireturn, 1, [], []), (82, .aload 4, 2, [], []), (84, .getfield 183, 3, [6, 3], []), (87, .ireturn, 1, [], []), (88, .aload 4, 2, [], []), (90, .getfield 186, 3, [6, 2], []), (93, .ireturn, 1, [], []), (94, .aload_n 0, 1, [], []), (95, .getfield 10, 3, [9, 0], []), (98, .iload_n 1, 1, [], []), (99, .iload_n 2, 1, [], []), (100, .invokevirtual 189, 3, [3, 0, 12, 4, 1], []), (103, .ifCond .eq 7, 3, [110, 0], []), (106, .iconst 1, 1, [1], []), (107, .goto 4, 3, [111, 0], []), (110, .iconst 0, 1, [0], []), (111, .ireturn, 1, [], [])]
def k_X9_frame : List mE := [(0, .aload_n 0, 1, [], []), (1, .iload_n 1, 1, [], []), (2, .invokevirtual 143, 3, [2, 9, 101, 2, 1], []), (5, .ifCond .eq 21, 3, [26, 0], []), (8, .iload_n 2, 1, [], []), (9, .invokestatic 101, 3, [1, 102, 1, 1], []), (12, .ifCond .eq 14, 3, [26, 0], []), (15, .iload 4, 2, [], []), (17, .ifCond .lt 9, 3, [26, 0], []), (20, .iload 4, 2, [], []), (22, .iconst 3, 1, [3], []), (23, .if_icmp .le 11, 3, [34, 0], []), (26, .new 98, 3, [], []), (29, .dup, 1, [], []), (30, .invokespecial 100, 3, [], []), (33, .athrow, 1, [], []), (34, .aload_n 0, 1, [], []), (35, .getfield 10, 3, [9, 0], []), (38, .getfield 146, 3, [0, 2], []), (41, .iload_n 1, 1, [], []), (42, .aaload, 1, [], []), (43, .getfield 174, 3, [8, 0], []), (46, .iload_n 2, 1, [], []), (47, .aaload, 1, [], []), (48, .astore 5, 2, [], []), (50, .iload_n 3, 1, [], []), (51, .ifCond .lt 12, 3, [63, 0], []), (54, .iload_n 3, 1, [], []), (55, .aload 5, 2, [], []), (57, .getfield 178, 3, [6, 1], []), (60, .if_icmp .lt 11, 3, [71, 0], []), (63, .new 98, 3, [], []), (66, .dup, 1, [], []), (67, .invokespecial 100, 3, [], []), (70, .athrow, 1, [], []), (71, .aload 5, 2, [], []), (73, .getfield 193, 3, [6, 0], []), (76, .iload_n 3, 1, [], []), (77, .iconst 5, 1, [5], []), (78, .imul, 1, [], []), (79, .iload 4, 2, [], []), (81, .iadd, 1, [], []), (82, .iaload, 1, [], []), (83, .ireturn, 1, [], [])]
def k_X9_exchange : List mE := [(0, .aload_n 0, 1, [], []), (1, .iload_n 1, 1, [], []), (2, .invokevirtual 143, 3, [2, 9, 101, 2, 1], []), (5, .ifCond .ne 5, 3, [10, 0], []), (8, .iconst (-1), 1, [], []), (9, .ireturn, 1, [], []), (10, .aload_n 0, 1, [], []), (11, .getfield 10, 3, [9, 0], []), (14, .getfield 146, 3, [0, 2], []), (17, .iload_n 1, 1, [], []), (18, .aaload, 1, [], []), (19, .getfield 196, 3, [8, 1], []), (22, .astore_n 3, 1, [], []), (23, .aload_n 3, 1, [], []), (24, .getfield 200, 3, [2, 0], []), (27, .ifCond .ne 5, 3, [32, 0], []), (30, .iconst (-1), 1, [], []), (31, .ireturn, 1, [], []), (32, .iload_n 2, 1, [], []), (33, .tableswitch 90 0 6 #[43, 48, 53, 58, 63, 68, 85], 43, [123, 76, 81, 86, 91, 96, 101, 118], []), (76, .aload_n 3, 1, [], []), (77, .getfield 206, 3, [2, 1], []), (80, .ireturn, 1, [], []), (81, .aload_n 3, 1, [], []), (82, .getfield 209, 3, [2, 2], []), (85, .ireturn, 1, [], []), (86, .aload_n 3, 1, [], []), (87, .getfield 212, 3, [2, 3], []), (90, .ireturn, 1, [], []), (91, .aload_n 3, 1, [], []), (92, .getfield 214, 3, [2, 4], []), (95, .ireturn, 1, [], []), (96, .aload_n 3, 1, [], []), (97, .getfield 217, 3, [2, 5], []), (100, .ireturn, 1, [], []), (101, .aload_n 3, 1, [], []), (102, .getfield 217, 3, [2, 5], []), (105, .iconst 2, 1, [2], []), (106, .if_icmp .ne 10, 3, [116, 0], []), (109, .aload_n 3, 1, [], []), (110, .getfield 220, 3, [2, 6], []), (113, .goto 4, 3, [117, 0], []), (116, .iconst 1, 1, [1], []), (117, .ireturn, 1, [], []), (118, .aload_n 3, 1, [], []), (119, .getfield 223, 3, [2, 7], []), (122, .ireturn, 1, [], []), (123, .iconst (-1), 1, [], []), (124, .ireturn, 1, [], [])]
def k_X9_sent : List mE := [(0, .aload_n 0, 1, [], []), (1, .getfield 10, 3, [9, 0], []), (4, .getfield 226, 3, [0, 4], []), (7, .ifCond .ne 6, 3, [13, 0], []), (10, .bipush (-2), 2, [], []), (12, .ireturn, 1, [], []), (13, .aload_n 0, 1, [], []), (14, .getfield 51, 3, [9, 7], []), (17, .aload_n 0, 1, [], []), (18, .getfield 10, 3, [9, 0], []), (21, .getfield 229, 3, [0, 6], []), (24, .i2l, 1, [], []), (25, .aload_n 0, 1, [], []), (26, .getfield 10, 3, [9, 0], []), (29, .getfield 232, 3, [0, 7], []), (32, .i2l, 1, [], []), (33, .invokevirtual 235, 3, [3, 4, 43, 5, 0], []), (36, .aload_n 0, 1, [], []), (37, .getfield 10, 3, [9, 0], []), (40, .getfield 239, 3, [0, 5], []), (43, .ireturn, 1, [], [])]
def k_X9_spanOf : List mE := [(0, .aload_n 0, 1, [], []), (1, .iload_n 1, 1, [], []), (2, .invokevirtual 143, 3, [2, 9, 101, 2, 1], []), (5, .ifCond .ne 5, 3, [10, 0], []), (8, .iconst (-1), 1, [], []), (9, .ireturn, 1, [], []), (10, .aload_n 0, 1, [], []), (11, .getfield 10, 3, [9, 0], []), (14, .getfield 146, 3, [0, 2], []), (17, .iload_n 1, 1, [], []), (18, .aaload, 1, [], []), (19, .astore_n 2, 1, [], []), (20, .aload_n 2, 1, [], []), (21, .getfield 155, 3, [8, 8], []), (24, .aload_n 0, 1, [], []), (25, .getfield 10, 3, [9, 0], []), (28, .getfield 226, 3, [0, 4], []), (31, .if_icmp .gt 6, 3, [37, 0], []), (34, .bipush (-2), 2, [], []), (36, .ireturn, 1, [], []), (37, .aload_n 0, 1, [], []), (38, .getfield 51, 3, [9, 7], []), (41, .aload_n 2, 1, [], []), (42, .getfield 242, 3, [8, 10], []), (45, .i2l, 1, [], []), (46, .aload_n 2, 1, [], []), (47, .getfield 155, 3, [8, 8], []), (50, .aload_n 0, 1, [], []), (51, .getfield 10, 3, [9, 0], []), (54, .getfield 226, 3, [0, 4], []), (57, .isub, 1, [], []), (58, .i2l, 1, [], []), (59, .invokevirtual 235, 3, [3, 4, 43, 5, 0], []), (62, .aload_n 2, 1, [], []), (63, .getfield 245, 3, [8, 9], []), (66, .ireturn, 1, [], [])]
def k_X9_rate : List mE := [(0, .aload_n 0, 1, [], []), (1, .iload_n 1, 1, [], []), (2, .invokevirtual 143, 3, [2, 9, 101, 2, 1], []), (5, .ifCond .eq 16, 3, [21, 0], []), (8, .aload_n 0, 1, [], []), (9, .iload_n 2, 1, [], []), (10, .invokevirtual 143, 3, [2, 9, 101, 2, 1], []), (13, .ifCond .eq 8, 3, [21, 0], []), (16, .iload_n 1, 1, [], []), (17, .iload_n 2, 1, [], []), (18, .if_icmp .ne 5, 3, [23, 0], []), (21, .iconst (-1), 1, [], []), (22, .ireturn, 1, [], []), (23, .aload_n 0, 1, [], []), (24, .getfield 10, 3, [9, 0], []), (27, .iload_n 1, 1, [], []), (28, .iload_n 2, 1, [], []), (29, .invokevirtual 248, 3, [3, 0, 3, 3, 1], []), (32, .ifCond .ne 6, 3, [38, 0], []), (35, .bipush (-2), 2, [], []), (37, .ireturn, 1, [], []), (38, .aload_n 0, 1, [], []), (39, .getfield 10, 3, [9, 0], []), (42, .getfield 146, 3, [0, 2], []), (45, .iload_n 1, 1, [], []), (46, .aaload, 1, [], []), (47, .astore_n 3, 1, [], []), (48, .aload_n 0, 1, [], []), (49, .getfield 51, 3, [9, 7], []), (52, .aload_n 3, 1, [], []), (53, .getfield 251, 3, [8, 5], []), (56, .iload_n 2, 1, [], []), (57, .iaload, 1, [], []), (58, .i2l, 1, [], []), (59, .aload_n 3, 1, [], []), (60, .getfield 254, 3, [8, 3], []), (63, .iload_n 2, 1, [], []), (64, .iaload, 1, [], []), (65, .i2l, 1, [], []), (66, .invokevirtual 235, 3, [3, 4, 43, 5, 0], []), (69, .aload_n 3, 1, [], []), (70, .getfield 257, 3, [8, 4], []), (73, .iload_n 2, 1, [], []), (74, .iaload, 1, [], []), (75, .ireturn, 1, [], [])]
def k_X9_hidden : List mE := [(0, .aload_n 0, 1, [], []), (1, .getfield 51, 3, [9, 7], []), (4, .invokevirtual 260, 3, [1, 4, 40, 1, 0], []), (7, .iconst 0, 1, [0], []), (8, .istore_n 1, 1, [], []), (9, .iload_n 1, 1, [], [1, 1, 0, 0]), (10, .aload_n 0, 1, [], []), (11, .getfield 10, 3, [9, 0], []), (14, .getfield 112, 3, [0, 3], []), (17, .if_icmp .ge 96, 3, [113, 0], []), (20, .iload_n 1, 1, [], []), (21, .iconst 1, 1, [1], []), (22, .iadd, 1, [], []), (23, .istore_n 2, 1, [], []), (24, .iload_n 2, 1, [], [1, 1, 1, 0]), (25, .aload_n 0, 1, [], []), (26, .getfield 10, 3, [9, 0], []), (29, .getfield 112, 3, [0, 3], []), (32, .if_icmp .ge 75, 3, [107, 0], []), (35, .aload_n 0, 1, [], []), (36, .getfield 10, 3, [9, 0], []), (39, .getfield 146, 3, [0, 2], []), (42, .iload_n 1, 1, [], []), (43, .aaload, 1, [], []), (44, .getfield 168, 3, [8, 6], []), (47, .aload_n 0, 1, [], []), (48, .getfield 10, 3, [9, 0], []), (51, .getfield 146, 3, [0, 2], []), (54, .iload_n 2, 1, [], []), (55, .aaload, 1, [], []), (56, .getfield 168, 3, [8, 6], []), (59, .iand, 1, [], []), (60, .ifCond .eq 7, 3, [67, 0], []), (63, .iconst 1, 1, [1], []), (64, .goto 4, 3, [68, 0], []), (67, .iconst 0, 1, [0], []), (68, .istore_n 3, 1, [], []), (69, .iload_n 3, 1, [], []), (70, .ifCond .eq 31, 3, [101, 0], []), (73, .aload_n 0, 1, [], []), (74, .getfield 10, 3, [9, 0], []), (77, .iload_n 1, 1, [], []), (78, .iload_n 2, 1, [], []), (79, .invokevirtual 248, 3, [3, 0, 3, 3, 1], []), (82, .ifCond .ne 19, 3, [101, 0], []), (85, .aload_n 0, 1, [], []), (86, .getfield 51, 3, [9, 7], []), (89, .ldc2_w 263, 3, [6], []), (92, .iload_n 1, 1, [], []), (93, .i2l, 1, [], []), (94, .lmul, 1, [], []), (95, .iload_n 2, 1, [], []), (96, .i2l, 1, [], []), (97, .ladd, 1, [], []), (98, .invokevirtual 265, 3, [2, 4, 41, 3, 0], []), (101, .iinc 2 1, 3, [], []), (104, .goto (-80), 3, [24, 1, 1, 1, 1, 0], []), (107, .iinc 1 1, 3, [], []), (110, .goto (-101), 3, [9, 1, 1, 1, 0, 0], []), (113, .aload_n 0, 1, [], []), (114, .getfield 51, 3, [9, 7], []), (117, .getfield 269, 3, [4, 1], []), (120, .ireturn, 1, [], [])]
def k_X9_tally : List mE := [(0, .aload_n 0, 1, [], []), (1, .iload_n 1, 1, [], []), (2, .invokevirtual 143, 3, [2, 9, 101, 2, 1], []), (5, .ifCond .eq 13, 3, [18, 0], []), (8, .iload_n 2, 1, [], []), (9, .ifCond .lt 9, 3, [18, 0], []), (12, .iload_n 2, 1, [], []), (13, .bipush 9, 2, [9], []), (15, .if_icmp .lt 11, 3, [26, 0], []), (18, .new 98, 3, [], []), (21, .dup, 1, [], []), (22, .invokespecial 100, 3, [], []), (25, .athrow, 1, [], []), (26, .aload_n 0, 1, [], []), (27, .getfield 10, 3, [9, 0], []), (30, .getfield 146, 3, [0, 2], []), (33, .iload_n 1, 1, [], []), (34, .aaload, 1, [], []), (35, .getfield 270, 3, [8, 2], []), (38, .getfield 274, 3, [3, 0], []), (41, .iload_n 2, 1, [], []), (42, .iaload, 1, [], []), (43, .ireturn, 1, [], [])]
def k_X9_why : List mE := [(0, .aload_n 0, 1, [], []), (1, .iload_n 1, 1, [], []), (2, .invokevirtual 143, 3, [2, 9, 101, 2, 1], []), (5, .ifCond .ne 5, 3, [10, 0], []), (8, .iconst (-1), 1, [], []), (9, .ireturn, 1, [], []), (10, .aload_n 0, 1, [], []), (11, .getfield 10, 3, [9, 0], []), (14, .getfield 146, 3, [0, 2], []), (17, .iload_n 1, 1, [], []), (18, .aaload, 1, [], []), (19, .getfield 270, 3, [8, 2], []), (22, .astore_n 2, 1, [], []), (23, .aload_n 2, 1, [], []), (24, .getfield 279, 3, [3, 3], []), (27, .ifCond .ne 6, 3, [33, 0], []), (30, .bipush (-2), 2, [], []), (32, .ireturn, 1, [], []), (33, .aload_n 0, 1, [], []), (34, .getfield 51, 3, [9, 7], []), (37, .aload_n 2, 1, [], []), (38, .getfield 282, 3, [3, 4], []), (41, .i2l, 1, [], []), (42, .aload_n 2, 1, [], []), (43, .getfield 285, 3, [3, 5], []), (46, .i2l, 1, [], []), (47, .invokevirtual 235, 3, [3, 4, 43, 5, 0], []), (50, .aload_n 2, 1, [], []), (51, .getfield 279, 3, [3, 3], []), (54, .ireturn, 1, [], [])]
def k_X9_spoilt : List mE := [(0, .aload_n 0, 1, [], []), (1, .iload_n 1, 1, [], []), (2, .invokevirtual 143, 3, [2, 9, 101, 2, 1], []), (5, .ifCond .eq 16, 3, [21, 0], []), (8, .aload_n 0, 1, [], []), (9, .iload_n 2, 1, [], []), (10, .invokevirtual 143, 3, [2, 9, 101, 2, 1], []), (13, .ifCond .eq 8, 3, [21, 0], []), (16, .iload_n 1, 1, [], []), (17, .iload_n 2, 1, [], []), (18, .if_icmp .ne 5, 3, [23, 0], []), (21, .iconst (-1), 1, [], []), (22, .ireturn, 1, [], []), (23, .aload_n 0, 1, [], []), (24, .getfield 10, 3, [9, 0], []), (27, .getfield 146, 3, [0, 2], []), (30, .iload_n 1, 1, [], []), (31, .aaload, 1, [], []), (32, .getfield 270, 3, [8, 2], []), (35, .astore_n 3, 1, [], []), (36, .aload_n 0, 1, [], []), (37, .getfield 51, 3, [9, 7], []), (40, .aload_n 3, 1, [], []), (41, .getfield 288, 3, [3, 2], []), (44, .i2l, 1, [], []), (45, .invokevirtual 291, 3, [2, 4, 42, 3, 0], []), (48, .aload_n 3, 1, [], []), (49, .getfield 294, 3, [3, 1], []), (52, .iload_n 2, 1, [], []), (53, .iaload, 1, [], []), (54, .ireturn, 1, [], [])]
def k_X9_held : List mE := [(0, .aload_n 0, 1, [], []), (1, .iload_n 1, 1, [], []), (2, .invokevirtual 143, 3, [2, 9, 101, 2, 1], []), (5, .ifCond .ne 5, 3, [10, 0], []), (8, .iconst (-1), 1, [], []), (9, .ireturn, 1, [], []), (10, .aload_n 0, 1, [], []), (11, .getfield 10, 3, [9, 0], []), (14, .getfield 146, 3, [0, 2], []), (17, .iload_n 1, 1, [], []), (18, .aaload, 1, [], []), (19, .getfield 270, 3, [8, 2], []), (22, .astore_n 2, 1, [], []), (23, .aload_n 0, 1, [], []), (24, .getfield 51, 3, [9, 7], []), (27, .aload_n 2, 1, [], []), (28, .getfield 297, 3, [3, 6], []), (31, .i2l, 1, [], []), (32, .aload_n 2, 1, [], []), (33, .getfield 300, 3, [3, 7], []), (36, .i2l, 1, [], []), (37, .aload_n 2, 1, [], []), (38, .getfield 303, 3, [3, 8], []), (41, .i2l, 1, [], []), (42, .invokevirtual 136, 3, [4, 4, 44, 7, 0], []), (45, .aload_n 2, 1, [], []), (46, .getfield 297, 3, [3, 6], []), (49, .aload_n 2, 1, [], []), (50, .getfield 300, 3, [3, 7], []), (53, .iadd, 1, [], []), (54, .aload_n 2, 1, [], []), (55, .getfield 303, 3, [3, 8], []), (58, .iadd, 1, [], []), (59, .ireturn, 1, [], [])]
def k_X9_even : List mE := [(0, .lconst 0, 1, [0], []), (1, .lstore_n 1, 1, [], []), (2, .lconst 0, 1, [0], []), (3, .lstore_n 3, 1, [], []), (4, .iconst 0, 1, [0], []), (5, .istore 5, 2, [], []), (7, .iload 5, 2, [], [1, 1, 0, 1, 0, 1, 0, 0]), (9, .aload_n 0, 1, [], []), (10, .getfield 10, 3, [9, 0], []), (13, .getfield 112, 3, [0, 3], []), (16, .if_icmp .ge 43, 3, [59, 0], []), (19, .aload_n 0, 1, [], []), (20, .getfield 10, 3, [9, 0], []), (23, .getfield 146, 3, [0, 2], []), (26, .iload 5, 2, [], []), (28, .aaload, 1, [], []), (29, .getfield 270, 3, [8, 2], []), (32, .getfield 274, 3, [3, 0], []), (35, .iconst 1, 1, [1], []), (36, .iaload, 1, [], []), (37, .i2l, 1, [], []), (38, .lstore 6, 2, [], []), (40, .lload_n 1, 1, [], []), (41, .lload 6, 2, [], []), (43, .ladd, 1, [], []), (44, .lstore_n 1, 1, [], []), (45, .lload_n 3, 1, [], []), (46, .lload 6, 2, [], []), (48, .lload 6, 2, [], []), (50, .lmul, 1, [], []), (51, .ladd, 1, [], []), (52, .lstore_n 3, 1, [], []), (53, .iinc 5 1, 3, [], []), (56, .goto (-49), 3, [7, 1, 1, 1, 0, 1, 0, 1, 0, 0], []), (59, .lload_n 1, 1, [], []), (60, .lconst 0, 1, [0], []), (61, .lcmp, 1, [], []), (62, .ifCond .ne 6, 3, [68, 0], []), (65, .bipush (-2), 2, [], []), (67, .ireturn, 1, [], []), (68, .aload_n 0, 1, [], []), (69, .getfield 51, 3, [9, 7], []), (72, .lload_n 1, 1, [], []), (73, .lload_n 1, 1, [], []), (74, .lmul, 1, [], []), (75, .aload_n 0, 1, [], []), (76, .getfield 10, 3, [9, 0], []), (79, .getfield 112, 3, [0, 3], []), (82, .i2l, 1, [], []), (83, .lload_n 3, 1, [], []), (84, .lmul, 1, [], []), (85, .invokevirtual 306, 3, [3, 4, 45, 12, 0], []), (88, .iconst 0, 1, [0], []), (89, .ireturn, 1, [], [])]
def k_X9_busy : List mE := [(0, .aload_n 0, 1, [], []), (1, .getfield 51, 3, [9, 7], []), (4, .aload_n 0, 1, [], []), (5, .getfield 10, 3, [9, 0], []), (8, .getfield 309, 3, [0, 10], []), (11, .i2l, 1, [], []), (12, .aload_n 0, 1, [], []), (13, .getfield 10, 3, [9, 0], []), (16, .getfield 312, 3, [0, 11], []), (19, .i2l, 1, [], []), (20, .invokevirtual 235, 3, [3, 4, 43, 5, 0], []), (23, .aload_n 0, 1, [], []), (24, .getfield 10, 3, [9, 0], []), (27, .getfield 315, 3, [0, 9], []), (30, .ireturn, 1, [], [])]
def k_X9_odds : List mE := [(0, .iload_n 1, 1, [], []), (1, .iconst 1, 1, [1], []), (2, .if_icmp .lt 18, 3, [20, 0], []), (5, .iload_n 1, 1, [], []), (6, .iconst 5, 1, [5], []), (7, .if_icmp .gt 13, 3, [20, 0], []), (10, .iload_n 2, 1, [], []), (11, .ifCond .lt 9, 3, [20, 0], []), (14, .iload_n 2, 1, [], []), (15, .bipush 31, 2, [31], []), (17, .if_icmp .le 5, 3, [22, 0], []), (20, .iconst (-1), 1, [], []), (21, .ireturn, 1, [], []), (22, .aload_n 0, 1, [], []), (23, .getfield 51, 3, [9, 7], []), (26, .iload_n 1, 1, [], []), (27, .iload_n 2, 1, [], []), (28, .invokestatic 318, 3, [2, 106, 5, 2], []), (31, .iload_n 2, 1, [], []), (32, .iconst 1, 1, [1], []), (33, .iadd, 1, [], []), (34, .iload_n 1, 1, [], []), (35, .invokestatic 322, 3, [2, 107, 5, 2], []), (38, .invokevirtual 306, 3, [3, 4, 45, 12, 0], []), (41, .iconst 0, 1, [0], []), (42, .ireturn, 1, [], [])]
def k_X9_window : List mE := [(0, .iload_n 1, 1, [], []), (1, .iconst 1, 1, [1], []), (2, .if_icmp .lt 18, 3, [20, 0], []), (5, .iload_n 1, 1, [], []), (6, .iconst 5, 1, [5], []), (7, .if_icmp .gt 13, 3, [20, 0], []), (10, .iload_n 2, 1, [], []), (11, .ifCond .lt 9, 3, [20, 0], []), (14, .iload_n 2, 1, [], []), (15, .bipush 100, 2, [100], []), (17, .if_icmp .le 5, 3, [22, 0], []), (20, .iconst (-1), 1, [], []), (21, .ireturn, 1, [], []), (22, .iconst 0, 1, [0], []), (23, .istore_n 3, 1, [], []), (24, .iload_n 3, 1, [], [0, 1, 1, 1]), (25, .bipush 31, 2, [31], []), (27, .if_icmp .gt 34, 3, [61, 0], []), (30, .ldc2_w 325, 3, [100], []), (33, .iload_n 1, 1, [], []), (34, .iload_n 3, 1, [], []), (35, .invokestatic 318, 3, [2, 106, 5, 2], []), (38, .lmul, 1, [], []), (39, .iload_n 2, 1, [], []), (40, .i2l, 1, [], []), (41, .iload_n 3, 1, [], []), (42, .iconst 1, 1, [1], []), (43, .iadd, 1, [], []), (44, .iload_n 1, 1, [], []), (45, .invokestatic 322, 3, [2, 107, 5, 2], []), (48, .lmul, 1, [], []), (49, .lcmp, 1, [], []), (50, .ifCond .lt 5, 3, [55, 0], []), (53, .iload_n 3, 1, [], []), (54, .ireturn, 1, [], []), (55, .iinc 3 1, 3, [], []), (58, .goto (-34), 3, [24, 1, 0, 1, 1, 1], []), (61, .bipush (-2), 2, [], []), (63, .ireturn, 1, [], [])]
def k_X9_ahead : List mE := [(0, .iload_n 1, 1, [], []), (1, .iconst 1, 1, [1], []), (2, .if_icmp .lt 18, 3, [20, 0], []), (5, .iload_n 1, 1, [], []), (6, .bipush 60, 2, [60], []), (8, .if_icmp .gt 12, 3, [20, 0], []), (11, .iload_n 2, 1, [], []), (12, .ifCond .lt 8, 3, [20, 0], []), (15, .iload_n 2, 1, [], []), (16, .iconst 4, 1, [4], []), (17, .if_icmp .le 5, 3, [22, 0], []), (20, .iconst (-1), 1, [], []), (21, .ireturn, 1, [], []), (22, .aload_n 0, 1, [], []), (23, .getfield 16, 3, [9, 1], []), (26, .aload_n 0, 1, [], []), (27, .getfield 10, 3, [9, 0], []), (30, .invokevirtual 327, 3, [2, 0, 0, 3, 0], []), (33, .iconst 0, 1, [0], []), (34, .istore_n 3, 1, [], []), (35, .iload_n 3, 1, [], [1, 1, 1, 1]), (36, .iload_n 1, 1, [], []), (37, .if_icmp .ge 16, 3, [53, 0], []), (40, .aload_n 0, 1, [], []), (41, .getfield 16, 3, [9, 1], []), (44, .invokevirtual 133, 3, [1, 0, 13, 3, 0], []), (47, .iinc 3 1, 3, [], []), (50, .goto (-15), 3, [35, 1, 1, 1, 1, 1], []), (53, .iload_n 2, 1, [], []), (54, .tableswitch 92 0 3 #[30, 48, 66, 84], 30, [146, 84, 102, 120, 138], []), (84, .aload_n 0, 1, [], []), (85, .getfield 16, 3, [9, 1], []), (88, .iconst 0, 1, [0], []), (89, .invokevirtual 130, 3, [2, 0, 4, 4, 1], []), (92, .aload_n 0, 1, [], []), (93, .getfield 10, 3, [9, 0], []), (96, .iconst 0, 1, [0], []), (97, .invokevirtual 130, 3, [2, 0, 4, 4, 1], []), (100, .isub, 1, [], []), (101, .ireturn, 1, [], []), (102, .aload_n 0, 1, [], []), (103, .getfield 16, 3, [9, 1], []), (106, .iconst 2, 1, [2], []), (107, .invokevirtual 130, 3, [2, 0, 4, 4, 1], []), (110, .aload_n 0, 1, [], []), (111, .getfield 10, 3, [9, 0], []), (114, .iconst 2, 1, [2], []), (115, .invokevirtual 130, 3, [2, 0, 4, 4, 1], []), (118, .isub, 1, [], []), (119, .ireturn, 1, [], []), (120, .aload_n 0, 1, [], []), (121, .getfield 16, 3, [9, 1], []), (124, .iconst 4, 1, [4], []), (125, .invokevirtual 130, 3, [2, 0, 4, 4, 1], []), (128, .aload_n 0, 1, [], []), (129, .getfield 10, 3, [9, 0], []), (132, .iconst 4, 1, [4], []), (133, .invokevirtual 130, 3, [2, 0, 4, 4, 1], []), (136, .isub, 1, [], []), (137, .ireturn, 1, [], []), (138, .aload_n 0, 1, [], []), (139, .getfield 16, 3, [9, 1], []), (142, .invokevirtual 330, 3, [1, 0, 5, 3, 1], []), (145, .ireturn, 1, [], []), (146, .aload_n 0, 1, [], []), (147, .getfield 16, 3, [9, 1], []), (150, .getfield 239, 3, [0, 5], []), (153, .ireturn, 1, [], [])]
def k_X9_quiet : List mE := [(0, .aload_n 0, 1, [], []), (1, .getfield 16, 3, [9, 1], []), (4, .aload_n 0, 1, [], []), (5, .getfield 10, 3, [9, 0], []), (8, .invokevirtual 327, 3, [2, 0, 0, 3, 0], []), (11, .iconst 0, 1, [0], []), (12, .istore_n 1, 1, [], []), (13, .iload_n 1, 1, [], [1, 1]), (14, .bipush 99, 2, [99], []), (16, .if_icmp .gt 63, 3, [79, 0], []), (19, .aload_n 0, 1, [], []), (20, .getfield 16, 3, [9, 1], []), (23, .invokevirtual 330, 3, [1, 0, 5, 3, 1], []), (26, .ifCond .ne 40, 3, [66, 0], []), (29, .aload_n 0, 1, [], []), (30, .getfield 16, 3, [9, 1], []), (33, .invokevirtual 104, 3, [1, 0, 6, 3, 1], []), (36, .ifCond .ne 30, 3, [66, 0], []), (39, .aload_n 0, 1, [], []), (40, .getfield 51, 3, [9, 7], []), (43, .aload_n 0, 1, [], []), (44, .getfield 16, 3, [9, 1], []), (47, .iconst 0, 1, [0], []), (48, .invokevirtual 130, 3, [2, 0, 4, 4, 1], []), (51, .aload_n 0, 1, [], []), (52, .getfield 10, 3, [9, 0], []), (55, .iconst 0, 1, [0], []), (56, .invokevirtual 130, 3, [2, 0, 4, 4, 1], []), (59, .isub, 1, [], []), (60, .i2l, 1, [], []), (61, .invokevirtual 291, 3, [2, 4, 42, 3, 0], []), (64, .iload_n 1, 1, [], []), (65, .ireturn, 1, [], []), (66, .aload_n 0, 1, [], []), (67, .getfield 16, 3, [9, 1], []), (70, .invokevirtual 133, 3, [1, 0, 13, 3, 0], []), (73, .iinc 1 1, 3, [], []), (76, .goto (-63), 3, [13, 1, 1, 1], []), (79, .bipush (-2), 2, [], []), (81, .ireturn, 1, [], [])]
def k_X9_next : List mE := [(0, .aload_n 0, 1, [], []), (1, .getfield 16, 3, [9, 1], []), (4, .aload_n 0, 1, [], []), (5, .getfield 10, 3, [9, 0], []), (8, .invokevirtual 327, 3, [2, 0, 0, 3, 0], []), (11, .iconst 0, 1, [0], []), (12, .istore_n 1, 1, [], []), (13, .iload_n 1, 1, [], [1, 1]), (14, .bipush 99, 2, [99], []), (16, .if_icmp .gt 43, 3, [59, 0], []), (19, .aload_n 0, 1, [], []), (20, .getfield 16, 3, [9, 1], []), (23, .invokevirtual 133, 3, [1, 0, 13, 3, 0], []), (26, .aload_n 0, 1, [], []), (27, .getfield 16, 3, [9, 1], []), (30, .getfield 331, 3, [0, 8], []), (33, .ifCond .eq 20, 3, [53, 0], []), (36, .aload_n 0, 1, [], []), (37, .getfield 51, 3, [9, 7], []), (40, .aload_n 0, 1, [], []), (41, .getfield 16, 3, [9, 1], []), (44, .getfield 331, 3, [0, 8], []), (47, .i2l, 1, [], []), (48, .invokevirtual 291, 3, [2, 4, 42, 3, 0], []), (51, .iload_n 1, 1, [], []), (52, .ireturn, 1, [], []), (53, .iinc 1 1, 3, [], []), (56, .goto (-43), 3, [13, 1, 1, 1], []), (59, .bipush (-2), 2, [], []), (61, .ireturn, 1, [], [])]
def k_X9_soonest : List mE := [(0, .aload_n 0, 1, [], []), (1, .iload_n 1, 1, [], []), (2, .invokevirtual 143, 3, [2, 9, 101, 2, 1], []), (5, .ifCond .ne 5, 3, [10, 0], []), (8, .iconst (-1), 1, [], []), (9, .ireturn, 1, [], []), (10, .bipush (-2), 2, [], []), (12, .istore_n 2, 1, [], []), (13, .bipush 100, 2, [100], []), (15, .istore_n 3, 1, [], []), (16, .iconst 0, 1, [0], []), (17, .istore 4, 2, [], []), (19, .iload 4, 2, [], [1, 1, 1, 1, 1, 0]), (21, .aload_n 0, 1, [], []), (22, .getfield 10, 3, [9, 0], []), (25, .getfield 112, 3, [0, 3], []), (28, .if_icmp .ge 45, 3, [73, 0], []), (31, .aload_n 0, 1, [], []), (32, .getfield 10, 3, [9, 0], []), (35, .iload 4, 2, [], []), (37, .iconst 0, 1, [0], []), (38, .iload_n 1, 1, [], []), (39, .iconst 1, 1, [1], []), (40, .invokevirtual 123, 3, [5, 0, 8, 5, 1], []), (43, .ifCond .ne 24, 3, [67, 0], []), (46, .aload_n 0, 1, [], []), (47, .iload 4, 2, [], []), (49, .iload_n 1, 1, [], []), (50, .invokevirtual 334, 3, [3, 9, 108, 4, 1], []), (53, .istore 5, 2, [], []), (55, .iload 5, 2, [], []), (57, .iload_n 3, 1, [], []), (58, .if_icmp .ge 9, 3, [67, 0], []), (61, .iload 5, 2, [], []), (63, .istore_n 3, 1, [], []), (64, .iload 4, 2, [], []), (66, .istore_n 2, 1, [], []), (67, .iinc 4 1, 3, [], []), (70, .goto (-51), 3, [19, 1, 1, 1, 1, 1, 1, 0], []), (73, .iload_n 2, 1, [], []), (74, .ifCond .lt 12, 3, [86, 0], []), (77, .aload_n 0, 1, [], []), (78, .getfield 51, 3, [9, 7], []), (81, .iload_n 3, 1, [], []), (82, .i2l, 1, [], []), (83, .invokevirtual 291, 3, [2, 4, 42, 3, 0], []), (86, .iload_n 2, 1, [], []), (87, .ireturn, 1, [], [])]
def k_X9_day : List mE := [(0, .aload_n 0, 1, [], []), (1, .invokevirtual 337, 3, [1, 9, 110, 4, 1], []), (4, .istore_n 1, 1, [], []), (5, .iload_n 1, 1, [], []), (6, .ifCond .lt 15, 3, [21, 0], []), (9, .aload_n 0, 1, [], []), (10, .getfield 44, 3, [9, 6], []), (13, .iconst 0, 1, [0], []), (14, .putfield 63, 3, [7, 1], []), (17, .iconst (-1), 1, [], []), (18, .iload_n 1, 1, [], []), (19, .isub, 1, [], []), (20, .ireturn, 1, [], []), (21, .aload_n 0, 1, [], []), (22, .getfield 16, 3, [9, 1], []), (25, .aload_n 0, 1, [], []), (26, .getfield 10, 3, [9, 0], []), (29, .invokevirtual 327, 3, [2, 0, 0, 3, 0], []), (32, .iconst 0, 1, [0], []), (33, .istore_n 2, 1, [], []), (34, .iconst 0, 1, [0], []), (35, .istore_n 3, 1, [], []), (36, .iconst 0, 1, [0], []), (37, .istore 4, 2, [], []), (39, .iconst 0, 1, [0], []), (40, .istore 5, 2, [], []), (42, .iload 5, 2, [], [1, 0, 1, 1, 1, 1]), (44, .bipush 80, 2, [80], []), (46, .if_icmp .ge 63, 3, [109, 0], []), (49, .iload 4, 2, [], []), (51, .aload_n 0, 1, [], []), (52, .getfield 44, 3, [9, 6], []), (55, .getfield 63, 3, [7, 1], []), (58, .if_icmp .ge 51, 3, [109, 0], []), (61, .iload_n 3, 1, [], []), (62, .ifCond .ne 47, 3, [109, 0], []), (65, .aload_n 0, 1, [], []), (66, .iload 4, 2, [], []), (68, .invokevirtual 340, 3, [2, 9, 112, 7, 1], []), (71, .ifCond .ne 7, 3, [78, 0], []), (74, .iconst 1, 1, [1], []), (75, .goto 4, 3, [79, 0], []), (78, .iconst 0, 1, [0], []), (79, .istore_n 3, 1, [], []), (80, .iload_n 2, 1, [], []), (81, .iload_n 3, 1, [], []), (82, .ifCond .eq 7, 3, [89, 0], []), (85, .iconst 0, 1, [0], []), (86, .goto 4, 3, [90, 0], []), (89, .iconst 1, 1, [1], []), (90, .iadd, 1, [], []), (91, .istore_n 2, 1, [], []), (92, .iload 4, 2, [], []), (94, .aload_n 0, 1, [], []), (95, .iload 4, 2, [], []), (97, .invokevirtual 343, 3, [2, 9, 109, 3, 1], []), (100, .iadd, 1, [], []), (101, .istore 4, 2, [], []), (103, .iinc 5 1, 3, [], []), (106, .goto (-64), 3, [42, 1, 1, 0, 1, 1, 1, 1], []), (109, .aload_n 0, 1, [], [1, 0, 1, 1, 0, 0]), (110, .getfield 44, 3, [9, 6], []), (113, .iconst 0, 1, [0], []), (114, .putfield 63, 3, [7, 1], []), (117, .aload_n 0, 1, [], []), (118, .getfield 51, 3, [9, 7], []), (121, .iload_n 3, 1, [], []), (122, .ifCond .eq 7, 3, [129, 0], []), (125, .lconst 1, 1, [1], []), (126, .goto 4, 3, [130, 0], []), (129, .lconst 0, 1, [0], []), (130, .aload_n 0, 1, [], []), (131, .getfield 10, 3, [9, 0], []), (134, .iconst 0, 1, [0], []), (135, .invokevirtual 130, 3, [2, 0, 4, 4, 1], []), (138, .aload_n 0, 1, [], []), (139, .getfield 16, 3, [9, 1], []), (142, .iconst 0, 1, [0], []), (143, .invokevirtual 130, 3, [2, 0, 4, 4, 1], []), (146, .isub, 1, [], []), (147, .i2l, 1, [], []), (148, .invokevirtual 235, 3, [3, 4, 43, 5, 0], []), (151, .iload_n 2, 1, [], []), (152, .ifCond .le 14, 3, [166, 0], []), (155, .aload_n 0, 1, [], []), (156, .getfield 29, 3, [9, 3], []), (159, .aload_n 0, 1, [], []), (160, .getfield 16, 3, [9, 1], []), (163, .invokevirtual 78, 3, [2, 5, 46, 2, 0], []), (166, .iload_n 2, 1, [], []), (167, .ireturn, 1, [], [])]
def k_X9_undo : List mE := [(0, .aload_n 0, 1, [], []), (1, .getfield 29, 3, [9, 3], []), (4, .aload_n 0, 1, [], []), (5, .getfield 10, 3, [9, 0], []), (8, .invokevirtual 346, 3, [2, 5, 47, 2, 1], []), (11, .ifCond .eq 13, 3, [24, 0], []), (14, .aload_n 0, 1, [], []), (15, .getfield 29, 3, [9, 3], []), (18, .getfield 350, 3, [5, 1], []), (21, .goto 4, 3, [25, 0], []), (24, .iconst (-1), 1, [], []), (25, .ireturn, 1, [], [])]
def k_X9_years : List mE := [(0, .iload_n 2, 1, [], []), (1, .iconst 1, 1, [1], []), (2, .if_icmp .lt 9, 3, [11, 0], []), (5, .iload_n 2, 1, [], []), (6, .bipush 40, 2, [40], []), (8, .if_icmp .le 5, 3, [13, 0], []), (11, .iconst (-1), 1, [], []), (12, .ireturn, 1, [], []), (13, .aload_n 0, 1, [], []), (14, .getfield 16, 3, [9, 1], []), (17, .aload_n 0, 1, [], []), (18, .getfield 10, 3, [9, 0], []), (21, .invokevirtual 327, 3, [2, 0, 0, 3, 0], []), (24, .aload_n 0, 1, [], []), (25, .getfield 22, 3, [9, 2], []), (28, .iload_n 1, 1, [], []), (29, .putfield 89, 3, [1, 0], []), (32, .iconst 0, 1, [0], []), (33, .istore_n 3, 1, [], []), (34, .iload_n 3, 1, [], [1, 0, 1, 1, 0, 0]), (35, .iload_n 2, 1, [], []), (36, .if_icmp .ge 64, 3, [100, 0], []), (39, .aload_n 0, 1, [], []), (40, .getfield 22, 3, [9, 2], []), (43, .iconst 3, 1, [3], []), (44, .invokevirtual 351, 3, [2, 1, 34, 2, 1], []), (47, .iconst 2, 1, [2], []), (48, .if_icmp .ge 10, 3, [58, 0], []), (51, .aload_n 0, 1, [], []), (52, .invokevirtual 354, 3, [1, 9, 113, 5, 0], []), (55, .goto 39, 3, [94, 0], []), (58, .aload_n 0, 1, [], []), (59, .getfield 22, 3, [9, 2], []), (62, .bipush 8, 2, [8], []), (64, .invokevirtual 351, 3, [2, 1, 34, 2, 1], []), (67, .iconst 1, 1, [1], []), (68, .iadd, 1, [], []), (69, .istore 4, 2, [], []), (71, .iconst 0, 1, [0], []), (72, .istore 5, 2, [], []), (74, .iload 5, 2, [], [1, 0, 1, 1, 1, 1]), (76, .iload 4, 2, [], []), (78, .if_icmp .ge 16, 3, [94, 0], []), (81, .aload_n 0, 1, [], []), (82, .getfield 16, 3, [9, 1], []), (85, .invokevirtual 133, 3, [1, 0, 13, 3, 0], []), (88, .iinc 5 1, 3, [], []), (91, .goto (-17), 3, [74, 1, 1, 0, 1, 1, 1, 1], []), (94, .iinc 3 1, 3, [], []), (97, .goto (-63), 3, [34, 1, 1, 0, 1, 1, 0, 0], []), (100, .aload_n 0, 1, [], []), (101, .getfield 51, 3, [9, 7], []), (104, .aload_n 0, 1, [], []), (105, .getfield 16, 3, [9, 1], []), (108, .iconst 2, 1, [2], []), (109, .invokevirtual 130, 3, [2, 0, 4, 4, 1], []), (112, .aload_n 0, 1, [], []), (113, .getfield 10, 3, [9, 0], []), (116, .iconst 2, 1, [2], []), (117, .invokevirtual 130, 3, [2, 0, 4, 4, 1], []), (120, .isub, 1, [], []), (121, .i2l, 1, [], []), (122, .aload_n 0, 1, [], []), (123, .getfield 16, 3, [9, 1], []), (126, .invokevirtual 330, 3, [1, 0, 5, 3, 1], []), (129, .i2l, 1, [], []), (130, .aload_n 0, 1, [], []), (131, .getfield 16, 3, [9, 1], []), (134, .getfield 226, 3, [0, 4], []), (137, .aload_n 0, 1, [], []), (138, .getfield 10, 3, [9, 0], []), (141, .getfield 226, 3, [0, 4], []), (144, .isub, 1, [], []), (145, .i2l, 1, [], []), (146, .invokevirtual 136, 3, [4, 4, 44, 7, 0], []), (149, .aload_n 0, 1, [], []), (150, .getfield 16, 3, [9, 1], []), (153, .iconst 0, 1, [0], []), (154, .invokevirtual 130, 3, [2, 0, 4, 4, 1], []), (157, .aload_n 0, 1, [], []), (158, .getfield 10, 3, [9, 0], []), (161, .iconst 0, 1, [0], []), (162, .invokevirtual 130, 3, [2, 0, 4, 4, 1], []), (165, .isub, 1, [], []), (166, .ireturn, 1, [], [])]
def k_X9_keep : List mE := [(0, .iload_n 1, 1, [], []), (1, .ifCond .lt 8, 3, [9, 0], []), (4, .iload_n 1, 1, [], []), (5, .iconst 2, 1, [2], []), (6, .if_icmp .lt 5, 3, [11, 0], []), (9, .iconst 0, 1, [0], []), (10, .ireturn, 1, [1], []), (11, .aload_n 0, 1, [], []), (12, .getfield 33, 3, [9, 4], []), (15, .iload_n 1, 1, [], []), (16, .aaload, 1, [], []), (17, .aload_n 0, 1, [], []), (18, .getfield 10, 3, [9, 0], []), (21, .invokevirtual 327, 3, [2, 0, 0, 3, 0], []), (24, .aload_n 0, 1, [], []), (25, .getfield 37, 3, [9, 5], []), (28, .iload_n 1, 1, [], []), (29, .iconst 1, 1, [1], []), (30, .bastore, 1, [], []), (31, .iconst 1, 1, [1], []), (32, .ireturn, 1, [1], [])]
def k_X9_again : List mE := [(0, .iload_n 1, 1, [], []), (1, .ifCond .lt 17, 3, [18, 0], []), (4, .iload_n 1, 1, [], []), (5, .iconst 2, 1, [2], []), (6, .if_icmp .ge 12, 3, [18, 0], []), (9, .aload_n 0, 1, [], []), (10, .getfield 37, 3, [9, 5], []), (13, .iload_n 1, 1, [], []), (14, .baload, 1, [], []), (15, .ifCond .ne 5, 3, [20, 0], []), (18, .iconst 0, 1, [0], []), (19, .ireturn, 1, [1], []), (20, .aload_n 0, 1, [], []), (21, .getfield 10, 3, [9, 0], []), (24, .aload_n 0, 1, [], []), (25, .getfield 33, 3, [9, 4], []), (28, .iload_n 1, 1, [], []), (29, .aaload, 1, [], []), (30, .invokevirtual 327, 3, [2, 0, 0, 3, 0], []), (33, .aload_n 0, 1, [], []), (34, .getfield 29, 3, [9, 3], []), (37, .iconst 0, 1, [0], []), (38, .putfield 350, 3, [5, 1], []), (41, .iconst 1, 1, [1], []), (42, .ireturn, 1, [1], [])]
def k_X9_count : List mE := [(0, .iload_n 1, 1, [], []), (1, .tableswitch 112 0 7 #[47, 55, 63, 71, 79, 87, 95, 103], 47, [113, 48, 56, 64, 72, 80, 88, 96, 104], []), (48, .aload_n 0, 1, [], []), (49, .getfield 10, 3, [9, 0], []), (52, .getfield 112, 3, [0, 3], []), (55, .ireturn, 1, [], []), (56, .aload_n 0, 1, [], []), (57, .getfield 10, 3, [9, 0], []), (60, .getfield 226, 3, [0, 4], []), (63, .ireturn, 1, [], []), (64, .aload_n 0, 1, [], []), (65, .getfield 10, 3, [9, 0], []), (68, .invokevirtual 330, 3, [1, 0, 5, 3, 1], []), (71, .ireturn, 1, [], []), (72, .aload_n 0, 1, [], []), (73, .getfield 10, 3, [9, 0], []), (76, .invokevirtual 104, 3, [1, 0, 6, 3, 1], []), (79, .ireturn, 1, [], []), (80, .aload_n 0, 1, [], []), (81, .getfield 29, 3, [9, 3], []), (84, .getfield 350, 3, [5, 1], []), (87, .ireturn, 1, [], []), (88, .aload_n 0, 1, [], []), (89, .getfield 51, 3, [9, 7], []), (92, .getfield 269, 3, [4, 1], []), (95, .ireturn, 1, [], []), (96, .aload_n 0, 1, [], []), (97, .getfield 44, 3, [9, 6], []), (100, .getfield 63, 3, [7, 1], []), (103, .ireturn, 1, [], []), (104, .aload_n 0, 1, [], []), (105, .getfield 10, 3, [9, 0], []), (108, .iconst 0, 1, [0], []), (109, .invokevirtual 130, 3, [2, 0, 4, 4, 1], []), (112, .ireturn, 1, [], []), (113, .iconst (-1), 1, [], []), (114, .ireturn, 1, [], [])]
def k_X9_row : List mE := [(0, .iload_n 1, 1, [], []), (1, .ifCond .lt 14, 3, [15, 0], []), (4, .iload_n 1, 1, [], []), (5, .aload_n 0, 1, [], []), (6, .getfield 51, 3, [9, 7], []), (9, .getfield 269, 3, [4, 1], []), (12, .if_icmp .lt 11, 3, [23, 0], []), (15, .new 98, 3, [], []), (18, .dup, 1, [], []), (19, .invokespecial 100, 3, [], []), (22, .athrow, 1, [], []), (23, .aload_n 0, 1, [], []), (24, .getfield 51, 3, [9, 7], []), (27, .getfield 357, 3, [4, 0], []), (30, .iload_n 1, 1, [], []), (31, .laload, 1, [], []), (32, .lreturn, 1, [], [])]
def k_X9_isStation : List mE := [(0, .iload_n 1, 1, [], []), (1, .ifCond .lt 18, 3, [19, 0], []), (4, .iload_n 1, 1, [], []), (5, .aload_n 0, 1, [], []), (6, .getfield 10, 3, [9, 0], []), (9, .getfield 112, 3, [0, 3], []), (12, .if_icmp .ge 7, 3, [19, 0], []), (15, .iconst 1, 1, [1], []), (16, .goto 4, 3, [20, 0], []), (19, .iconst 0, 1, [0], []), (20, .ireturn, 1, [1], [])]
def k_X9_isRank : List mE := [(0, .iload_n 0, 1, [], []), (1, .ifCond .lt 12, 3, [13, 0], []), (4, .iload_n 0, 1, [], []), (5, .iconst 4, 1, [4], []), (6, .if_icmp .ge 7, 3, [13, 0], []), (9, .iconst 1, 1, [1], []), (10, .goto 4, 3, [14, 0], []), (13, .iconst 0, 1, [0], []), (14, .ireturn, 1, [1], [])]
def k_X9_readPairs : List mE := [(0, .iconst 0, 1, [0], []), (1, .istore_n 2, 1, [], []), (2, .iload_n 2, 1, [], [1, 1, 1, 0, 0, 0]), (3, .aload_n 0, 1, [], []), (4, .getfield 55, 3, [9, 8], []), (7, .arraylength, 1, [], []), (8, .if_icmp .ge 16, 3, [24, 0], []), (11, .aload_n 0, 1, [], []), (12, .getfield 55, 3, [9, 8], []), (15, .iload_n 2, 1, [], []), (16, .iconst 0, 1, [0], []), (17, .iastore, 1, [], []), (18, .iinc 2 1, 3, [], []), (21, .goto (-19), 3, [2, 1, 1, 1, 1, 0, 0, 0], []), (24, .iconst 1, 1, [1], []), (25, .istore_n 2, 1, [], []), (26, .iload_n 2, 1, [], [1, 1, 1, 0, 0, 0]), (27, .aload_n 0, 1, [], []), (28, .getfield 44, 3, [9, 6], []), (31, .getfield 63, 3, [7, 1], []), (34, .if_icmp .ge 119, 3, [153, 0], []), (37, .aload_n 0, 1, [], []), (38, .getfield 44, 3, [9, 6], []), (41, .iload_n 2, 1, [], []), (42, .iload_n 1, 1, [], []), (43, .invokevirtual 361, 3, [3, 7, 58, 4, 1], []), (46, .istore_n 3, 1, [], []), (47, .iload_n 3, 1, [], []), (48, .ifCond .ge 5, 3, [53, 0], []), (51, .iload_n 2, 1, [], []), (52, .ireturn, 1, [], []), (53, .aload_n 0, 1, [], []), (54, .getfield 44, 3, [9, 6], []), (57, .iload_n 2, 1, [], []), (58, .iconst 1, 1, [1], []), (59, .iadd, 1, [], []), (60, .iload_n 1, 1, [], []), (61, .invokevirtual 361, 3, [3, 7, 58, 4, 1], []), (64, .istore 4, 2, [], []), (66, .iload 4, 2, [], []), (68, .ifCond .lt 24, 3, [92, 0], []), (71, .iload 4, 2, [], []), (73, .iload_n 3, 1, [], []), (74, .if_icmp .eq 18, 3, [92, 0], []), (77, .aload_n 0, 1, [], []), (78, .getfield 55, 3, [9, 8], []), (81, .iload_n 3, 1, [], []), (82, .bipush 6, 2, [6], []), (84, .imul, 1, [], []), (85, .iload 4, 2, [], []), (87, .iadd, 1, [], []), (88, .iaload, 1, [], []), (89, .ifCond .eq 7, 3, [96, 0], []), (92, .iload_n 2, 1, [], []), (93, .iconst 1, 1, [1], []), (94, .iadd, 1, [], []), (95, .ireturn, 1, [], []), (96, .aload_n 0, 1, [], []), (97, .getfield 44, 3, [9, 6], []), (100, .iload_n 2, 1, [], []), (101, .iconst 2, 1, [2], []), (102, .iadd, 1, [], []), (103, .iconst 1, 1, [1], []), (104, .iconst 3, 1, [3], []), (105, .invokevirtual 70, 3, [4, 7, 57, 5, 1], []), (108, .istore 5, 2, [], []), (110, .iload 5, 2, [], []), (112, .ifCond .ge 7, 3, [119, 0], []), (115, .iload_n 2, 1, [], []), (116, .iconst 2, 1, [2], []), (117, .iadd, 1, [], []), (118, .ireturn, 1, [], []), (119, .aload_n 0, 1, [], []), (120, .getfield 55, 3, [9, 8], []), (123, .iload_n 3, 1, [], []), (124, .bipush 6, 2, [6], []), (126, .imul, 1, [], []), (127, .iload 4, 2, [], []), (129, .iadd, 1, [], []), (130, .iload 5, 2, [], []), (132, .iastore, 1, [], []), (133, .aload_n 0, 1, [], []), (134, .getfield 55, 3, [9, 8], []), (137, .iload 4, 2, [], []), (139, .bipush 6, 2, [6], []), (141, .imul, 1, [], []), (142, .iload_n 3, 1, [], []), (143, .iadd, 1, [], []), (144, .iload 5, 2, [], []), (146, .iastore, 1, [], []), (147, .iinc 2 3, 3, [], []), (150, .goto (-124), 3, [26, 1, 1, 1, 1, 0, 0, 0], []), (153, .iconst (-1), 1, [], []), (154, .ireturn, 1, [], [])]
def k_X9_entryOf : List mE := [(0, .iload_n 0, 1, [], []), (1, .ifCond .ne 6, 3, [7, 0], []), (4, .iload_n 1, 1, [], []), (5, .i2b, 1, [], []), (6, .ireturn, 1, [], []), (7, .iload_n 0, 1, [], []), (8, .iconst 1, 1, [1], []), (9, .if_icmp .ne 8, 3, [17, 0], []), (12, .iload_n 1, 1, [], []), (13, .i2s, 1, [], []), (14, .goto 4, 3, [18, 0], []), (17, .iload_n 1, 1, [], []), (18, .ireturn, 1, [], [])]
def k_X9_comesFromEntry : List mE := [(0, .iload_n 1, 1, [], []), (1, .iconst 1, 1, [1], []), (2, .iadd, 1, [], []), (3, .aload_n 0, 1, [], []), (4, .getfield 10, 3, [9, 0], []), (7, .getfield 112, 3, [0, 3], []), (10, .if_icmp .ge 9, 3, [19, 0], []), (13, .iload_n 1, 1, [], []), (14, .iconst 1, 1, [1], []), (15, .iadd, 1, [], []), (16, .goto 4, 3, [20, 0], []), (19, .iconst 0, 1, [0], []), (20, .istore 4, 2, [], []), (22, .iload_n 3, 1, [], []), (23, .ifCond .le 16, 3, [39, 0], []), (26, .aload_n 0, 1, [], []), (27, .getfield 10, 3, [9, 0], []), (30, .iload_n 1, 1, [], []), (31, .iload 4, 2, [], []), (33, .invokevirtual 248, 3, [3, 0, 3, 3, 1], []), (36, .ifCond .ne 5, 3, [41, 0], []), (39, .iconst 0, 1, [0], []), (40, .ireturn, 1, [1], []), (41, .aload_n 0, 1, [], []), (42, .getfield 10, 3, [9, 0], []), (45, .iload_n 1, 1, [], []), (46, .iload_n 2, 1, [], []), (47, .iload 4, 2, [], []), (49, .iload_n 3, 1, [], []), (50, .bipush 9, 2, [9], []), (52, .irem, 1, [], []), (53, .iconst 1, 1, [1], []), (54, .iadd, 1, [], []), (55, .invokevirtual 127, 3, [5, 0, 9, 6, 1], []), (58, .pop, 1, [], []), (59, .iconst 1, 1, [1], []), (60, .ireturn, 1, [1], [])]
def k_X9_waysAlone : List mE := [(0, .lconst 0, 1, [0], []), (1, .lstore_n 2, 1, [], []), (2, .iconst 0, 1, [0], []), (3, .istore 4, 2, [], []), (5, .iload 4, 2, [], [1, 1, 1, 0, 1]), (7, .iload_n 1, 1, [], []), (8, .if_icmp .gt 20, 3, [28, 0], []), (11, .lload_n 2, 1, [], []), (12, .iload 4, 2, [], []), (14, .iload_n 0, 1, [], []), (15, .iconst 1, 1, [1], []), (16, .isub, 1, [], []), (17, .invokestatic 322, 3, [2, 107, 5, 2], []), (20, .ladd, 1, [], []), (21, .lstore_n 2, 1, [], []), (22, .iinc 4 1, 3, [], []), (25, .goto (-20), 3, [5, 1, 1, 1, 1, 0, 1], []), (28, .iload_n 0, 1, [], []), (29, .i2l, 1, [], []), (30, .lload_n 2, 1, [], []), (31, .lmul, 1, [], []), (32, .lreturn, 1, [], [])]
def k_X9_power : List mE := [(0, .lconst 1, 1, [1], []), (1, .lstore_n 2, 1, [], []), (2, .iconst 0, 1, [0], []), (3, .istore 4, 2, [], []), (5, .iload 4, 2, [], [1, 1, 1, 0, 1]), (7, .iload_n 1, 1, [], []), (8, .if_icmp .ge 14, 3, [22, 0], []), (11, .lload_n 2, 1, [], []), (12, .iload_n 0, 1, [], []), (13, .i2l, 1, [], []), (14, .lmul, 1, [], []), (15, .lstore_n 2, 1, [], []), (16, .iinc 4 1, 3, [], []), (19, .goto (-14), 3, [5, 1, 1, 1, 1, 0, 1], []), (22, .lload_n 2, 1, [], []), (23, .lreturn, 1, [], [])]
def k_X9_slotsTillDelivered : List mE := [(0, .aload_n 0, 1, [], []), (1, .getfield 16, 3, [9, 1], []), (4, .aload_n 0, 1, [], []), (5, .getfield 10, 3, [9, 0], []), (8, .invokevirtual 327, 3, [2, 0, 0, 3, 0], []), (11, .aload_n 0, 1, [], []), (12, .getfield 16, 3, [9, 1], []), (15, .iload_n 1, 1, [], []), (16, .iconst 0, 1, [0], []), (17, .iload_n 2, 1, [], []), (18, .iconst 1, 1, [1], []), (19, .invokevirtual 127, 3, [5, 0, 9, 6, 1], []), (22, .pop, 1, [], []), (23, .aload_n 0, 1, [], []), (24, .getfield 16, 3, [9, 1], []), (27, .iload_n 1, 1, [], []), (28, .iconst 0, 1, [0], []), (29, .invokevirtual 364, 3, [3, 0, 10, 4, 0], []), (32, .iconst 1, 1, [1], []), (33, .istore_n 3, 1, [], []), (34, .iload_n 3, 1, [], [1, 0, 0, 1]), (35, .bipush 99, 2, [99], []), (37, .if_icmp .gt 28, 3, [65, 0], []), (40, .aload_n 0, 1, [], []), (41, .getfield 16, 3, [9, 1], []), (44, .invokevirtual 133, 3, [1, 0, 13, 3, 0], []), (47, .aload_n 0, 1, [], []), (48, .getfield 16, 3, [9, 1], []), (51, .getfield 368, 3, [0, 12], []), (54, .ifCond .eq 5, 3, [59, 0], []), (57, .iload_n 3, 1, [], []), (58, .ireturn, 1, [], []), (59, .iinc 3 1, 3, [], []), (62, .goto (-28), 3, [34, 1, 1, 0, 0, 1], []), (65, .bipush 100, 2, [100], []), (67, .ireturn, 1, [], [])]
def k_X9_actLength : List mE := [(0, .aload_n 0, 1, [], []), (1, .getfield 44, 3, [9, 6], []), (4, .iload_n 1, 1, [], []), (5, .invokevirtual 371, 3, [2, 7, 56, 2, 1], []), (8, .istore_n 2, 1, [], []), (9, .iload_n 2, 1, [], []), (10, .bipush 102, 2, [102], []), (12, .if_icmp .ne 5, 3, [17, 0], []), (15, .iconst 5, 1, [5], []), (16, .ireturn, 1, [], []), (17, .iload_n 2, 1, [], []), (18, .bipush 115, 2, [115], []), (20, .if_icmp .ne 7, 3, [27, 0], []), (23, .iconst 3, 1, [3], []), (24, .goto 4, 3, [28, 0], []), (27, .iconst 1, 1, [1], []), (28, .ireturn, 1, [], [])]
def k_X9_faultInDay : List mE := [(0, .iconst 0, 1, [0], []), (1, .istore_n 1, 1, [], []), (2, .iconst 0, 1, [0], []), (3, .istore_n 2, 1, [], []), (4, .iload_n 2, 1, [], [1, 1, 1, 0]), (5, .bipush 80, 2, [80], []), (7, .if_icmp .ge 40, 3, [47, 0], []), (10, .iload_n 1, 1, [], []), (11, .aload_n 0, 1, [], []), (12, .getfield 44, 3, [9, 6], []), (15, .getfield 63, 3, [7, 1], []), (18, .if_icmp .ge 29, 3, [47, 0], []), (21, .aload_n 0, 1, [], []), (22, .iload_n 1, 1, [], []), (23, .invokevirtual 374, 3, [2, 9, 111, 3, 1], []), (26, .istore_n 3, 1, [], []), (27, .iload_n 3, 1, [], []), (28, .ifCond .lt 5, 3, [33, 0], []), (31, .iload_n 3, 1, [], []), (32, .ireturn, 1, [], []), (33, .iload_n 1, 1, [], []), (34, .aload_n 0, 1, [], []), (35, .iload_n 1, 1, [], []), (36, .invokevirtual 343, 3, [2, 9, 109, 3, 1], []), (39, .iadd, 1, [], []), (40, .istore_n 1, 1, [], []), (41, .iinc 2 1, 3, [], []), (44, .goto (-40), 3, [4, 1, 1, 1, 1, 0], []), (47, .iconst (-1), 1, [], []), (48, .ireturn, 1, [], [])]
def k_X9_faultInAct : List mE := [(0, .aload_n 0, 1, [], []), (1, .getfield 44, 3, [9, 6], []), (4, .iload_n 1, 1, [], []), (5, .invokevirtual 371, 3, [2, 7, 56, 2, 1], []), (8, .istore_n 2, 1, [], []), (9, .iload_n 2, 1, [], []), (10, .bipush 100, 2, [100], []), (12, .if_icmp .ne 5, 3, [17, 0], []), (15, .iconst (-1), 1, [], []), (16, .ireturn, 1, [], []), (17, .iload_n 2, 1, [], []), (18, .bipush 115, 2, [115], []), (20, .if_icmp .ne 47, 3, [67, 0], []), (23, .aload_n 0, 1, [], []), (24, .getfield 44, 3, [9, 6], []), (27, .iload_n 1, 1, [], []), (28, .iconst 1, 1, [1], []), (29, .iadd, 1, [], []), (30, .iconst 0, 1, [0], []), (31, .bipush 9, 2, [9], []), (33, .invokevirtual 70, 3, [4, 7, 57, 5, 1], []), (36, .ifCond .ge 7, 3, [43, 0], []), (39, .iload_n 1, 1, [], []), (40, .iconst 1, 1, [1], []), (41, .iadd, 1, [], []), (42, .ireturn, 1, [], []), (43, .aload_n 0, 1, [], []), (44, .getfield 44, 3, [9, 6], []), (47, .iload_n 1, 1, [], []), (48, .iconst 2, 1, [2], []), (49, .iadd, 1, [], []), (50, .iconst 0, 1, [0], []), (51, .bipush 9, 2, [9], []), (53, .invokevirtual 70, 3, [4, 7, 57, 5, 1], []), (56, .ifCond .ge 9, 3, [65, 0], []), (59, .iload_n 1, 1, [], []), (60, .iconst 2, 1, [2], []), (61, .iadd, 1, [], []), (62, .goto 4, 3, [66, 0], []), (65, .iconst (-1), 1, [], []), (66, .ireturn, 1, [], []), (67, .iload_n 2, 1, [], []), (68, .bipush 102, 2, [102], []), (70, .if_icmp .eq 5, 3, [75, 0], []), (73, .iload_n 1, 1, [], []), (74, .ireturn, 1, [], []), (75, .aload_n 0, 1, [], []), (76, .getfield 44, 3, [9, 6], []), (79, .iload_n 1, 1, [], []), (80, .iconst 1, 1, [1], []), (81, .iadd, 1, [], []), (82, .bipush 6, 2, [6], []), (84, .invokevirtual 361, 3, [3, 7, 58, 4, 1], []), (87, .ifCond .ge 7, 3, [94, 0], []), (90, .iload_n 1, 1, [], []), (91, .iconst 1, 1, [1], []), (92, .iadd, 1, [], []), (93, .ireturn, 1, [], []), (94, .aload_n 0, 1, [], []), (95, .getfield 44, 3, [9, 6], []), (98, .iload_n 1, 1, [], []), (99, .iconst 2, 1, [2], []), (100, .iadd, 1, [], []), (101, .iconst 0, 1, [0], []), (102, .iconst 3, 1, [3], []), (103, .invokevirtual 70, 3, [4, 7, 57, 5, 1], []), (106, .ifCond .ge 7, 3, [113, 0], []), (109, .iload_n 1, 1, [], []), (110, .iconst 2, 1, [2], []), (111, .iadd, 1, [], []), (112, .ireturn, 1, [], []), (113, .aload_n 0, 1, [], []), (114, .getfield 44, 3, [9, 6], []), (117, .iload_n 1, 1, [], []), (118, .iconst 3, 1, [3], []), (119, .iadd, 1, [], []), (120, .bipush 6, 2, [6], []), (122, .invokevirtual 361, 3, [3, 7, 58, 4, 1], []), (125, .ifCond .ge 7, 3, [132, 0], []), (128, .iload_n 1, 1, [], []), (129, .iconst 3, 1, [3], []), (130, .iadd, 1, [], []), (131, .ireturn, 1, [], []), (132, .aload_n 0, 1, [], []), (133, .getfield 44, 3, [9, 6], []), (136, .iload_n 1, 1, [], []), (137, .iconst 4, 1, [4], []), (138, .iadd, 1, [], []), (139, .iconst 1, 1, [1], []), (140, .bipush 9, 2, [9], []), (142, .invokevirtual 70, 3, [4, 7, 57, 5, 1], []), (145, .ifCond .ge 9, 3, [154, 0], []), (148, .iload_n 1, 1, [], []), (149, .iconst 4, 1, [4], []), (150, .iadd, 1, [], []), (151, .goto 4, 3, [155, 0], []), (154, .iconst (-1), 1, [], []), (155, .ireturn, 1, [], [])]
def k_X9_doAct : List mE := [(0, .aload_n 0, 1, [], []), (1, .getfield 44, 3, [9, 6], []), (4, .iload_n 1, 1, [], []), (5, .invokevirtual 371, 3, [2, 7, 56, 2, 1], []), (8, .istore_n 2, 1, [], []), (9, .iload_n 2, 1, [], []), (10, .bipush 100, 2, [100], []), (12, .if_icmp .ne 13, 3, [25, 0], []), (15, .aload_n 0, 1, [], []), (16, .getfield 10, 3, [9, 0], []), (19, .invokevirtual 140, 3, [1, 0, 11, 5, 1], []), (22, .pop, 1, [], []), (23, .iconst 1, 1, [1], []), (24, .ireturn, 1, [1], []), (25, .iload_n 2, 1, [], []), (26, .bipush 115, 2, [115], []), (28, .if_icmp .ne 71, 3, [99, 0], []), (31, .bipush 10, 2, [10], []), (33, .aload_n 0, 1, [], []), (34, .getfield 44, 3, [9, 6], []), (37, .iload_n 1, 1, [], []), (38, .iconst 1, 1, [1], []), (39, .iadd, 1, [], []), (40, .iconst 0, 1, [0], []), (41, .bipush 9, 2, [9], []), (43, .invokevirtual 70, 3, [4, 7, 57, 5, 1], []), (46, .imul, 1, [], []), (47, .aload_n 0, 1, [], []), (48, .getfield 44, 3, [9, 6], []), (51, .iload_n 1, 1, [], []), (52, .iconst 2, 1, [2], []), (53, .iadd, 1, [], []), (54, .iconst 0, 1, [0], []), (55, .bipush 9, 2, [9], []), (57, .invokevirtual 70, 3, [4, 7, 57, 5, 1], []), (60, .iadd, 1, [], []), (61, .istore_n 3, 1, [], []), (62, .iload_n 3, 1, [], []), (63, .iconst 1, 1, [1], []), (64, .if_icmp .lt 9, 3, [73, 0], []), (67, .iload_n 3, 1, [], []), (68, .bipush 60, 2, [60], []), (70, .if_icmp .le 5, 3, [75, 0], []), (73, .iconst 0, 1, [0], []), (74, .ireturn, 1, [1], []), (75, .iconst 0, 1, [0], []), (76, .istore 4, 2, [], []), (78, .iload 4, 2, [], [1, 0, 0, 1, 1, 0, 0]), (80, .iload_n 3, 1, [], []), (81, .if_icmp .ge 16, 3, [97, 0], []), (84, .aload_n 0, 1, [], []), (85, .getfield 10, 3, [9, 0], []), (88, .invokevirtual 133, 3, [1, 0, 13, 3, 0], []), (91, .iinc 4 1, 3, [], []), (94, .goto (-16), 3, [78, 1, 1, 0, 0, 1, 1, 0, 0], []), (97, .iconst 1, 1, [1], []), (98, .ireturn, 1, [1], []), (99, .aload_n 0, 1, [], []), (100, .getfield 44, 3, [9, 6], []), (103, .iload_n 1, 1, [], []), (104, .iconst 1, 1, [1], []), (105, .iadd, 1, [], []), (106, .bipush 6, 2, [6], []), (108, .invokevirtual 361, 3, [3, 7, 58, 4, 1], []), (111, .istore_n 3, 1, [], []), (112, .aload_n 0, 1, [], []), (113, .getfield 44, 3, [9, 6], []), (116, .iload_n 1, 1, [], []), (117, .iconst 2, 1, [2], []), (118, .iadd, 1, [], []), (119, .iconst 0, 1, [0], []), (120, .iconst 3, 1, [3], []), (121, .invokevirtual 70, 3, [4, 7, 57, 5, 1], []), (124, .istore 4, 2, [], []), (126, .aload_n 0, 1, [], []), (127, .getfield 44, 3, [9, 6], []), (130, .iload_n 1, 1, [], []), (131, .iconst 3, 1, [3], []), (132, .iadd, 1, [], []), (133, .bipush 6, 2, [6], []), (135, .invokevirtual 361, 3, [3, 7, 58, 4, 1], []), (138, .istore 5, 2, [], []), (140, .aload_n 0, 1, [], []), (141, .getfield 44, 3, [9, 6], []), (144, .iload_n 1, 1, [], []), (145, .iconst 4, 1, [4], []), (146, .iadd, 1, [], []), (147, .iconst 1, 1, [1], []), (148, .bipush 9, 2, [9], []), (150, .invokevirtual 70, 3, [4, 7, 57, 5, 1], []), (153, .istore 6, 2, [], []), (155, .aload_n 0, 1, [], []), (156, .getfield 10, 3, [9, 0], []), (159, .iload_n 3, 1, [], []), (160, .iload 4, 2, [], []), (162, .iload 5, 2, [], []), (164, .iload 6, 2, [], []), (166, .invokevirtual 123, 3, [5, 0, 8, 5, 1], []), (169, .ifCond .ge 5, 3, [174, 0], []), (172, .iconst 0, 1, [0], []), (173, .ireturn, 1, [1], []), (174, .aload_n 0, 1, [], []), (175, .getfield 10, 3, [9, 0], []), (178, .iload_n 3, 1, [], []), (179, .iload 4, 2, [], []), (181, .iload 5, 2, [], []), (183, .iload 6, 2, [], []), (185, .invokevirtual 127, 3, [5, 0, 9, 6, 1], []), (188, .pop, 1, [], []), (189, .iconst 1, 1, [1], []), (190, .ireturn, 1, [1], [])]
def k_X9_offerDrawn : List mE := [(0, .aload_n 0, 1, [], []), (1, .getfield 22, 3, [9, 2], []), (4, .bipush 6, 2, [6], []), (6, .invokevirtual 351, 3, [2, 1, 34, 2, 1], []), (9, .istore_n 1, 1, [], []), (10, .aload_n 0, 1, [], []), (11, .getfield 22, 3, [9, 2], []), (14, .iconst 4, 1, [4], []), (15, .invokevirtual 351, 3, [2, 1, 34, 2, 1], []), (18, .istore_n 2, 1, [], []), (19, .aload_n 0, 1, [], []), (20, .getfield 22, 3, [9, 2], []), (23, .bipush 6, 2, [6], []), (25, .invokevirtual 351, 3, [2, 1, 34, 2, 1], []), (28, .istore_n 3, 1, [], []), (29, .aload_n 0, 1, [], []), (30, .getfield 22, 3, [9, 2], []), (33, .bipush 9, 2, [9], []), (35, .invokevirtual 351, 3, [2, 1, 34, 2, 1], []), (38, .iconst 1, 1, [1], []), (39, .iadd, 1, [], []), (40, .istore 4, 2, [], []), (42, .aload_n 0, 1, [], []), (43, .getfield 16, 3, [9, 1], []), (46, .iload_n 1, 1, [], []), (47, .iload_n 2, 1, [], []), (48, .iload_n 3, 1, [], []), (49, .iload 4, 2, [], []), (51, .invokevirtual 123, 3, [5, 0, 8, 5, 1], []), (54, .ifCond .ne 16, 3, [70, 0], []), (57, .aload_n 0, 1, [], []), (58, .getfield 16, 3, [9, 1], []), (61, .iload_n 1, 1, [], []), (62, .iload_n 2, 1, [], []), (63, .iload_n 3, 1, [], []), (64, .iload 4, 2, [], []), (66, .invokevirtual 127, 3, [5, 0, 9, 6, 1], []), (69, .pop, 1, [], []), (70, .return_, 1, [], [])]
def k_X10_thrown : List mE := [(0, .aload_n 0, 1, [], []), (1, .getfield 52, 3, [10, 5], []), (4, .ireturn, 1, [], [])]
def k_X10_in : List mE := [(0, .iload_n 0, 1, [], []), (1, .iload_n 1, 1, [], []), (2, .if_icmp .lt 12, 3, [14, 0], []), (5, .iload_n 0, 1, [], []), (6, .iload_n 2, 1, [], []), (7, .if_icmp .gt 7, 3, [14, 0], []), (10, .iconst 1, 1, [1], []), (11, .goto 4, 3, [15, 0], []), (14, .iconst 0, 1, [0], []), (15, .ireturn, 1, [1], [])]
def k_X10_has : List mE := [(0, .iload_n 0, 1, [], []), (1, .iload_n 1, 1, [], []), (2, .ishr, 1, [], []), (3, .iconst 1, 1, [1], []), (4, .iand, 1, [], []), (5, .iconst 1, 1, [1], []), (6, .if_icmp .ne 7, 3, [13, 0], []), (9, .iconst 1, 1, [1], []), (10, .goto 4, 3, [14, 0], []), (13, .iconst 0, 1, [0], []), (14, .ireturn, 1, [1], [])]
def k_X10_lost : List mE := [(0, .aload_n 0, 1, [], []), (1, .iconst 1, 1, [1], []), (2, .putfield 52, 3, [10, 5], []), (5, .iconst 0, 1, [0], []), (6, .ireturn, 1, [], [])]
def k_X10_tell : List mE := [(0, .aload_n 0, 1, [], []), (1, .getfield 17, 3, [10, 3], []), (4, .aload_n 0, 1, [], []), (5, .getfield 56, 3, [10, 4], []), (8, .lload_n 1, 1, [], []), (9, .lastore, 1, [], []), (10, .aload_n 0, 1, [], []), (11, .dup, 1, [], []), (12, .getfield 56, 3, [10, 4], []), (15, .iconst 1, 1, [1], []), (16, .iadd, 1, [], []), (17, .putfield 56, 3, [10, 4], []), (20, .return_, 1, [], [])]
def k_X10_common : List mE := [(0, .iload_n 0, 1, [], []), (1, .istore_n 2, 1, [], []), (2, .iload_n 1, 1, [], []), (3, .istore_n 3, 1, [], []), (4, .iload_n 3, 1, [], [0, 0, 1, 1, 0]), (5, .ifCond .eq 16, 3, [21, 0], []), (8, .iload_n 2, 1, [], []), (9, .iload_n 3, 1, [], []), (10, .irem, 1, [], []), (11, .istore 4, 2, [], []), (13, .iload_n 3, 1, [], []), (14, .istore_n 2, 1, [], []), (15, .iload 4, 2, [], []), (17, .istore_n 3, 1, [], []), (18, .goto (-14), 3, [4, 1, 0, 0, 1, 1, 0], []), (21, .iload_n 2, 1, [], []), (22, .ireturn, 1, [], [])]
def k_X10_commonLong : List mE := [(0, .lload_n 0, 1, [], []), (1, .lstore 4, 2, [], []), (3, .lload_n 2, 1, [], []), (4, .lstore 6, 2, [], []), (6, .lload 6, 2, [], [0, 0, 0, 0, 1, 0, 1, 0, 0, 0]), (8, .lconst 0, 1, [0], []), (9, .lcmp, 1, [], []), (10, .ifCond .eq 21, 3, [31, 0], []), (13, .lload 4, 2, [], []), (15, .lload 6, 2, [], []), (17, .lrem, 1, [], []), (18, .lstore 8, 2, [], []), (20, .lload 6, 2, [], []), (22, .lstore 4, 2, [], []), (24, .lload 8, 2, [], []), (26, .lstore 6, 2, [], []), (28, .goto (-22), 3, [6, 1, 0, 0, 0, 0, 1, 0, 1, 0, 0, 0], []), (31, .lload 4, 2, [], []), (33, .lreturn, 1, [], [])]
def k_X10_isStation : List mE := [(0, .iload_n 1, 1, [], []), (1, .iconst 0, 1, [0], []), (2, .aload_n 0, 1, [], []), (3, .getfield 9, 3, [10, 0], []), (6, .iconst 0, 1, [0], []), (7, .iaload, 1, [], []), (8, .iconst 1, 1, [1], []), (9, .isub, 1, [], []), (10, .invokestatic 59, 3, [3, 115, 3, 1], []), (13, .ireturn, 1, [1], [])]
def k_X10_isRank : List mE := [(0, .iload_n 0, 1, [], []), (1, .iconst 0, 1, [0], []), (2, .iconst 3, 1, [3], []), (3, .invokestatic 59, 3, [3, 115, 3, 1], []), (6, .ireturn, 1, [1], [])]
def k_X10_quality : List mE := [(0, .aload_n 0, 1, [], []), (1, .getfield 9, 3, [10, 0], []), (4, .bipush 15, 2, [15], []), (6, .bipush 6, 2, [6], []), (8, .iload_n 1, 1, [], []), (9, .imul, 1, [], []), (10, .iadd, 1, [], []), (11, .iload_n 2, 1, [], []), (12, .iadd, 1, [], []), (13, .iaload, 1, [], []), (14, .ireturn, 1, [], [])]
def k_X10_hears : List mE := [(0, .aload_n 0, 1, [], []), (1, .iload_n 1, 1, [], []), (2, .iload_n 2, 1, [], []), (3, .invokevirtual 63, 3, [3, 10, 123, 3, 1], []), (6, .ifCond .le 7, 3, [13, 0], []), (9, .iconst 1, 1, [1], []), (10, .goto 4, 3, [14, 0], []), (13, .iconst 0, 1, [0], []), (14, .ireturn, 1, [1], [])]
def k_X10_at : List mE := [(0, .iconst 4, 1, [4], []), (1, .iload_n 0, 1, [], []), (2, .imul, 1, [], []), (3, .iload_n 1, 1, [], []), (4, .iadd, 1, [], []), (5, .ireturn, 1, [], [])]
def k_X10_frameAt : List mE := [(0, .sipush 171, 3, [171], []), (3, .iconst 5, 1, [5], []), (4, .bipush 8, 2, [8], []), (6, .iload_n 0, 1, [], []), (7, .iload_n 1, 1, [], []), (8, .invokestatic 67, 3, [2, 125, 2, 1], []), (11, .imul, 1, [], []), (12, .iload_n 2, 1, [], []), (13, .iadd, 1, [], []), (14, .imul, 1, [], []), (15, .iadd, 1, [], []), (16, .ireturn, 1, [], [])]
def k_X10_exchangeAt : List mE := [(0, .sipush 1179, 3, [1179], []), (3, .bipush 16, 2, [16], []), (5, .iload_n 0, 1, [], []), (6, .imul, 1, [], []), (7, .iadd, 1, [], []), (8, .ireturn, 1, [], [])]
def k_X10_draw : List mE := [(0, .aload_n 0, 1, [], []), (1, .getfield 9, 3, [10, 0], []), (4, .bipush 14, 2, [14], []), (6, .aload_n 0, 1, [], []), (7, .getfield 9, 3, [10, 0], []), (10, .bipush 14, 2, [14], []), (12, .iaload, 1, [], []), (13, .ldc 70, 2, [1103515245], []), (15, .imul, 1, [], []), (16, .sipush 12345, 3, [12345], []), (19, .iadd, 1, [], []), (20, .iastore, 1, [], []), (21, .aload_n 0, 1, [], []), (22, .getfield 9, 3, [10, 0], []), (25, .bipush 14, 2, [14], []), (27, .iaload, 1, [], []), (28, .bipush 16, 2, [16], []), (30, .iushr, 1, [], []), (31, .iload_n 1, 1, [], []), (32, .irem, 1, [], []), (33, .ireturn, 1, [], [])]
def k_X10_sign : List mE := [(0, .aload_n 0, 1, [], []), (1, .iconst 0, 1, [0], []), (2, .putfield 52, 3, [10, 5], []), (5, .aload_n 0, 1, [], []), (6, .getfield 71, 3, [10, 2], []), (9, .iconst 4, 1, [4], []), (10, .iadd, 1, [], []), (11, .bipush 80, 2, [80], []), (13, .if_icmp .le 5, 3, [18, 0], []), (16, .iconst (-1), 1, [], []), (17, .ireturn, 1, [], []), (18, .iconst 3, 1, [3], []), (19, .istore_n 2, 1, [], []), (20, .iload_n 2, 1, [], [1, 1, 1]), (21, .ifCond .lt 32, 3, [53, 0], []), (24, .aload_n 0, 1, [], []), (25, .getfield 13, 3, [10, 1], []), (28, .aload_n 0, 1, [], []), (29, .dup, 1, [], []), (30, .getfield 71, 3, [10, 2], []), (33, .dup_x1, 1, [], []), (34, .iconst 1, 1, [1], []), (35, .iadd, 1, [], []), (36, .putfield 71, 3, [10, 2], []), (39, .iload_n 1, 1, [], []), (40, .bipush 8, 2, [8], []), (42, .iload_n 2, 1, [], []), (43, .imul, 1, [], []), (44, .ishr, 1, [], []), (45, .i2b, 1, [], []), (46, .bastore, 1, [], []), (47, .iinc 2 (-1), 3, [], []), (50, .goto (-30), 3, [20, 1, 1, 1, 1], []), (53, .aload_n 0, 1, [], []), (54, .getfield 71, 3, [10, 2], []), (57, .ireturn, 1, [], [])]
def k_X10_end : List mE := [(0, .aload_n 0, 1, [], []), (1, .iconst 0, 1, [0], []), (2, .putfield 52, 3, [10, 5], []), (5, .iload_n 1, 1, [], []), (6, .iconst 0, 1, [0], []), (7, .aload_n 0, 1, [], []), (8, .getfield 71, 3, [10, 2], []), (11, .invokestatic 59, 3, [3, 115, 3, 1], []), (14, .ifCond .ne 5, 3, [19, 0], []), (17, .iconst 0, 1, [0], []), (18, .ireturn, 1, [1], []), (19, .aload_n 0, 1, [], []), (20, .iload_n 1, 1, [], []), (21, .putfield 71, 3, [10, 2], []), (24, .iconst 1, 1, [1], []), (25, .ireturn, 1, [1], [])]
def k_X10_begin : List mE := [(0, .aload_n 0, 1, [], []), (1, .aload_n 0, 1, [], []), (2, .getfield 71, 3, [10, 2], []), (5, .putfield 74, 3, [10, 6], []), (8, .aload_n 0, 1, [], []), (9, .iconst 0, 1, [0], []), (10, .putfield 77, 3, [10, 7], []), (13, .aload_n 0, 1, [], []), (14, .iconst (-1), 1, [], []), (15, .putfield 79, 3, [10, 8], []), (18, .aload_n 0, 1, [], []), (19, .iconst 0, 1, [0], []), (20, .putfield 71, 3, [10, 2], []), (23, .return_, 1, [], [])]
def k_X10_here : List mE := [(0, .aload_n 0, 1, [], []), (1, .getfield 77, 3, [10, 7], []), (4, .aload_n 0, 1, [], []), (5, .getfield 74, 3, [10, 6], []), (8, .if_icmp .ge 19, 3, [27, 0], []), (11, .aload_n 0, 1, [], []), (12, .getfield 13, 3, [10, 1], []), (15, .aload_n 0, 1, [], []), (16, .getfield 77, 3, [10, 7], []), (19, .baload, 1, [], []), (20, .sipush 255, 3, [255], []), (23, .iand, 1, [], []), (24, .goto 4, 3, [28, 0], []), (27, .iconst (-1), 1, [], []), (28, .ireturn, 1, [], [])]
def k_X10_fine : List mE := [(0, .aload_n 0, 1, [], []), (1, .getfield 79, 3, [10, 8], []), (4, .iconst (-1), 1, [], []), (5, .if_icmp .ne 7, 3, [12, 0], []), (8, .iconst 1, 1, [1], []), (9, .goto 4, 3, [13, 0], []), (12, .iconst 0, 1, [0], []), (13, .ireturn, 1, [1], [])]
def k_X10_fault : List mE := [(0, .aload_n 0, 1, [], []), (1, .invokevirtual 82, 3, [1, 10, 133, 1, 1], []), (4, .ifCond .eq 8, 3, [12, 0], []), (7, .aload_n 0, 1, [], []), (8, .iload_n 1, 1, [], []), (9, .putfield 79, 3, [10, 8], []), (12, .return_, 1, [], [])]
def k_X10_oneOf : List mE := [(0, .aload_n 0, 1, [], []), (1, .invokevirtual 82, 3, [1, 10, 133, 1, 1], []), (4, .ifCond .ne 5, 3, [9, 0], []), (7, .iconst 0, 1, [0], []), (8, .ireturn, 1, [], []), (9, .aload_n 0, 1, [], []), (10, .invokevirtual 86, 3, [1, 10, 132, 1, 1], []), (13, .iload_n 1, 1, [], []), (14, .iload_n 1, 1, [], []), (15, .iload_n 2, 1, [], []), (16, .iadd, 1, [], []), (17, .iconst 1, 1, [1], []), (18, .isub, 1, [], []), (19, .invokestatic 59, 3, [3, 115, 3, 1], []), (22, .ifCond .ne 13, 3, [35, 0], []), (25, .aload_n 0, 1, [], []), (26, .aload_n 0, 1, [], []), (27, .getfield 77, 3, [10, 7], []), (30, .invokevirtual 90, 3, [2, 10, 134, 2, 0], []), (33, .iconst 0, 1, [0], []), (34, .ireturn, 1, [], []), (35, .aload_n 0, 1, [], []), (36, .dup, 1, [], []), (37, .getfield 77, 3, [10, 7], []), (40, .iconst 1, 1, [1], []), (41, .iadd, 1, [], []), (42, .putfield 77, 3, [10, 7], []), (45, .aload_n 0, 1, [], []), (46, .getfield 13, 3, [10, 1], []), (49, .aload_n 0, 1, [], []), (50, .getfield 77, 3, [10, 7], []), (53, .iconst 1, 1, [1], []), (54, .isub, 1, [], []), (55, .baload, 1, [], []), (56, .iload_n 1, 1, [], []), (57, .isub, 1, [], []), (58, .ireturn, 1, [], [])]
def k_X10_twoDigits : List mE := [(0, .aload_n 0, 1, [], []), (1, .bipush 48, 2, [48], []), (3, .bipush 10, 2, [10], []), (5, .invokevirtual 94, 3, [3, 10, 135, 3, 1], []), (8, .istore_n 1, 1, [], []), (9, .bipush 10, 2, [10], []), (11, .iload_n 1, 1, [], []), (12, .imul, 1, [], []), (13, .aload_n 0, 1, [], []), (14, .bipush 48, 2, [48], []), (16, .bipush 10, 2, [10], []), (18, .invokevirtual 94, 3, [3, 10, 135, 3, 1], []), (21, .iadd, 1, [], []), (22, .ireturn, 1, [], [])]
def k_X10_wasRight : List mE := [(0, .aload_n 0, 1, [], []), (1, .getfield 77, 3, [10, 7], []), (4, .aload_n 0, 1, [], []), (5, .getfield 74, 3, [10, 6], []), (8, .if_icmp .ge 11, 3, [19, 0], []), (11, .aload_n 0, 1, [], []), (12, .aload_n 0, 1, [], []), (13, .getfield 77, 3, [10, 7], []), (16, .invokevirtual 90, 3, [2, 10, 134, 2, 0], []), (19, .aload_n 0, 1, [], []), (20, .invokevirtual 82, 3, [1, 10, 133, 1, 1], []), (23, .ireturn, 1, [1], [])]
def k_X10_readPair : List mE := [(0, .aload_n 0, 1, [], []), (1, .bipush 97, 2, [97], []), (3, .iload_n 1, 1, [], []), (4, .invokevirtual 94, 3, [3, 10, 135, 3, 1], []), (7, .istore_n 2, 1, [], []), (8, .aload_n 0, 1, [], []), (9, .bipush 97, 2, [97], []), (11, .iload_n 1, 1, [], []), (12, .invokevirtual 94, 3, [3, 10, 135, 3, 1], []), (15, .istore_n 3, 1, [], []), (16, .aload_n 0, 1, [], []), (17, .invokevirtual 82, 3, [1, 10, 133, 1, 1], []), (20, .ifCond .eq 32, 3, [52, 0], []), (23, .iload_n 2, 1, [], []), (24, .iload_n 3, 1, [], []), (25, .if_icmp .eq 17, 3, [42, 0], []), (28, .aload_n 0, 1, [], []), (29, .getfield 21, 3, [10, 9], []), (32, .bipush 6, 2, [6], []), (34, .iload_n 2, 1, [], []), (35, .imul, 1, [], []), (36, .iload_n 3, 1, [], []), (37, .iadd, 1, [], []), (38, .iaload, 1, [], []), (39, .ifCond .le 13, 3, [52, 0], []), (42, .aload_n 0, 1, [], []), (43, .aload_n 0, 1, [], []), (44, .getfield 77, 3, [10, 7], []), (47, .iconst 1, 1, [1], []), (48, .isub, 1, [], []), (49, .invokevirtual 90, 3, [2, 10, 134, 2, 0], []), (52, .aload_n 0, 1, [], []), (53, .bipush 49, 2, [49], []), (55, .iconst 3, 1, [3], []), (56, .invokevirtual 94, 3, [3, 10, 135, 3, 1], []), (59, .iconst 1, 1, [1], []), (60, .iadd, 1, [], []), (61, .istore 4, 2, [], []), (63, .aload_n 0, 1, [], []), (64, .getfield 21, 3, [10, 9], []), (67, .bipush 6, 2, [6], []), (69, .iload_n 2, 1, [], []), (70, .imul, 1, [], []), (71, .iload_n 3, 1, [], []), (72, .iadd, 1, [], []), (73, .iload 4, 2, [], []), (75, .iastore, 1, [], []), (76, .aload_n 0, 1, [], []), (77, .getfield 21, 3, [10, 9], []), (80, .bipush 6, 2, [6], []), (82, .iload_n 3, 1, [], []), (83, .imul, 1, [], []), (84, .iload_n 2, 1, [], []), (85, .iadd, 1, [], []), (86, .iload 4, 2, [], []), (88, .iastore, 1, [], []), (89, .iconst 1, 1, [1], []), (90, .ireturn, 1, [], [])]
def k_X10_net : List mE := [(0, .aload_n 0, 1, [], []), (1, .iconst 0, 1, [0], []), (2, .putfield 52, 3, [10, 5], []), (5, .aload_n 0, 1, [], []), (6, .invokevirtual 98, 3, [1, 10, 131, 1, 0], []), (9, .iconst 0, 1, [0], []), (10, .istore_n 1, 1, [], []), (11, .iload_n 1, 1, [], [1, 1, 0, 0, 0]), (12, .aload_n 0, 1, [], []), (13, .getfield 21, 3, [10, 9], []), (16, .arraylength, 1, [], []), (17, .if_icmp .ge 16, 3, [33, 0], []), (20, .aload_n 0, 1, [], []), (21, .getfield 21, 3, [10, 9], []), (24, .iload_n 1, 1, [], []), (25, .iconst 0, 1, [0], []), (26, .iastore, 1, [], []), (27, .iinc 1 1, 3, [], []), (30, .goto (-19), 3, [11, 1, 1, 1, 0, 0, 0], []), (33, .aload_n 0, 1, [], []), (34, .bipush 49, 2, [49], []), (36, .bipush 6, 2, [6], []), (38, .invokevirtual 94, 3, [3, 10, 135, 3, 1], []), (41, .iconst 1, 1, [1], []), (42, .iadd, 1, [], []), (43, .istore_n 1, 1, [], []), (44, .iconst 0, 1, [0], []), (45, .istore_n 2, 1, [], []), (46, .aload_n 0, 1, [], [1, 1, 1, 0, 0]), (47, .invokevirtual 82, 3, [1, 10, 133, 1, 1], []), (50, .ifCond .eq 25, 3, [75, 0], []), (53, .aload_n 0, 1, [], []), (54, .getfield 77, 3, [10, 7], []), (57, .aload_n 0, 1, [], []), (58, .getfield 74, 3, [10, 6], []), (61, .if_icmp .ge 14, 3, [75, 0], []), (64, .iload_n 2, 1, [], []), (65, .aload_n 0, 1, [], []), (66, .iload_n 1, 1, [], []), (67, .invokevirtual 101, 3, [2, 10, 138, 5, 1], []), (70, .iadd, 1, [], []), (71, .istore_n 2, 1, [], []), (72, .goto (-26), 3, [46, 1, 1, 1, 1, 0, 0], []), (75, .aload_n 0, 1, [], []), (76, .invokevirtual 105, 3, [1, 10, 137, 1, 1], []), (79, .ifCond .ne 10, 3, [89, 0], []), (82, .iconst (-1), 1, [], []), (83, .aload_n 0, 1, [], []), (84, .getfield 79, 3, [10, 8], []), (87, .isub, 1, [], []), (88, .ireturn, 1, [], []), (89, .aload_n 0, 1, [], []), (90, .invokevirtual 108, 3, [1, 10, 208, 2, 0], []), (93, .iconst 0, 1, [0], []), (94, .istore_n 3, 1, [], []), (95, .iload_n 3, 1, [], [1, 1, 1, 1, 0]), (96, .sipush 1432, 3, [1432], []), (99, .if_icmp .ge 26, 3, [125, 0], []), (102, .iload_n 3, 1, [], []), (103, .iconst 2, 1, [2], []), (104, .bipush 14, 2, [14], []), (106, .invokestatic 59, 3, [3, 115, 3, 1], []), (109, .ifCond .ne 10, 3, [119, 0], []), (112, .aload_n 0, 1, [], []), (113, .getfield 9, 3, [10, 0], []), (116, .iload_n 3, 1, [], []), (117, .iconst 0, 1, [0], []), (118, .iastore, 1, [], []), (119, .iinc 3 1, 3, [], []), (122, .goto (-27), 3, [95, 1, 1, 1, 1, 1, 0], []), (125, .aload_n 0, 1, [], []), (126, .getfield 9, 3, [10, 0], []), (129, .iconst 0, 1, [0], []), (130, .iload_n 1, 1, [], []), (131, .iastore, 1, [], []), (132, .iconst 0, 1, [0], []), (133, .istore_n 3, 1, [], []), (134, .iload_n 3, 1, [], [1, 0, 1, 1, 0]), (135, .aload_n 0, 1, [], []), (136, .getfield 21, 3, [10, 9], []), (139, .arraylength, 1, [], []), (140, .if_icmp .ge 34, 3, [174, 0], []), (143, .aload_n 0, 1, [], []), (144, .getfield 9, 3, [10, 0], []), (147, .bipush 15, 2, [15], []), (149, .iload_n 3, 1, [], []), (150, .iadd, 1, [], []), (151, .aload_n 0, 1, [], []), (152, .getfield 21, 3, [10, 9], []), (155, .iload_n 3, 1, [], []), (156, .iaload, 1, [], []), (157, .iastore, 1, [], []), (158, .aload_n 0, 1, [], []), (159, .getfield 9, 3, [10, 0], []), (162, .bipush 51, 2, [51], []), (164, .iload_n 3, 1, [], []), (165, .iadd, 1, [], []), (166, .iconst 1, 1, [1], []), (167, .iastore, 1, [], []), (168, .iinc 3 1, 3, [], []), (171, .goto (-37), 3, [134, 1, 1, 0, 1, 1, 0], []), (174, .iconst 0, 1, [0], []), (175, .istore_n 3, 1, [], []), (176, .iload_n 3, 1, [], [1, 0, 1, 1, 0]), (177, .bipush 6, 2, [6], []), (179, .if_icmp .ge 60, 3, [239, 0], []), (182, .aload_n 0, 1, [], []), (183, .getfield 9, 3, [10, 0], []), (186, .sipush 135, 3, [135], []), (189, .iload_n 3, 1, [], []), (190, .iadd, 1, [], []), (191, .iconst (-1), 1, [], []), (192, .iastore, 1, [], []), (193, .iconst 0, 1, [0], []), (194, .istore 4, 2, [], []), (196, .iload 4, 2, [], [1, 0, 1, 1, 1]), (198, .iconst 4, 1, [4], []), (199, .if_icmp .ge 34, 3, [233, 0], []), (202, .aload_n 0, 1, [], []), (203, .getfield 9, 3, [10, 0], []), (206, .sipush 1131, 3, [1131], []), (209, .iload_n 3, 1, [], []), (210, .iload 4, 2, [], []), (212, .invokestatic 67, 3, [2, 125, 2, 1], []), (215, .iadd, 1, [], []), (216, .aload_n 0, 1, [], []), (217, .getfield 9, 3, [10, 0], []), (220, .bipush 9, 2, [9], []), (222, .iload 4, 2, [], []), (224, .iadd, 1, [], []), (225, .iaload, 1, [], []), (226, .iastore, 1, [], []), (227, .iinc 4 1, 3, [], []), (230, .goto (-34), 3, [196, 1, 1, 0, 1, 1, 1], []), (233, .iinc 3 1, 3, [], []), (236, .goto (-60), 3, [176, 1, 1, 0, 1, 1, 0], []), (239, .iload_n 2, 1, [], []), (240, .ireturn, 1, [], [])]
def k_X10_highOf : List mE := [(0, .iload_n 0, 1, [], []), (1, .ifCond .ne 6, 3, [7, 0], []), (4, .bipush 10, 2, [10], []), (6, .ireturn, 1, [], []), (7, .iload_n 0, 1, [], []), (8, .iconst 1, 1, [1], []), (9, .if_icmp .ne 5, 3, [14, 0], []), (12, .iconst 4, 1, [4], []), (13, .ireturn, 1, [], []), (14, .iload_n 0, 1, [], []), (15, .iconst 2, 1, [2], []), (16, .if_icmp .ne 6, 3, [22, 0], []), (19, .bipush 7, 2, [7], []), (21, .ireturn, 1, [], []), (22, .iload_n 0, 1, [], []), (23, .bipush 7, 2, [7], []), (25, .if_icmp .ge 8, 3, [33, 0], []), (28, .bipush 9, 2, [9], []), (30, .goto 16, 3, [46, 0], []), (33, .iload_n 0, 1, [], []), (34, .bipush 11, 2, [11], []), (36, .if_icmp .ge 8, 3, [44, 0], []), (39, .bipush 31, 2, [31], []), (41, .goto 5, 3, [46, 0], []), (44, .bipush 63, 2, [63], []), (46, .ireturn, 1, [], [])]
def k_X10_sets : List mE := [(0, .aload_n 0, 1, [], []), (1, .iconst 0, 1, [0], []), (2, .putfield 52, 3, [10, 5], []), (5, .iload_n 1, 1, [], []), (6, .iconst 0, 1, [0], []), (7, .bipush 12, 2, [12], []), (9, .invokestatic 59, 3, [3, 115, 3, 1], []), (12, .ifCond .eq 21, 3, [33, 0], []), (15, .iload_n 1, 1, [], []), (16, .bipush 12, 2, [12], []), (18, .if_icmp .eq 17, 3, [35, 0], []), (21, .iload_n 2, 1, [], []), (22, .iconst 1, 1, [1], []), (23, .iload_n 1, 1, [], []), (24, .invokestatic 111, 3, [1, 140, 1, 1], []), (27, .invokestatic 59, 3, [3, 115, 3, 1], []), (30, .ifCond .ne 5, 3, [35, 0], []), (33, .iconst (-1), 1, [], []), (34, .ireturn, 1, [], []), (35, .aload_n 0, 1, [], []), (36, .getfield 9, 3, [10, 0], []), (39, .iconst 2, 1, [2], []), (40, .iload_n 1, 1, [], []), (41, .iadd, 1, [], []), (42, .iaload, 1, [], []), (43, .istore_n 3, 1, [], []), (44, .iload_n 1, 1, [], []), (45, .bipush 12, 2, [12], []), (47, .if_icmp .eq 11, 3, [58, 0], []), (50, .iload_n 3, 1, [], []), (51, .iload_n 2, 1, [], []), (52, .if_icmp .ne 6, 3, [58, 0], []), (55, .bipush (-2), 2, [], []), (57, .ireturn, 1, [], []), (58, .aload_n 0, 1, [], []), (59, .invokevirtual 108, 3, [1, 10, 208, 2, 0], []), (62, .aload_n 0, 1, [], []), (63, .getfield 9, 3, [10, 0], []), (66, .iconst 2, 1, [2], []), (67, .iload_n 1, 1, [], []), (68, .iadd, 1, [], []), (69, .iload_n 2, 1, [], []), (70, .iastore, 1, [], []), (71, .iload_n 1, 1, [], []), (72, .bipush 12, 2, [12], []), (74, .if_icmp .ne 8, 3, [82, 0], []), (77, .bipush 100, 2, [100], []), (79, .goto 7, 3, [86, 0], []), (82, .bipush 100, 2, [100], []), (84, .iload_n 3, 1, [], []), (85, .iadd, 1, [], []), (86, .ireturn, 1, [], [])]
def k_X10_setting : List mE := [(0, .aload_n 0, 1, [], []), (1, .iconst 0, 1, [0], []), (2, .putfield 52, 3, [10, 5], []), (5, .iload_n 1, 1, [], []), (6, .iconst 0, 1, [0], []), (7, .bipush 12, 2, [12], []), (9, .invokestatic 59, 3, [3, 115, 3, 1], []), (12, .ifCond .eq 14, 3, [26, 0], []), (15, .aload_n 0, 1, [], []), (16, .getfield 9, 3, [10, 0], []), (19, .iconst 2, 1, [2], []), (20, .iload_n 1, 1, [], []), (21, .iadd, 1, [], []), (22, .iaload, 1, [], []), (23, .goto 7, 3, [30, 0], []), (26, .aload_n 0, 1, [], []), (27, .invokevirtual 114, 3, [1, 10, 117, 1, 1], []), (30, .ireturn, 1, [], [])]
def k_X10_goesOn : List mE := [(0, .iconst 0, 1, [0], []), (1, .istore_n 1, 1, [], []), (2, .iload_n 1, 1, [], [1, 1]), (3, .aload_n 0, 1, [], []), (4, .getfield 9, 3, [10, 0], []), (7, .iconst 0, 1, [0], []), (8, .iaload, 1, [], []), (9, .if_icmp .ge 26, 3, [35, 0], []), (12, .aload_n 0, 1, [], []), (13, .getfield 9, 3, [10, 0], []), (16, .iload_n 1, 1, [], []), (17, .invokestatic 117, 3, [1, 127, 1, 1], []), (20, .iconst 0, 1, [0], []), (21, .iadd, 1, [], []), (22, .iaload, 1, [], []), (23, .iconst 1, 1, [1], []), (24, .if_icmp .ne 5, 3, [29, 0], []), (27, .iconst 1, 1, [1], []), (28, .ireturn, 1, [1], []), (29, .iinc 1 1, 3, [], []), (32, .goto (-30), 3, [2, 1, 1, 1], []), (35, .iconst 0, 1, [0], []), (36, .ireturn, 1, [1], [])]
def k_X10_sheet : List mE := [(0, .aload_n 0, 1, [], []), (1, .iconst 0, 1, [0], []), (2, .putfield 52, 3, [10, 5], []), (5, .iload_n 1, 1, [], []), (6, .invokestatic 120, 3, [1, 122, 1, 1], []), (9, .ifCond .eq 18, 3, [27, 0], []), (12, .iload_n 2, 1, [], []), (13, .iconst 0, 1, [0], []), (14, .iconst 3, 1, [3], []), (15, .invokestatic 59, 3, [3, 115, 3, 1], []), (18, .ifCond .eq 9, 3, [27, 0], []), (21, .iload_n 3, 1, [], []), (22, .bipush 6, 2, [6], []), (24, .if_icmp .le 5, 3, [29, 0], []), (27, .iconst (-1), 1, [], []), (28, .ireturn, 1, [], []), (29, .aload_n 0, 1, [], []), (30, .invokevirtual 124, 3, [1, 10, 143, 2, 1], []), (33, .ifCond .eq 6, 3, [39, 0], []), (36, .bipush (-4), 2, [], []), (38, .ireturn, 1, [], []), (39, .iload_n 2, 1, [], []), (40, .iconst 3, 1, [3], []), (41, .if_icmp .ge 10, 3, [51, 0], []), (44, .iload_n 3, 1, [], []), (45, .ifCond .ge 6, 3, [51, 0], []), (48, .bipush (-2), 2, [], []), (50, .ireturn, 1, [], []), (51, .iconst 0, 1, [0], []), (52, .istore 6, 2, [], []), (54, .iload 4, 2, [], []), (56, .istore 7, 2, [], []), (58, .iconst 0, 1, [0], []), (59, .istore 8, 2, [], []), (61, .iload 8, 2, [], [1, 1, 1, 1, 0, 1, 1, 1, 1, 0, 0]), (63, .aload_n 0, 1, [], []), (64, .getfield 9, 3, [10, 0], []), (67, .iconst 0, 1, [0], []), (68, .iaload, 1, [], []), (69, .if_icmp .ge 117, 3, [186, 0], []), (72, .iload_n 2, 1, [], []), (73, .ifCond .ne 9, 3, [82, 0], []), (76, .iload 7, 2, [], []), (78, .i2b, 1, [], []), (79, .goto 16, 3, [95, 0], []), (82, .iload_n 2, 1, [], []), (83, .iconst 1, 1, [1], []), (84, .if_icmp .ne 9, 3, [93, 0], []), (87, .iload 7, 2, [], []), (89, .i2s, 1, [], []), (90, .goto 5, 3, [95, 0], []), (93, .iload 7, 2, [], []), (95, .istore 9, 2, [], [1, 1, 1, 1, 0, 1, 1, 1, 1, 0, 0]), (97, .aload_n 0, 1, [], []), (98, .getfield 9, 3, [10, 0], []), (101, .sipush 147, 3, [147], []), (104, .iload 8, 2, [], []), (106, .iload_n 1, 1, [], []), (107, .invokestatic 67, 3, [2, 125, 2, 1], []), (110, .iadd, 1, [], []), (111, .iconst 0, 1, [0], []), (112, .iastore, 1, [], []), (113, .iload 8, 2, [], []), (115, .iconst 1, 1, [1], []), (116, .iadd, 1, [], []), (117, .aload_n 0, 1, [], []), (118, .getfield 9, 3, [10, 0], []), (121, .iconst 0, 1, [0], []), (122, .iaload, 1, [], []), (123, .irem, 1, [], []), (124, .istore 10, 2, [], []), (126, .iload_n 2, 1, [], []), (127, .iconst 3, 1, [3], []), (128, .if_icmp .ge 45, 3, [173, 0], []), (131, .iload 8, 2, [], []), (133, .iload_n 3, 1, [], []), (134, .if_icmp .ge 39, 3, [173, 0], []), (137, .iload 9, 2, [], []), (139, .ifCond .le 34, 3, [173, 0], []), (142, .aload_n 0, 1, [], []), (143, .iload 8, 2, [], []), (145, .iload 10, 2, [], []), (147, .invokevirtual 127, 3, [3, 10, 124, 3, 1], []), (150, .ifCond .eq 23, 3, [173, 0], []), (153, .aload_n 0, 1, [], []), (154, .iload 8, 2, [], []), (156, .iload_n 1, 1, [], []), (157, .iload 10, 2, [], []), (159, .iload 9, 2, [], []), (161, .bipush 9, 2, [9], []), (163, .irem, 1, [], []), (164, .iconst 1, 1, [1], []), (165, .iadd, 1, [], []), (166, .iconst 0, 1, [0], []), (167, .invokevirtual 131, 3, [6, 10, 145, 7, 0], []), (170, .iinc 6 1, 3, [], []), (173, .iload 7, 2, [], []), (175, .iload 5, 2, [], []), (177, .iadd, 1, [], []), (178, .istore 7, 2, [], []), (180, .iinc 8 1, 3, [], []), (183, .goto (-122), 3, [61, 1, 1, 1, 1, 1, 0, 1, 1, 1, 1, 0, 0], []), (186, .iload_n 2, 1, [], []), (187, .iconst 3, 1, [3], []), (188, .if_icmp .ne 8, 3, [196, 0], []), (191, .bipush (-3), 2, [], []), (193, .goto 5, 3, [198, 0], []), (196, .iload 6, 2, [], []), (198, .ireturn, 1, [], [])]
def k_X10_put : List mE := [(0, .iload_n 1, 1, [], []), (1, .iload_n 2, 1, [], []), (2, .aload_n 0, 1, [], []), (3, .getfield 9, 3, [10, 0], []), (6, .sipush 147, 3, [147], []), (9, .iload_n 1, 1, [], []), (10, .iload_n 2, 1, [], []), (11, .invokestatic 67, 3, [2, 125, 2, 1], []), (14, .iadd, 1, [], []), (15, .iaload, 1, [], []), (16, .invokestatic 135, 3, [3, 126, 3, 1], []), (19, .istore 6, 2, [], []), (21, .aload_n 0, 1, [], []), (22, .getfield 9, 3, [10, 0], []), (25, .iload 6, 2, [], []), (27, .iload_n 3, 1, [], []), (28, .iastore, 1, [], []), (29, .aload_n 0, 1, [], []), (30, .getfield 9, 3, [10, 0], []), (33, .iload 6, 2, [], []), (35, .iconst 1, 1, [1], []), (36, .iadd, 1, [], []), (37, .iload 4, 2, [], []), (39, .iastore, 1, [], []), (40, .aload_n 0, 1, [], []), (41, .getfield 9, 3, [10, 0], []), (44, .iload 6, 2, [], []), (46, .iconst 2, 1, [2], []), (47, .iadd, 1, [], []), (48, .iconst 0, 1, [0], []), (49, .iastore, 1, [], []), (50, .aload_n 0, 1, [], []), (51, .getfield 9, 3, [10, 0], []), (54, .iload 6, 2, [], []), (56, .iconst 3, 1, [3], []), (57, .iadd, 1, [], []), (58, .aload_n 0, 1, [], []), (59, .getfield 9, 3, [10, 0], []), (62, .iconst 1, 1, [1], []), (63, .iaload, 1, [], []), (64, .iastore, 1, [], []), (65, .aload_n 0, 1, [], []), (66, .getfield 9, 3, [10, 0], []), (69, .iload 6, 2, [], []), (71, .iconst 4, 1, [4], []), (72, .iadd, 1, [], []), (73, .iload 5, 2, [], []), (75, .iastore, 1, [], []), (76, .aload_n 0, 1, [], []), (77, .getfield 9, 3, [10, 0], []), (80, .sipush 147, 3, [147], []), (83, .iload_n 1, 1, [], []), (84, .iload_n 2, 1, [], []), (85, .invokestatic 67, 3, [2, 125, 2, 1], []), (88, .iadd, 1, [], []), (89, .dup2, 1, [], []), (90, .iaload, 1, [], []), (91, .iconst 1, 1, [1], []), (92, .iadd, 1, [], []), (93, .iastore, 1, [], []), (94, .return_, 1, [], [])]
def k_X10_leaves : List mE := [(0, .aload_n 0, 1, [], []), (1, .getfield 9, 3, [10, 0], []), (4, .sipush 147, 3, [147], []), (7, .iload_n 1, 1, [], []), (8, .iload_n 2, 1, [], []), (9, .invokestatic 67, 3, [2, 125, 2, 1], []), (12, .iadd, 1, [], []), (13, .dup2, 1, [], []), (14, .iaload, 1, [], []), (15, .iconst 1, 1, [1], []), (16, .isub, 1, [], []), (17, .iastore, 1, [], []), (18, .iload_n 3, 1, [], []), (19, .istore 4, 2, [], []), (21, .iload 4, 2, [], [1, 1, 1, 0, 1, 0]), (23, .aload_n 0, 1, [], []), (24, .getfield 9, 3, [10, 0], []), (27, .sipush 147, 3, [147], []), (30, .iload_n 1, 1, [], []), (31, .iload_n 2, 1, [], []), (32, .invokestatic 67, 3, [2, 125, 2, 1], []), (35, .iadd, 1, [], []), (36, .iaload, 1, [], []), (37, .if_icmp .ge 56, 3, [93, 0], []), (40, .iconst 0, 1, [0], []), (41, .istore 5, 2, [], []), (43, .iload 5, 2, [], [1, 1, 1, 0, 1, 1]), (45, .iconst 5, 1, [5], []), (46, .if_icmp .ge 41, 3, [87, 0], []), (49, .aload_n 0, 1, [], []), (50, .getfield 9, 3, [10, 0], []), (53, .iload_n 1, 1, [], []), (54, .iload_n 2, 1, [], []), (55, .iload 4, 2, [], []), (57, .invokestatic 135, 3, [3, 126, 3, 1], []), (60, .iload 5, 2, [], []), (62, .iadd, 1, [], []), (63, .aload_n 0, 1, [], []), (64, .getfield 9, 3, [10, 0], []), (67, .iload_n 1, 1, [], []), (68, .iload_n 2, 1, [], []), (69, .iload 4, 2, [], []), (71, .iconst 1, 1, [1], []), (72, .iadd, 1, [], []), (73, .invokestatic 135, 3, [3, 126, 3, 1], []), (76, .iload 5, 2, [], []), (78, .iadd, 1, [], []), (79, .iaload, 1, [], []), (80, .iastore, 1, [], []), (81, .iinc 5 1, 3, [], []), (84, .goto (-41), 3, [43, 1, 1, 1, 1, 0, 1, 1], []), (87, .iinc 4 1, 3, [], []), (90, .goto (-69), 3, [21, 1, 1, 1, 1, 0, 1, 0], []), (93, .return_, 1, [], [])]
def k_X10_refusesOffer : List mE := [(0, .aload_n 0, 1, [], []), (1, .iload_n 1, 1, [], []), (2, .invokevirtual 139, 3, [2, 10, 121, 2, 1], []), (5, .ifCond .eq 34, 3, [39, 0], []), (8, .iload_n 2, 1, [], []), (9, .invokestatic 120, 3, [1, 122, 1, 1], []), (12, .ifCond .eq 27, 3, [39, 0], []), (15, .aload_n 0, 1, [], []), (16, .iload_n 3, 1, [], []), (17, .invokevirtual 139, 3, [2, 10, 121, 2, 1], []), (20, .ifCond .eq 19, 3, [39, 0], []), (23, .iload_n 1, 1, [], []), (24, .iload_n 3, 1, [], []), (25, .if_icmp .eq 14, 3, [39, 0], []), (28, .iload 4, 2, [], []), (30, .iconst 1, 1, [1], []), (31, .bipush 9, 2, [9], []), (33, .invokestatic 59, 3, [3, 115, 3, 1], []), (36, .ifCond .ne 5, 3, [41, 0], []), (39, .iconst (-1), 1, [], []), (40, .ireturn, 1, [], []), (41, .aload_n 0, 1, [], []), (42, .iload_n 1, 1, [], []), (43, .iload_n 3, 1, [], []), (44, .invokevirtual 127, 3, [3, 10, 124, 3, 1], []), (47, .ifCond .ne 8, 3, [55, 0], []), (50, .bipush (-3), 2, [], []), (52, .goto 28, 3, [80, 0], []), (55, .aload_n 0, 1, [], []), (56, .getfield 9, 3, [10, 0], []), (59, .sipush 147, 3, [147], []), (62, .iload_n 1, 1, [], []), (63, .iload_n 2, 1, [], []), (64, .invokestatic 67, 3, [2, 125, 2, 1], []), (67, .iadd, 1, [], []), (68, .iaload, 1, [], []), (69, .bipush 8, 2, [8], []), (71, .if_icmp .ne 8, 3, [79, 0], []), (74, .bipush (-2), 2, [], []), (76, .goto 4, 3, [80, 0], []), (79, .iconst 0, 1, [0], []), (80, .ireturn, 1, [], [])]
def k_X10_offers : List mE := [(0, .aload_n 0, 1, [], []), (1, .iconst 0, 1, [0], []), (2, .putfield 52, 3, [10, 5], []), (5, .aload_n 0, 1, [], []), (6, .iload_n 1, 1, [], []), (7, .iload_n 2, 1, [], []), (8, .iload_n 3, 1, [], []), (9, .iload 4, 2, [], []), (11, .invokevirtual 142, 3, [5, 10, 147, 5, 1], []), (14, .istore 5, 2, [], []), (16, .iload 5, 2, [], []), (18, .ifCond .ge 6, 3, [24, 0], []), (21, .iload 5, 2, [], []), (23, .ireturn, 1, [], []), (24, .aload_n 0, 1, [], []), (25, .invokevirtual 108, 3, [1, 10, 208, 2, 0], []), (28, .aload_n 0, 1, [], []), (29, .iload_n 1, 1, [], []), (30, .iload_n 2, 1, [], []), (31, .iload_n 3, 1, [], []), (32, .iload 4, 2, [], []), (34, .iconst 0, 1, [0], []), (35, .invokevirtual 131, 3, [6, 10, 145, 7, 0], []), (38, .aload_n 0, 1, [], []), (39, .getfield 9, 3, [10, 0], []), (42, .sipush 147, 3, [147], []), (45, .iload_n 1, 1, [], []), (46, .iload_n 2, 1, [], []), (47, .invokestatic 67, 3, [2, 125, 2, 1], []), (50, .iadd, 1, [], []), (51, .iaload, 1, [], []), (52, .ireturn, 1, [], [])]
def k_X10_isFree : List mE := [(0, .aload_n 0, 1, [], []), (1, .getfield 9, 3, [10, 0], []), (4, .iload_n 1, 1, [], []), (5, .invokestatic 117, 3, [1, 127, 1, 1], []), (8, .iconst 0, 1, [0], []), (9, .iadd, 1, [], []), (10, .iaload, 1, [], []), (11, .ifCond .ne 31, 3, [42, 0], []), (14, .aload_n 0, 1, [], []), (15, .getfield 9, 3, [10, 0], []), (18, .sipush 135, 3, [135], []), (21, .iload_n 1, 1, [], []), (22, .iadd, 1, [], []), (23, .iaload, 1, [], []), (24, .iconst (-1), 1, [], []), (25, .if_icmp .ne 17, 3, [42, 0], []), (28, .aload_n 0, 1, [], []), (29, .getfield 24, 3, [10, 10], []), (32, .iload_n 1, 1, [], []), (33, .iaload, 1, [], []), (34, .iconst (-1), 1, [], []), (35, .if_icmp .ne 7, 3, [42, 0], []), (38, .iconst 1, 1, [1], []), (39, .goto 4, 3, [43, 0], []), (42, .iconst 0, 1, [0], []), (43, .ireturn, 1, [1], [])]
def k_X10_isReady : List mE := [(0, .aload_n 0, 1, [], []), (1, .getfield 9, 3, [10, 0], []), (4, .sipush 147, 3, [147], []), (7, .iload_n 1, 1, [], []), (8, .iload_n 2, 1, [], []), (9, .invokestatic 67, 3, [2, 125, 2, 1], []), (12, .iadd, 1, [], []), (13, .iaload, 1, [], []), (14, .ifCond .le 44, 3, [58, 0], []), (17, .aload_n 0, 1, [], []), (18, .getfield 9, 3, [10, 0], []), (21, .sipush 1155, 3, [1155], []), (24, .iload_n 1, 1, [], []), (25, .iload_n 2, 1, [], []), (26, .invokestatic 67, 3, [2, 125, 2, 1], []), (29, .iadd, 1, [], []), (30, .iaload, 1, [], []), (31, .ifCond .ne 27, 3, [58, 0], []), (34, .aload_n 0, 1, [], []), (35, .getfield 9, 3, [10, 0], []), (38, .iconst 5, 1, [5], []), (39, .iload_n 2, 1, [], []), (40, .iadd, 1, [], []), (41, .iaload, 1, [], []), (42, .aload_n 0, 1, [], []), (43, .getfield 9, 3, [10, 0], []), (46, .bipush 123, 2, [123], []), (48, .iload_n 1, 1, [], []), (49, .iadd, 1, [], []), (50, .iaload, 1, [], []), (51, .if_icmp .gt 7, 3, [58, 0], []), (54, .iconst 1, 1, [1], []), (55, .goto 4, 3, [59, 0], []), (58, .iconst 0, 1, [0], []), (59, .ireturn, 1, [1], [])]
def k_X10_had : List mE := [(0, .aload_n 0, 1, [], []), (1, .getfield 9, 3, [10, 0], []), (4, .sipush 1275, 3, [1275], []), (7, .bipush 9, 2, [9], []), (9, .iload_n 1, 1, [], []), (10, .imul, 1, [], []), (11, .iadd, 1, [], []), (12, .iload_n 2, 1, [], []), (13, .iadd, 1, [], []), (14, .dup2, 1, [], []), (15, .iaload, 1, [], []), (16, .iload_n 3, 1, [], []), (17, .iadd, 1, [], []), (18, .iastore, 1, [], []), (19, .return_, 1, [], [])]
def k_X10_drawsCount : List mE := [(0, .aload_n 0, 1, [], []), (1, .getfield 9, 3, [10, 0], []), (4, .sipush 1155, 3, [1155], []), (7, .iload_n 1, 1, [], []), (8, .iload_n 2, 1, [], []), (9, .invokestatic 67, 3, [2, 125, 2, 1], []), (12, .iadd, 1, [], []), (13, .aload_n 0, 1, [], []), (14, .aload_n 0, 1, [], []), (15, .getfield 9, 3, [10, 0], []), (18, .sipush 1131, 3, [1131], []), (21, .iload_n 1, 1, [], []), (22, .iload_n 2, 1, [], []), (23, .invokestatic 67, 3, [2, 125, 2, 1], []), (26, .iadd, 1, [], []), (27, .iaload, 1, [], []), (28, .iconst 1, 1, [1], []), (29, .iadd, 1, [], []), (30, .invokevirtual 146, 3, [2, 10, 128, 2, 1], []), (33, .iastore, 1, [], []), (34, .return_, 1, [], [])]
def k_X10_isLost : List mE := [(0, .aload_n 0, 1, [], []), (1, .iload_n 1, 1, [], []), (2, .iload_n 2, 1, [], []), (3, .iload_n 3, 1, [], []), (4, .invokevirtual 149, 3, [4, 10, 146, 6, 0], []), (7, .aload_n 0, 1, [], []), (8, .iload_n 1, 1, [], []), (9, .iconst 2, 1, [2], []), (10, .iconst 1, 1, [1], []), (11, .invokevirtual 153, 3, [4, 10, 151, 4, 0], []), (14, .aload_n 0, 1, [], []), (15, .getfield 9, 3, [10, 0], []), (18, .sipush 1337, 3, [1337], []), (21, .dup2, 1, [], []), (22, .iaload, 1, [], []), (23, .iconst 1, 1, [1], []), (24, .iadd, 1, [], []), (25, .iastore, 1, [], []), (26, .return_, 1, [], [])]
def k_X10_fails : List mE := [(0, .iload_n 1, 1, [], []), (1, .iload_n 2, 1, [], []), (2, .iconst 0, 1, [0], []), (3, .invokestatic 135, 3, [3, 126, 3, 1], []), (6, .istore_n 3, 1, [], []), (7, .aload_n 0, 1, [], []), (8, .getfield 9, 3, [10, 0], []), (11, .iload_n 3, 1, [], []), (12, .iconst 2, 1, [2], []), (13, .iadd, 1, [], []), (14, .dup2, 1, [], []), (15, .iaload, 1, [], []), (16, .iconst 1, 1, [1], []), (17, .iadd, 1, [], []), (18, .iastore, 1, [], []), (19, .sipush 1131, 3, [1131], []), (22, .iload_n 1, 1, [], []), (23, .iload_n 2, 1, [], []), (24, .invokestatic 67, 3, [2, 125, 2, 1], []), (27, .iadd, 1, [], []), (28, .istore 4, 2, [], []), (30, .aload_n 0, 1, [], []), (31, .getfield 9, 3, [10, 0], []), (34, .iload_n 3, 1, [], []), (35, .iconst 2, 1, [2], []), (36, .iadd, 1, [], []), (37, .iaload, 1, [], []), (38, .aload_n 0, 1, [], []), (39, .getfield 9, 3, [10, 0], []), (42, .iconst 4, 1, [4], []), (43, .iaload, 1, [], []), (44, .if_icmp .lt 29, 3, [73, 0], []), (47, .aload_n 0, 1, [], []), (48, .iload_n 1, 1, [], []), (49, .iload_n 2, 1, [], []), (50, .iconst 0, 1, [0], []), (51, .invokevirtual 156, 3, [4, 10, 153, 4, 0], []), (54, .aload_n 0, 1, [], []), (55, .getfield 9, 3, [10, 0], []), (58, .iload 4, 2, [], []), (60, .aload_n 0, 1, [], []), (61, .getfield 9, 3, [10, 0], []), (64, .bipush 9, 2, [9], []), (66, .iload_n 2, 1, [], []), (67, .iadd, 1, [], []), (68, .iaload, 1, [], []), (69, .iastore, 1, [], []), (70, .goto 31, 3, [101, 0], []), (73, .aload_n 0, 1, [], []), (74, .getfield 9, 3, [10, 0], []), (77, .iload 4, 2, [], []), (79, .iconst 2, 1, [2], []), (80, .aload_n 0, 1, [], []), (81, .getfield 9, 3, [10, 0], []), (84, .iload 4, 2, [], []), (86, .iaload, 1, [], []), (87, .imul, 1, [], []), (88, .iconst 1, 1, [1], []), (89, .iadd, 1, [], []), (90, .aload_n 0, 1, [], []), (91, .getfield 9, 3, [10, 0], []), (94, .bipush 13, 2, [13], []), (96, .iaload, 1, [], []), (97, .invokestatic 159, 3, [1001], []), (100, .iastore, 1, [], []), (101, .aload_n 0, 1, [], []), (102, .iload_n 1, 1, [], []), (103, .iload_n 2, 1, [], []), (104, .invokevirtual 164, 3, [3, 10, 152, 3, 0], []), (107, .return_, 1, [], [])]
def k_X10_roundedUp : List mE := [(0, .iload_n 0, 1, [], []), (1, .iload_n 1, 1, [], []), (2, .iadd, 1, [], []), (3, .iconst 1, 1, [1], []), (4, .isub, 1, [], []), (5, .iload_n 1, 1, [], []), (6, .idiv, 1, [], []), (7, .ireturn, 1, [], [])]
def k_X10_begins : List mE := [(0, .iload_n 1, 1, [], []), (1, .invokestatic 117, 3, [1, 127, 1, 1], []), (4, .istore_n 3, 1, [], []), (5, .iconst 0, 1, [0], []), (6, .istore 4, 2, [], []), (8, .iload 4, 2, [], [1, 1, 1, 1, 1, 0, 0, 0]), (10, .bipush 16, 2, [16], []), (12, .if_icmp .ge 19, 3, [31, 0], []), (15, .aload_n 0, 1, [], []), (16, .getfield 9, 3, [10, 0], []), (19, .iload_n 3, 1, [], []), (20, .iload 4, 2, [], []), (22, .iadd, 1, [], []), (23, .iconst 0, 1, [0], []), (24, .iastore, 1, [], []), (25, .iinc 4 1, 3, [], []), (28, .goto (-20), 3, [8, 1, 1, 1, 1, 1, 1, 0, 0, 0], []), (31, .aload_n 0, 1, [], []), (32, .getfield 9, 3, [10, 0], []), (35, .iload_n 1, 1, [], []), (36, .iload_n 2, 1, [], []), (37, .iconst 0, 1, [0], []), (38, .invokestatic 135, 3, [3, 126, 3, 1], []), (41, .iaload, 1, [], []), (42, .istore 4, 2, [], []), (44, .iconst 0, 1, [0], []), (45, .istore 5, 2, [], []), (47, .iconst 0, 1, [0], []), (48, .istore 6, 2, [], []), (50, .iload 5, 2, [], [1, 1, 1, 1, 1, 1, 1, 0]), (52, .aload_n 0, 1, [], []), (53, .getfield 9, 3, [10, 0], []), (56, .sipush 147, 3, [147], []), (59, .iload_n 1, 1, [], []), (60, .iload_n 2, 1, [], []), (61, .invokestatic 67, 3, [2, 125, 2, 1], []), (64, .iadd, 1, [], []), (65, .iaload, 1, [], []), (66, .if_icmp .ge 98, 3, [164, 0], []), (69, .iload 5, 2, [], []), (71, .aload_n 0, 1, [], []), (72, .getfield 9, 3, [10, 0], []), (75, .iconst 3, 1, [3], []), (76, .iaload, 1, [], []), (77, .if_icmp .ge 87, 3, [164, 0], []), (80, .aload_n 0, 1, [], []), (81, .getfield 9, 3, [10, 0], []), (84, .iload_n 1, 1, [], []), (85, .iload_n 2, 1, [], []), (86, .iload 5, 2, [], []), (88, .invokestatic 135, 3, [3, 126, 3, 1], []), (91, .iaload, 1, [], []), (92, .iload 4, 2, [], []), (94, .if_icmp .ne 70, 3, [164, 0], []), (97, .aload_n 0, 1, [], []), (98, .getfield 9, 3, [10, 0], []), (101, .iload_n 3, 1, [], []), (102, .bipush 11, 2, [11], []), (104, .iadd, 1, [], []), (105, .iload 5, 2, [], []), (107, .iadd, 1, [], []), (108, .aload_n 0, 1, [], []), (109, .getfield 9, 3, [10, 0], []), (112, .iload_n 1, 1, [], []), (113, .iload_n 2, 1, [], []), (114, .iload 5, 2, [], []), (116, .invokestatic 135, 3, [3, 126, 3, 1], []), (119, .iconst 1, 1, [1], []), (120, .iadd, 1, [], []), (121, .iaload, 1, [], []), (122, .aload_n 0, 1, [], []), (123, .getfield 9, 3, [10, 0], []), (126, .bipush 51, 2, [51], []), (128, .bipush 6, 2, [6], []), (130, .iload_n 1, 1, [], []), (131, .imul, 1, [], []), (132, .iadd, 1, [], []), (133, .iload 4, 2, [], []), (135, .iadd, 1, [], []), (136, .iaload, 1, [], []), (137, .invokestatic 168, 3, [2, 155, 2, 1], []), (140, .iastore, 1, [], []), (141, .iload 6, 2, [], []), (143, .aload_n 0, 1, [], []), (144, .getfield 9, 3, [10, 0], []), (147, .iload_n 3, 1, [], []), (148, .bipush 11, 2, [11], []), (150, .iadd, 1, [], []), (151, .iload 5, 2, [], []), (153, .iadd, 1, [], []), (154, .iaload, 1, [], []), (155, .iadd, 1, [], []), (156, .istore 6, 2, [], []), (158, .iinc 5 1, 3, [], []), (161, .goto (-111), 3, [50, 1, 1, 1, 1, 1, 1, 1, 1, 0], []), (164, .iload 6, 2, [], []), (166, .aload_n 0, 1, [], []), (167, .getfield 9, 3, [10, 0], []), (170, .iconst 2, 1, [2], []), (171, .iaload, 1, [], []), (172, .if_icmp .lt 7, 3, [179, 0], []), (175, .iconst 1, 1, [1], []), (176, .goto 4, 3, [180, 0], []), (179, .iconst 0, 1, [0], []), (180, .istore 7, 2, [], [1, 1, 1, 1, 1, 1, 1, 0]), (182, .aload_n 0, 1, [], []), (183, .getfield 9, 3, [10, 0], []), (186, .iload_n 3, 1, [], []), (187, .iconst 0, 1, [0], []), (188, .iadd, 1, [], []), (189, .iconst 1, 1, [1], []), (190, .iastore, 1, [], []), (191, .aload_n 0, 1, [], []), (192, .getfield 9, 3, [10, 0], []), (195, .iload_n 3, 1, [], []), (196, .iconst 1, 1, [1], []), (197, .iadd, 1, [], []), (198, .iload 4, 2, [], []), (200, .iastore, 1, [], []), (201, .aload_n 0, 1, [], []), (202, .getfield 9, 3, [10, 0], []), (205, .iload_n 3, 1, [], []), (206, .iconst 2, 1, [2], []), (207, .iadd, 1, [], []), (208, .iload_n 2, 1, [], []), (209, .iastore, 1, [], []), (210, .aload_n 0, 1, [], []), (211, .getfield 9, 3, [10, 0], []), (214, .iload_n 3, 1, [], []), (215, .iconst 3, 1, [3], []), (216, .iadd, 1, [], []), (217, .iload 5, 2, [], []), (219, .iastore, 1, [], []), (220, .aload_n 0, 1, [], []), (221, .getfield 9, 3, [10, 0], []), (224, .iload_n 3, 1, [], []), (225, .iconst 4, 1, [4], []), (226, .iadd, 1, [], []), (227, .iload 7, 2, [], []), (229, .ifCond .eq 7, 3, [236, 0], []), (232, .iconst 0, 1, [0], []), (233, .goto 4, 3, [237, 0], []), (236, .iconst 2, 1, [2], []), (237, .iastore, 1, [], []), (238, .aload_n 0, 1, [], []), (239, .getfield 9, 3, [10, 0], []), (242, .iload_n 3, 1, [], []), (243, .iconst 5, 1, [5], []), (244, .iadd, 1, [], []), (245, .iload 6, 2, [], []), (247, .iastore, 1, [], []), (248, .aload_n 0, 1, [], []), (249, .getfield 9, 3, [10, 0], []), (252, .iload_n 3, 1, [], []), (253, .bipush 8, 2, [8], []), (255, .iadd, 1, [], []), (256, .aload_n 0, 1, [], []), (257, .getfield 9, 3, [10, 0], []), (260, .iload_n 3, 1, [], []), (261, .bipush 11, 2, [11], []), (263, .iadd, 1, [], []), (264, .iaload, 1, [], []), (265, .iastore, 1, [], []), (266, .aload_n 0, 1, [], []), (267, .getfield 9, 3, [10, 0], []), (270, .iload_n 3, 1, [], []), (271, .bipush 9, 2, [9], []), (273, .iadd, 1, [], []), (274, .iconst 1, 1, [1], []), (275, .iastore, 1, [], []), (276, .aload_n 0, 1, [], []), (277, .getfield 9, 3, [10, 0], []), (280, .iload_n 3, 1, [], []), (281, .bipush 10, 2, [10], []), (283, .iadd, 1, [], []), (284, .aload_n 0, 1, [], []), (285, .getfield 9, 3, [10, 0], []), (288, .iconst 1, 1, [1], []), (289, .iaload, 1, [], []), (290, .iload 7, 2, [], []), (292, .ifCond .eq 7, 3, [299, 0], []), (295, .iconst 2, 1, [2], []), (296, .goto 4, 3, [300, 0], []), (299, .iconst 0, 1, [0], []), (300, .iadd, 1, [], []), (301, .iload 6, 2, [], []), (303, .iadd, 1, [], []), (304, .iconst 1, 1, [1], []), (305, .iadd, 1, [], []), (306, .iastore, 1, [], []), (307, .aload_n 0, 1, [], []), (308, .iload_n 1, 1, [], []), (309, .iconst 3, 1, [3], []), (310, .iconst 1, 1, [1], []), (311, .invokevirtual 153, 3, [4, 10, 151, 4, 0], []), (314, .aload_n 0, 1, [], []), (315, .getfield 9, 3, [10, 0], []), (318, .sipush 1341, 3, [1341], []), (321, .dup2, 1, [], []), (322, .iaload, 1, [], []), (323, .iconst 1, 1, [1], []), (324, .iload_n 1, 1, [], []), (325, .ishl, 1, [], []), (326, .ior, 1, [], []), (327, .iastore, 1, [], []), (328, .return_, 1, [], [])]
def k_X10_stepBegin : List mE := [(0, .aload_n 0, 1, [], []), (1, .getfield 9, 3, [10, 0], []), (4, .sipush 1341, 3, [1341], []), (7, .iconst 0, 1, [0], []), (8, .iastore, 1, [], []), (9, .aload_n 0, 1, [], []), (10, .getfield 9, 3, [10, 0], []), (13, .sipush 1331, 3, [1331], []), (16, .iconst 0, 1, [0], []), (17, .iastore, 1, [], []), (18, .iconst 0, 1, [0], []), (19, .istore_n 1, 1, [], []), (20, .iload_n 1, 1, [], [1, 1, 0, 0]), (21, .aload_n 0, 1, [], []), (22, .getfield 9, 3, [10, 0], []), (25, .iconst 0, 1, [0], []), (26, .iaload, 1, [], []), (27, .if_icmp .ge 56, 3, [83, 0], []), (30, .aload_n 0, 1, [], []), (31, .getfield 24, 3, [10, 10], []), (34, .iload_n 1, 1, [], []), (35, .iconst (-1), 1, [], []), (36, .iastore, 1, [], []), (37, .aload_n 0, 1, [], []), (38, .getfield 27, 3, [10, 11], []), (41, .iload_n 1, 1, [], []), (42, .iconst 0, 1, [0], []), (43, .iastore, 1, [], []), (44, .aload_n 0, 1, [], []), (45, .getfield 9, 3, [10, 0], []), (48, .iconst 1, 1, [1], []), (49, .iaload, 1, [], []), (50, .aload_n 0, 1, [], []), (51, .getfield 9, 3, [10, 0], []), (54, .sipush 129, 3, [129], []), (57, .iload_n 1, 1, [], []), (58, .iadd, 1, [], []), (59, .iaload, 1, [], []), (60, .if_icmp .ge 17, 3, [77, 0], []), (63, .aload_n 0, 1, [], []), (64, .getfield 9, 3, [10, 0], []), (67, .sipush 1331, 3, [1331], []), (70, .dup2, 1, [], []), (71, .iaload, 1, [], []), (72, .iconst 1, 1, [1], []), (73, .iload_n 1, 1, [], []), (74, .ishl, 1, [], []), (75, .ior, 1, [], []), (76, .iastore, 1, [], []), (77, .iinc 1 1, 3, [], []), (80, .goto (-60), 3, [20, 1, 1, 1, 0, 0], []), (83, .iconst 0, 1, [0], []), (84, .istore_n 1, 1, [], []), (85, .iload_n 1, 1, [], [1, 1, 0, 0]), (86, .aload_n 0, 1, [], []), (87, .getfield 9, 3, [10, 0], []), (90, .iconst 0, 1, [0], []), (91, .iaload, 1, [], []), (92, .if_icmp .ge 103, 3, [195, 0], []), (95, .aload_n 0, 1, [], []), (96, .iload_n 1, 1, [], []), (97, .invokevirtual 171, 3, [2, 10, 149, 2, 1], []), (100, .ifCond .eq 89, 3, [189, 0], []), (103, .aload_n 0, 1, [], []), (104, .getfield 9, 3, [10, 0], []), (107, .sipush 1331, 3, [1331], []), (110, .iaload, 1, [], []), (111, .iload_n 1, 1, [], []), (112, .invokestatic 174, 3, [2, 116, 2, 1], []), (115, .ifCond .eq 6, 3, [121, 0], []), (118, .goto 71, 3, [189, 0], []), (121, .iconst 0, 1, [0], []), (122, .istore_n 2, 1, [], []), (123, .iconst 0, 1, [0], []), (124, .istore_n 3, 1, [], []), (125, .iload_n 3, 1, [], [1, 1, 1, 1]), (126, .iconst 4, 1, [4], []), (127, .if_icmp .ge 62, 3, [189, 0], []), (130, .aload_n 0, 1, [], []), (131, .iload_n 1, 1, [], []), (132, .iload_n 3, 1, [], []), (133, .invokevirtual 177, 3, [3, 10, 150, 3, 1], []), (136, .ifCond .ne 6, 3, [142, 0], []), (139, .goto 44, 3, [183, 0], []), (142, .iload_n 2, 1, [], []), (143, .ifCond .ne 12, 3, [155, 0], []), (146, .aload_n 0, 1, [], []), (147, .iload_n 1, 1, [], []), (148, .iload_n 3, 1, [], []), (149, .invokevirtual 180, 3, [3, 10, 156, 8, 0], []), (152, .goto 29, 3, [181, 0], []), (155, .aload_n 0, 1, [], []), (156, .iload_n 1, 1, [], []), (157, .iload_n 3, 1, [], []), (158, .invokevirtual 183, 3, [3, 10, 154, 5, 0], []), (161, .aload_n 0, 1, [], []), (162, .iload_n 1, 1, [], []), (163, .bipush 6, 2, [6], []), (165, .iconst 1, 1, [1], []), (166, .invokevirtual 153, 3, [4, 10, 151, 4, 0], []), (169, .aload_n 0, 1, [], []), (170, .getfield 9, 3, [10, 0], []), (173, .sipush 1339, 3, [1339], []), (176, .dup2, 1, [], []), (177, .iaload, 1, [], []), (178, .iconst 1, 1, [1], []), (179, .iadd, 1, [], []), (180, .iastore, 1, [], []), (181, .iconst 1, 1, [1], []), (182, .istore_n 2, 1, [], []), (183, .iinc 3 1, 3, [], []), (186, .goto (-61), 3, [125, 1, 1, 1, 1, 1], []), (189, .iinc 1 1, 3, [], []), (192, .goto (-107), 3, [85, 1, 1, 1, 0, 0], []), (195, .return_, 1, [], [])]
def k_X10_stepSend : List mE := [(0, .aload_n 0, 1, [], []), (1, .iconst 0, 1, [0], []), (2, .putfield 186, 3, [10, 12], []), (5, .iconst 0, 1, [0], []), (6, .istore_n 1, 1, [], []), (7, .iconst 0, 1, [0], []), (8, .istore_n 2, 1, [], []), (9, .iload_n 2, 1, [], [1, 1, 1, 0, 0]), (10, .aload_n 0, 1, [], []), (11, .getfield 9, 3, [10, 0], []), (14, .iconst 0, 1, [0], []), (15, .iaload, 1, [], []), (16, .if_icmp .ge 100, 3, [116, 0], []), (19, .iload_n 2, 1, [], []), (20, .invokestatic 117, 3, [1, 127, 1, 1], []), (23, .istore_n 3, 1, [], []), (24, .aload_n 0, 1, [], []), (25, .getfield 9, 3, [10, 0], []), (28, .iload_n 3, 1, [], []), (29, .iconst 0, 1, [0], []), (30, .iadd, 1, [], []), (31, .iaload, 1, [], []), (32, .iconst 1, 1, [1], []), (33, .if_icmp .ne 26, 3, [59, 0], []), (36, .aload_n 0, 1, [], []), (37, .getfield 9, 3, [10, 0], []), (40, .iload_n 3, 1, [], []), (41, .iconst 4, 1, [4], []), (42, .iadd, 1, [], []), (43, .iaload, 1, [], []), (44, .ifCond .eq 29, 3, [73, 0], []), (47, .aload_n 0, 1, [], []), (48, .getfield 9, 3, [10, 0], []), (51, .iload_n 3, 1, [], []), (52, .iconst 4, 1, [4], []), (53, .iadd, 1, [], []), (54, .iaload, 1, [], []), (55, .iconst 2, 1, [2], []), (56, .if_icmp .eq 17, 3, [73, 0], []), (59, .aload_n 0, 1, [], []), (60, .getfield 9, 3, [10, 0], []), (63, .sipush 135, 3, [135], []), (66, .iload_n 2, 1, [], []), (67, .iadd, 1, [], []), (68, .iaload, 1, [], []), (69, .iconst (-1), 1, [], []), (70, .if_icmp .eq 7, 3, [77, 0], []), (73, .iconst 1, 1, [1], []), (74, .goto 4, 3, [78, 0], []), (77, .iconst 0, 1, [0], []), (78, .istore 4, 2, [], [1, 1, 1, 0, 0]), (80, .iload 4, 2, [], []), (82, .ifCond .ne 6, 3, [88, 0], []), (85, .goto 25, 3, [110, 0], []), (88, .aload_n 0, 1, [], []), (89, .dup, 1, [], []), (90, .getfield 186, 3, [10, 12], []), (93, .iconst 1, 1, [1], []), (94, .iload_n 2, 1, [], []), (95, .ishl, 1, [], []), (96, .ior, 1, [], []), (97, .putfield 186, 3, [10, 12], []), (100, .iinc 1 1, 3, [], []), (103, .aload_n 0, 1, [], []), (104, .iload_n 2, 1, [], []), (105, .iconst 5, 1, [5], []), (106, .iconst 1, 1, [1], []), (107, .invokevirtual 153, 3, [4, 10, 151, 4, 0], []), (110, .iinc 2 1, 3, [], []), (113, .goto (-104), 3, [9, 1, 1, 1, 1, 0, 0], []), (116, .aload_n 0, 1, [], []), (117, .getfield 9, 3, [10, 0], []), (120, .sipush 1329, 3, [1329], []), (123, .aload_n 0, 1, [], []), (124, .getfield 186, 3, [10, 12], []), (127, .iastore, 1, [], []), (128, .aload_n 0, 1, [], []), (129, .getfield 9, 3, [10, 0], []), (132, .sipush 1332, 3, [1332], []), (135, .iconst 1, 1, [1], []), (136, .iastore, 1, [], []), (137, .aload_n 0, 1, [], []), (138, .getfield 9, 3, [10, 0], []), (141, .iload_n 1, 1, [], []), (142, .ifCond .ne 9, 3, [151, 0], []), (145, .sipush 1334, 3, [1334], []), (148, .goto 17, 3, [165, 0], []), (151, .iload_n 1, 1, [], []), (152, .iconst 1, 1, [1], []), (153, .if_icmp .ne 9, 3, [162, 0], []), (156, .sipush 1333, 3, [1333], []), (159, .goto 6, 3, [165, 0], []), (162, .sipush 1335, 3, [1335], []), (165, .dup2, 1, [], []), (166, .iaload, 1, [], []), (167, .iconst 1, 1, [1], []), (168, .iadd, 1, [], []), (169, .iastore, 1, [], []), (170, .aload_n 0, 1, [], []), (171, .getfield 9, 3, [10, 0], []), (174, .sipush 1330, 3, [1330], []), (177, .iconst 0, 1, [0], []), (178, .iastore, 1, [], []), (179, .iconst 0, 1, [0], []), (180, .istore_n 2, 1, [], []), (181, .iload_n 2, 1, [], [1, 0, 1, 0, 0]), (182, .aload_n 0, 1, [], []), (183, .getfield 9, 3, [10, 0], []), (186, .iconst 0, 1, [0], []), (187, .iaload, 1, [], []), (188, .if_icmp .ge 50, 3, [238, 0], []), (191, .iconst 0, 1, [0], []), (192, .istore_n 3, 1, [], []), (193, .iload_n 3, 1, [], [1, 0, 1, 1, 0]), (194, .aload_n 0, 1, [], []), (195, .getfield 9, 3, [10, 0], []), (198, .iconst 0, 1, [0], []), (199, .iaload, 1, [], []), (200, .if_icmp .ge 32, 3, [232, 0], []), (203, .aload_n 0, 1, [], []), (204, .iload_n 2, 1, [], []), (205, .iload_n 3, 1, [], []), (206, .invokevirtual 189, 3, [3, 10, 160, 3, 1], []), (209, .ifCond .eq 17, 3, [226, 0], []), (212, .aload_n 0, 1, [], []), (213, .getfield 9, 3, [10, 0], []), (216, .sipush 1330, 3, [1330], []), (219, .dup2, 1, [], []), (220, .iaload, 1, [], []), (221, .iconst 1, 1, [1], []), (222, .iload_n 2, 1, [], []), (223, .ishl, 1, [], []), (224, .ior, 1, [], []), (225, .iastore, 1, [], []), (226, .iinc 3 1, 3, [], []), (229, .goto (-36), 3, [193, 1, 1, 0, 1, 1, 0], []), (232, .iinc 2 1, 3, [], []), (235, .goto (-54), 3, [181, 1, 1, 0, 1, 0, 0], []), (238, .return_, 1, [], [])]
def k_X10_hearsOthers : List mE := [(0, .iconst 0, 1, [0], []), (1, .istore_n 3, 1, [], []), (2, .iload_n 3, 1, [], [1, 1, 1, 1]), (3, .aload_n 0, 1, [], []), (4, .getfield 9, 3, [10, 0], []), (7, .iconst 0, 1, [0], []), (8, .iaload, 1, [], []), (9, .if_icmp .ge 36, 3, [45, 0], []), (12, .iload_n 3, 1, [], []), (13, .iload_n 2, 1, [], []), (14, .if_icmp .eq 25, 3, [39, 0], []), (17, .aload_n 0, 1, [], []), (18, .iload_n 1, 1, [], []), (19, .iload_n 3, 1, [], []), (20, .invokevirtual 127, 3, [3, 10, 124, 3, 1], []), (23, .ifCond .eq 16, 3, [39, 0], []), (26, .aload_n 0, 1, [], []), (27, .getfield 186, 3, [10, 12], []), (30, .iload_n 3, 1, [], []), (31, .invokestatic 174, 3, [2, 116, 2, 1], []), (34, .ifCond .eq 5, 3, [39, 0], []), (37, .iconst 1, 1, [1], []), (38, .ireturn, 1, [1], []), (39, .iinc 3 1, 3, [], []), (42, .goto (-40), 3, [2, 1, 1, 1, 1, 1], []), (45, .iconst 0, 1, [0], []), (46, .ireturn, 1, [1], [])]
def k_X10_isClear : List mE := [(0, .iload_n 2, 1, [], []), (1, .iload_n 1, 1, [], []), (2, .if_icmp .eq 47, 3, [49, 0], []), (5, .aload_n 0, 1, [], []), (6, .iload_n 1, 1, [], []), (7, .iload_n 2, 1, [], []), (8, .invokevirtual 127, 3, [3, 10, 124, 3, 1], []), (11, .ifCond .eq 38, 3, [49, 0], []), (14, .aload_n 0, 1, [], []), (15, .getfield 186, 3, [10, 12], []), (18, .iload_n 2, 1, [], []), (19, .invokestatic 174, 3, [2, 116, 2, 1], []), (22, .ifCond .eq 27, 3, [49, 0], []), (25, .aload_n 0, 1, [], []), (26, .getfield 186, 3, [10, 12], []), (29, .iload_n 1, 1, [], []), (30, .invokestatic 174, 3, [2, 116, 2, 1], []), (33, .ifCond .ne 16, 3, [49, 0], []), (36, .aload_n 0, 1, [], []), (37, .iload_n 1, 1, [], []), (38, .iload_n 2, 1, [], []), (39, .invokevirtual 192, 3, [3, 10, 159, 4, 1], []), (42, .ifCond .ne 7, 3, [49, 0], []), (45, .iconst 1, 1, [1], []), (46, .goto 4, 3, [50, 0], []), (49, .iconst 0, 1, [0], []), (50, .ireturn, 1, [1], [])]
def k_X10_spans : List mE := [(0, .iconst 0, 1, [0], []), (1, .istore 5, 2, [], []), (3, .iload 5, 2, [], [1, 1, 1, 1, 1, 1]), (5, .aload_n 0, 1, [], []), (6, .getfield 9, 3, [10, 0], []), (9, .iconst 0, 1, [0], []), (10, .iaload, 1, [], []), (11, .if_icmp .ge 91, 3, [102, 0], []), (14, .iload 5, 2, [], []), (16, .iload_n 2, 1, [], []), (17, .if_icmp .eq 79, 3, [96, 0], []), (20, .aload_n 0, 1, [], []), (21, .iload 5, 2, [], []), (23, .iload_n 1, 1, [], []), (24, .invokevirtual 189, 3, [3, 10, 160, 3, 1], []), (27, .ifCond .eq 69, 3, [96, 0], []), (30, .aload_n 0, 1, [], []), (31, .getfield 9, 3, [10, 0], []), (34, .sipush 129, 3, [129], []), (37, .iload 5, 2, [], []), (39, .iadd, 1, [], []), (40, .iaload, 1, [], []), (41, .iload_n 3, 1, [], []), (42, .if_icmp .lt 6, 3, [48, 0], []), (45, .goto 51, 3, [96, 0], []), (48, .aload_n 0, 1, [], []), (49, .getfield 9, 3, [10, 0], []), (52, .sipush 129, 3, [129], []), (55, .iload 5, 2, [], []), (57, .iadd, 1, [], []), (58, .iload_n 3, 1, [], []), (59, .iastore, 1, [], []), (60, .aload_n 0, 1, [], []), (61, .getfield 9, 3, [10, 0], []), (64, .sipush 1420, 3, [1420], []), (67, .iload 5, 2, [], []), (69, .iadd, 1, [], []), (70, .iload 4, 2, [], []), (72, .iastore, 1, [], []), (73, .aload_n 0, 1, [], []), (74, .getfield 9, 3, [10, 0], []), (77, .sipush 1426, 3, [1426], []), (80, .iload 5, 2, [], []), (82, .iadd, 1, [], []), (83, .aload_n 0, 1, [], []), (84, .getfield 9, 3, [10, 0], []), (87, .iload 4, 2, [], []), (89, .invokestatic 117, 3, [1, 127, 1, 1], []), (92, .iconst 4, 1, [4], []), (93, .iadd, 1, [], []), (94, .iaload, 1, [], []), (95, .iastore, 1, [], []), (96, .iinc 5 1, 3, [], []), (99, .goto (-96), 3, [3, 1, 1, 1, 1, 1, 1, 1], []), (102, .return_, 1, [], [])]
def k_X10_owes : List mE := [(0, .aload_n 0, 1, [], []), (1, .getfield 24, 3, [10, 10], []), (4, .iload_n 1, 1, [], []), (5, .iload_n 2, 1, [], []), (6, .iastore, 1, [], []), (7, .aload_n 0, 1, [], []), (8, .getfield 27, 3, [10, 11], []), (11, .iload_n 1, 1, [], []), (12, .iload_n 3, 1, [], []), (13, .iastore, 1, [], []), (14, .return_, 1, [], [])]
def k_X10_sendsIt : List mE := [(0, .aload_n 0, 1, [], []), (1, .getfield 9, 3, [10, 0], []), (4, .sipush 135, 3, [135], []), (7, .iload_n 1, 1, [], []), (8, .iadd, 1, [], []), (9, .iaload, 1, [], []), (10, .iload_n 2, 1, [], []), (11, .if_icmp .ne 30, 3, [41, 0], []), (14, .aload_n 0, 1, [], []), (15, .getfield 9, 3, [10, 0], []), (18, .sipush 141, 3, [141], []), (21, .iload_n 1, 1, [], []), (22, .iadd, 1, [], []), (23, .iaload, 1, [], []), (24, .iload_n 3, 1, [], []), (25, .if_icmp .ne 16, 3, [41, 0], []), (28, .aload_n 0, 1, [], []), (29, .iload_n 2, 1, [], []), (30, .iload_n 1, 1, [], []), (31, .invokevirtual 189, 3, [3, 10, 160, 3, 1], []), (34, .ifCond .eq 7, 3, [41, 0], []), (37, .iconst 1, 1, [1], []), (38, .goto 4, 3, [42, 0], []), (41, .iconst 0, 1, [0], []), (42, .ireturn, 1, [1], [])]
def k_X10_failsBy : List mE := [(0, .iload_n 1, 1, [], []), (1, .invokestatic 117, 3, [1, 127, 1, 1], []), (4, .istore_n 3, 1, [], []), (5, .aload_n 0, 1, [], []), (6, .getfield 9, 3, [10, 0], []), (9, .iload_n 3, 1, [], []), (10, .iconst 0, 1, [0], []), (11, .iadd, 1, [], []), (12, .iconst 0, 1, [0], []), (13, .iastore, 1, [], []), (14, .aload_n 0, 1, [], []), (15, .getfield 9, 3, [10, 0], []), (18, .iload_n 3, 1, [], []), (19, .bipush 15, 2, [15], []), (21, .iadd, 1, [], []), (22, .iaload, 1, [], []), (23, .istore 4, 2, [], []), (25, .aload_n 0, 1, [], []), (26, .getfield 9, 3, [10, 0], []), (29, .sipush 1342, 3, [1342], []), (32, .iconst 3, 1, [3], []), (33, .iload_n 1, 1, [], []), (34, .imul, 1, [], []), (35, .iadd, 1, [], []), (36, .iload 4, 2, [], []), (38, .ifCond .le 8, 3, [46, 0], []), (41, .iload 4, 2, [], []), (43, .goto 13, 3, [56, 0], []), (46, .iload_n 2, 1, [], []), (47, .ifCond .eq 8, 3, [55, 0], []), (50, .bipush 7, 2, [7], []), (52, .goto 4, 3, [56, 0], []), (55, .iconst 4, 1, [4], []), (56, .iastore, 1, [], [1, 1, 1, 1, 0, 0]), (57, .aload_n 0, 1, [], []), (58, .getfield 9, 3, [10, 0], []), (61, .sipush 1342, 3, [1342], []), (64, .iconst 3, 1, [3], []), (65, .iload_n 1, 1, [], []), (66, .imul, 1, [], []), (67, .iadd, 1, [], []), (68, .iconst 1, 1, [1], []), (69, .iadd, 1, [], []), (70, .aload_n 0, 1, [], []), (71, .getfield 9, 3, [10, 0], []), (74, .iconst 1, 1, [1], []), (75, .iaload, 1, [], []), (76, .iastore, 1, [], []), (77, .aload_n 0, 1, [], []), (78, .getfield 9, 3, [10, 0], []), (81, .sipush 1342, 3, [1342], []), (84, .iconst 3, 1, [3], []), (85, .iload_n 1, 1, [], []), (86, .imul, 1, [], []), (87, .iadd, 1, [], []), (88, .iconst 2, 1, [2], []), (89, .iadd, 1, [], []), (90, .aload_n 0, 1, [], []), (91, .getfield 9, 3, [10, 0], []), (94, .iload_n 3, 1, [], []), (95, .iconst 1, 1, [1], []), (96, .iadd, 1, [], []), (97, .iaload, 1, [], []), (98, .iastore, 1, [], []), (99, .aload_n 0, 1, [], []), (100, .iload_n 1, 1, [], []), (101, .iconst 4, 1, [4], []), (102, .iconst 1, 1, [1], []), (103, .invokevirtual 153, 3, [4, 10, 151, 4, 0], []), (106, .aload_n 0, 1, [], []), (107, .getfield 9, 3, [10, 0], []), (110, .sipush 1338, 3, [1338], []), (113, .dup2, 1, [], []), (114, .iaload, 1, [], []), (115, .iconst 1, 1, [1], []), (116, .iadd, 1, [], []), (117, .iastore, 1, [], []), (118, .aload_n 0, 1, [], []), (119, .iload_n 1, 1, [], []), (120, .aload_n 0, 1, [], []), (121, .getfield 9, 3, [10, 0], []), (124, .iload_n 3, 1, [], []), (125, .iconst 2, 1, [2], []), (126, .iadd, 1, [], []), (127, .iaload, 1, [], []), (128, .invokevirtual 183, 3, [3, 10, 154, 5, 0], []), (131, .iload_n 2, 1, [], []), (132, .ifCond .ne 4, 3, [136, 0], []), (135, .return_, 1, [], []), (136, .bipush 6, 2, [6], []), (138, .iload_n 1, 1, [], []), (139, .imul, 1, [], []), (140, .aload_n 0, 1, [], []), (141, .getfield 9, 3, [10, 0], []), (144, .iload_n 3, 1, [], []), (145, .iconst 1, 1, [1], []), (146, .iadd, 1, [], []), (147, .iaload, 1, [], []), (148, .iadd, 1, [], []), (149, .istore 5, 2, [], []), (151, .aload_n 0, 1, [], []), (152, .getfield 9, 3, [10, 0], []), (155, .bipush 51, 2, [51], []), (157, .iload 5, 2, [], []), (159, .iadd, 1, [], []), (160, .iconst 1, 1, [1], []), (161, .aload_n 0, 1, [], []), (162, .getfield 9, 3, [10, 0], []), (165, .bipush 51, 2, [51], []), (167, .iload 5, 2, [], []), (169, .iadd, 1, [], []), (170, .iaload, 1, [], []), (171, .iconst 1, 1, [1], []), (172, .isub, 1, [], []), (173, .invokestatic 195, 3, [1000], []), (176, .iastore, 1, [], []), (177, .aload_n 0, 1, [], []), (178, .getfield 9, 3, [10, 0], []), (181, .bipush 87, 2, [87], []), (183, .iload 5, 2, [], []), (185, .iadd, 1, [], []), (186, .iconst 0, 1, [0], []), (187, .iastore, 1, [], []), (188, .return_, 1, [], [])]
def k_X10_stepData : List mE := [(0, .iload_n 1, 1, [], []), (1, .invokestatic 117, 3, [1, 127, 1, 1], []), (4, .istore_n 2, 1, [], []), (5, .aload_n 0, 1, [], []), (6, .getfield 9, 3, [10, 0], []), (9, .iload_n 2, 1, [], []), (10, .iconst 1, 1, [1], []), (11, .iadd, 1, [], []), (12, .iaload, 1, [], []), (13, .istore_n 3, 1, [], []), (14, .aload_n 0, 1, [], []), (15, .iload_n 3, 1, [], []), (16, .iload_n 1, 1, [], []), (17, .invokevirtual 189, 3, [3, 10, 160, 3, 1], []), (20, .ifCond .eq 30, 3, [50, 0], []), (23, .aload_n 0, 1, [], []), (24, .iload_n 1, 1, [], []), (25, .iload_n 3, 1, [], []), (26, .invokevirtual 63, 3, [3, 10, 123, 3, 1], []), (29, .aload_n 0, 1, [], []), (30, .getfield 9, 3, [10, 0], []), (33, .bipush 51, 2, [51], []), (35, .bipush 6, 2, [6], []), (37, .iload_n 1, 1, [], []), (38, .imul, 1, [], []), (39, .iadd, 1, [], []), (40, .iload_n 3, 1, [], []), (41, .iadd, 1, [], []), (42, .iaload, 1, [], []), (43, .if_icmp .lt 7, 3, [50, 0], []), (46, .iconst 1, 1, [1], []), (47, .goto 4, 3, [51, 0], []), (50, .iconst 0, 1, [0], []), (51, .istore 4, 2, [], []), (53, .iload 4, 2, [], []), (55, .ifCond .ne 13, 3, [68, 0], []), (58, .aload_n 0, 1, [], []), (59, .getfield 9, 3, [10, 0], []), (62, .iload_n 2, 1, [], []), (63, .bipush 9, 2, [9], []), (65, .iadd, 1, [], []), (66, .iconst 0, 1, [0], []), (67, .iastore, 1, [], []), (68, .aload_n 0, 1, [], []), (69, .getfield 9, 3, [10, 0], []), (72, .sipush 1396, 3, [1396], []), (75, .iload_n 1, 1, [], []), (76, .iadd, 1, [], []), (77, .dup2, 1, [], []), (78, .iaload, 1, [], []), (79, .iconst 1, 1, [1], []), (80, .iadd, 1, [], []), (81, .iastore, 1, [], []), (82, .iconst 0, 1, [0], []), (83, .istore 5, 2, [], []), (85, .iload 5, 2, [], [1, 1, 1, 1, 0, 1]), (87, .aload_n 0, 1, [], []), (88, .getfield 9, 3, [10, 0], []), (91, .iconst 0, 1, [0], []), (92, .iaload, 1, [], []), (93, .if_icmp .ge 66, 3, [159, 0], []), (96, .aload_n 0, 1, [], []), (97, .iload_n 3, 1, [], []), (98, .iload_n 1, 1, [], []), (99, .invokevirtual 189, 3, [3, 10, 160, 3, 1], []), (102, .ifCond .ne 57, 3, [159, 0], []), (105, .iload 5, 2, [], []), (107, .iload_n 1, 1, [], []), (108, .if_icmp .eq 45, 3, [153, 0], []), (111, .aload_n 0, 1, [], []), (112, .iload_n 3, 1, [], []), (113, .iload 5, 2, [], []), (115, .invokevirtual 127, 3, [3, 10, 124, 3, 1], []), (118, .ifCond .eq 35, 3, [153, 0], []), (121, .aload_n 0, 1, [], []), (122, .getfield 186, 3, [10, 12], []), (125, .iload 5, 2, [], []), (127, .invokestatic 174, 3, [2, 116, 2, 1], []), (130, .ifCond .eq 23, 3, [153, 0], []), (133, .aload_n 0, 1, [], []), (134, .getfield 9, 3, [10, 0], []), (137, .sipush 1360, 3, [1360], []), (140, .bipush 6, 2, [6], []), (142, .iload_n 1, 1, [], []), (143, .imul, 1, [], []), (144, .iadd, 1, [], []), (145, .iload 5, 2, [], []), (147, .iadd, 1, [], []), (148, .dup2, 1, [], []), (149, .iaload, 1, [], []), (150, .iconst 1, 1, [1], []), (151, .iadd, 1, [], []), (152, .iastore, 1, [], []), (153, .iinc 5 1, 3, [], []), (156, .goto (-71), 3, [85, 1, 1, 1, 1, 1, 0, 1], []), (159, .aload_n 0, 1, [], [1, 1, 1, 1, 0, 0]), (160, .getfield 9, 3, [10, 0], []), (163, .iload_n 2, 1, [], []), (164, .bipush 8, 2, [8], []), (166, .iadd, 1, [], []), (167, .dup2, 1, [], []), (168, .iaload, 1, [], []), (169, .iconst 1, 1, [1], []), (170, .isub, 1, [], []), (171, .iastore, 1, [], []), (172, .aload_n 0, 1, [], []), (173, .getfield 9, 3, [10, 0], []), (176, .iload_n 2, 1, [], []), (177, .iconst 5, 1, [5], []), (178, .iadd, 1, [], []), (179, .dup2, 1, [], []), (180, .iaload, 1, [], []), (181, .iconst 1, 1, [1], []), (182, .isub, 1, [], []), (183, .iastore, 1, [], []), (184, .aload_n 0, 1, [], []), (185, .getfield 9, 3, [10, 0], []), (188, .iload_n 2, 1, [], []), (189, .bipush 8, 2, [8], []), (191, .iadd, 1, [], []), (192, .iaload, 1, [], []), (193, .ifCond .ne 114, 3, [307, 0], []), (196, .aload_n 0, 1, [], []), (197, .getfield 9, 3, [10, 0], []), (200, .iload_n 2, 1, [], []), (201, .bipush 9, 2, [9], []), (203, .iadd, 1, [], []), (204, .iaload, 1, [], []), (205, .iconst 1, 1, [1], []), (206, .if_icmp .ne 26, 3, [232, 0], []), (209, .aload_n 0, 1, [], []), (210, .getfield 9, 3, [10, 0], []), (213, .iload_n 2, 1, [], []), (214, .bipush 6, 2, [6], []), (216, .iadd, 1, [], []), (217, .dup2, 1, [], []), (218, .iaload, 1, [], []), (219, .iconst 1, 1, [1], []), (220, .aload_n 0, 1, [], []), (221, .getfield 9, 3, [10, 0], []), (224, .iload_n 2, 1, [], []), (225, .bipush 7, 2, [7], []), (227, .iadd, 1, [], []), (228, .iaload, 1, [], []), (229, .ishl, 1, [], []), (230, .ior, 1, [], []), (231, .iastore, 1, [], []), (232, .aload_n 0, 1, [], []), (233, .getfield 9, 3, [10, 0], []), (236, .iload_n 2, 1, [], []), (237, .bipush 7, 2, [7], []), (239, .iadd, 1, [], []), (240, .dup2, 1, [], []), (241, .iaload, 1, [], []), (242, .iconst 1, 1, [1], []), (243, .iadd, 1, [], []), (244, .iastore, 1, [], []), (245, .aload_n 0, 1, [], []), (246, .getfield 9, 3, [10, 0], []), (249, .iload_n 2, 1, [], []), (250, .bipush 9, 2, [9], []), (252, .iadd, 1, [], []), (253, .iconst 1, 1, [1], []), (254, .iastore, 1, [], []), (255, .aload_n 0, 1, [], []), (256, .getfield 9, 3, [10, 0], []), (259, .iload_n 2, 1, [], []), (260, .bipush 8, 2, [8], []), (262, .iadd, 1, [], []), (263, .aload_n 0, 1, [], []), (264, .getfield 9, 3, [10, 0], []), (267, .iload_n 2, 1, [], []), (268, .bipush 7, 2, [7], []), (270, .iadd, 1, [], []), (271, .iaload, 1, [], []), (272, .aload_n 0, 1, [], []), (273, .getfield 9, 3, [10, 0], []), (276, .iload_n 2, 1, [], []), (277, .iconst 3, 1, [3], []), (278, .iadd, 1, [], []), (279, .iaload, 1, [], []), (280, .if_icmp .ge 25, 3, [305, 0], []), (283, .aload_n 0, 1, [], []), (284, .getfield 9, 3, [10, 0], []), (287, .iload_n 2, 1, [], []), (288, .bipush 11, 2, [11], []), (290, .iadd, 1, [], []), (291, .aload_n 0, 1, [], []), (292, .getfield 9, 3, [10, 0], []), (295, .iload_n 2, 1, [], []), (296, .bipush 7, 2, [7], []), (298, .iadd, 1, [], []), (299, .iaload, 1, [], []), (300, .iadd, 1, [], []), (301, .iaload, 1, [], []), (302, .goto 4, 3, [306, 0], []), (305, .iconst 0, 1, [0], []), (306, .iastore, 1, [], []), (307, .aload_n 0, 1, [], [1, 1, 1, 1, 0, 0]), (308, .getfield 9, 3, [10, 0], []), (311, .iload_n 2, 1, [], []), (312, .iconst 5, 1, [5], []), (313, .iadd, 1, [], []), (314, .iaload, 1, [], []), (315, .ifCond .le 4, 3, [319, 0], []), (318, .return_, 1, [], []), (319, .aload_n 0, 1, [], []), (320, .iload_n 1, 1, [], []), (321, .iload_n 3, 1, [], []), (322, .aload_n 0, 1, [], []), (323, .getfield 9, 3, [10, 0], []), (326, .iconst 1, 1, [1], []), (327, .iaload, 1, [], []), (328, .iconst 2, 1, [2], []), (329, .iadd, 1, [], []), (330, .iload_n 1, 1, [], []), (331, .invokevirtual 198, 3, [5, 10, 161, 6, 0], []), (334, .aload_n 0, 1, [], []), (335, .getfield 9, 3, [10, 0], []), (338, .iload_n 2, 1, [], []), (339, .bipush 15, 2, [15], []), (341, .iadd, 1, [], []), (342, .aload_n 0, 1, [], []), (343, .getfield 9, 3, [10, 0], []), (346, .iload_n 2, 1, [], []), (347, .bipush 6, 2, [6], []), (349, .iadd, 1, [], []), (350, .iaload, 1, [], []), (351, .ifCond .ne 7, 3, [358, 0], []), (354, .iconst 5, 1, [5], []), (355, .goto 17, 3, [372, 0], []), (358, .aload_n 0, 1, [], []), (359, .iload_n 3, 1, [], []), (360, .invokevirtual 171, 3, [2, 10, 149, 2, 1], []), (363, .ifCond .eq 7, 3, [370, 0], []), (366, .iconst 0, 1, [0], []), (367, .goto 5, 3, [372, 0], []), (370, .bipush 6, 2, [6], []), (372, .iastore, 1, [], []), (373, .aload_n 0, 1, [], []), (374, .getfield 9, 3, [10, 0], []), (377, .iload_n 2, 1, [], []), (378, .bipush 15, 2, [15], []), (380, .iadd, 1, [], []), (381, .iaload, 1, [], []), (382, .ifCond .ne 10, 3, [392, 0], []), (385, .aload_n 0, 1, [], []), (386, .iload_n 3, 1, [], []), (387, .iload_n 1, 1, [], []), (388, .iconst 2, 1, [2], []), (389, .invokevirtual 202, 3, [4, 10, 162, 4, 0], []), (392, .aload_n 0, 1, [], []), (393, .getfield 9, 3, [10, 0], []), (396, .iload_n 2, 1, [], []), (397, .iconst 4, 1, [4], []), (398, .iadd, 1, [], []), (399, .iconst 3, 1, [3], []), (400, .iastore, 1, [], []), (401, .return_, 1, [], [])]
def k_X10_delivers : List mE := [(0, .iload_n 1, 1, [], []), (1, .invokestatic 117, 3, [1, 127, 1, 1], []), (4, .istore_n 2, 1, [], []), (5, .aload_n 0, 1, [], []), (6, .getfield 9, 3, [10, 0], []), (9, .iload_n 2, 1, [], []), (10, .iconst 2, 1, [2], []), (11, .iadd, 1, [], []), (12, .iaload, 1, [], []), (13, .istore_n 3, 1, [], []), (14, .iconst 0, 1, [0], []), (15, .istore 4, 2, [], []), (17, .iconst 0, 1, [0], []), (18, .istore 5, 2, [], []), (20, .iload 5, 2, [], [1, 1, 1, 1, 1, 1, 0, 0]), (22, .aload_n 0, 1, [], []), (23, .getfield 9, 3, [10, 0], []), (26, .iload_n 2, 1, [], []), (27, .iconst 3, 1, [3], []), (28, .iadd, 1, [], []), (29, .iaload, 1, [], []), (30, .if_icmp .ge 213, 3, [243, 0], []), (33, .iload_n 1, 1, [], []), (34, .iload_n 3, 1, [], []), (35, .iload 4, 2, [], []), (37, .invokestatic 135, 3, [3, 126, 3, 1], []), (40, .istore 6, 2, [], []), (42, .aload_n 0, 1, [], []), (43, .getfield 9, 3, [10, 0], []), (46, .iload_n 2, 1, [], []), (47, .bipush 6, 2, [6], []), (49, .iadd, 1, [], []), (50, .iaload, 1, [], []), (51, .iload 5, 2, [], []), (53, .invokestatic 174, 3, [2, 116, 2, 1], []), (56, .ifCond .eq 136, 3, [192, 0], []), (59, .aload_n 0, 1, [], []), (60, .iload_n 1, 1, [], []), (61, .iconst 0, 1, [0], []), (62, .iconst 1, 1, [1], []), (63, .invokevirtual 153, 3, [4, 10, 151, 4, 0], []), (66, .aload_n 0, 1, [], []), (67, .iload_n 1, 1, [], []), (68, .iconst 1, 1, [1], []), (69, .aload_n 0, 1, [], []), (70, .getfield 9, 3, [10, 0], []), (73, .iload 6, 2, [], []), (75, .iconst 1, 1, [1], []), (76, .iadd, 1, [], []), (77, .iaload, 1, [], []), (78, .invokevirtual 153, 3, [4, 10, 151, 4, 0], []), (81, .aload_n 0, 1, [], []), (82, .getfield 9, 3, [10, 0], []), (85, .sipush 1336, 3, [1336], []), (88, .dup2, 1, [], []), (89, .iaload, 1, [], []), (90, .iconst 1, 1, [1], []), (91, .iadd, 1, [], []), (92, .iastore, 1, [], []), (93, .aload_n 0, 1, [], []), (94, .getfield 9, 3, [10, 0], []), (97, .iload 6, 2, [], []), (99, .iconst 4, 1, [4], []), (100, .iadd, 1, [], []), (101, .iaload, 1, [], []), (102, .iconst 1, 1, [1], []), (103, .if_icmp .ne 12, 3, [115, 0], []), (106, .aload_n 0, 1, [], []), (107, .getfield 9, 3, [10, 0], []), (110, .sipush 1340, 3, [1340], []), (113, .iconst 1, 1, [1], []), (114, .iastore, 1, [], []), (115, .aload_n 0, 1, [], [1, 1, 1, 1, 1, 1, 1, 0]), (116, .getfield 9, 3, [10, 0], []), (119, .iconst 1, 1, [1], []), (120, .iaload, 1, [], []), (121, .aload_n 0, 1, [], []), (122, .getfield 9, 3, [10, 0], []), (125, .iload 6, 2, [], []), (127, .iconst 3, 1, [3], []), (128, .iadd, 1, [], []), (129, .iaload, 1, [], []), (130, .isub, 1, [], []), (131, .iconst 1, 1, [1], []), (132, .iadd, 1, [], []), (133, .istore 7, 2, [], []), (135, .aload_n 0, 1, [], []), (136, .iload_n 1, 1, [], []), (137, .bipush 7, 2, [7], []), (139, .iload 7, 2, [], []), (141, .invokevirtual 153, 3, [4, 10, 151, 4, 0], []), (144, .aload_n 0, 1, [], []), (145, .getfield 9, 3, [10, 0], []), (148, .sipush 1275, 3, [1275], []), (151, .bipush 9, 2, [9], []), (153, .iload_n 1, 1, [], []), (154, .imul, 1, [], []), (155, .iadd, 1, [], []), (156, .bipush 8, 2, [8], []), (158, .iadd, 1, [], []), (159, .aload_n 0, 1, [], []), (160, .getfield 9, 3, [10, 0], []), (163, .sipush 1275, 3, [1275], []), (166, .bipush 9, 2, [9], []), (168, .iload_n 1, 1, [], []), (169, .imul, 1, [], []), (170, .iadd, 1, [], []), (171, .bipush 8, 2, [8], []), (173, .iadd, 1, [], []), (174, .iaload, 1, [], []), (175, .iload 7, 2, [], []), (177, .invokestatic 195, 3, [1000], []), (180, .iastore, 1, [], []), (181, .aload_n 0, 1, [], []), (182, .iload_n 1, 1, [], []), (183, .iload_n 3, 1, [], []), (184, .iload 4, 2, [], []), (186, .invokevirtual 149, 3, [4, 10, 146, 6, 0], []), (189, .goto 48, 3, [237, 0], []), (192, .aload_n 0, 1, [], []), (193, .getfield 9, 3, [10, 0], []), (196, .iload 6, 2, [], []), (198, .iconst 2, 1, [2], []), (199, .iadd, 1, [], []), (200, .dup2, 1, [], []), (201, .iaload, 1, [], []), (202, .iconst 1, 1, [1], []), (203, .iadd, 1, [], []), (204, .iastore, 1, [], []), (205, .aload_n 0, 1, [], []), (206, .getfield 9, 3, [10, 0], []), (209, .iload 6, 2, [], []), (211, .iconst 2, 1, [2], []), (212, .iadd, 1, [], []), (213, .iaload, 1, [], []), (214, .aload_n 0, 1, [], []), (215, .getfield 9, 3, [10, 0], []), (218, .iconst 4, 1, [4], []), (219, .iaload, 1, [], []), (220, .if_icmp .lt 14, 3, [234, 0], []), (223, .aload_n 0, 1, [], []), (224, .iload_n 1, 1, [], []), (225, .iload_n 3, 1, [], []), (226, .iload 4, 2, [], []), (228, .invokevirtual 156, 3, [4, 10, 153, 4, 0], []), (231, .goto 6, 3, [237, 0], []), (234, .iinc 4 1, 3, [], []), (237, .iinc 5 1, 3, [], []), (240, .goto (-220), 3, [20, 1, 1, 1, 1, 1, 1, 1, 0, 0], []), (243, .aload_n 0, 1, [], []), (244, .getfield 9, 3, [10, 0], []), (247, .iload_n 2, 1, [], []), (248, .iconst 0, 1, [0], []), (249, .iadd, 1, [], []), (250, .iconst 0, 1, [0], []), (251, .iastore, 1, [], []), (252, .aload_n 0, 1, [], []), (253, .getfield 9, 3, [10, 0], []), (256, .sipush 1131, 3, [1131], []), (259, .iload_n 1, 1, [], []), (260, .iload_n 3, 1, [], []), (261, .invokestatic 67, 3, [2, 125, 2, 1], []), (264, .iadd, 1, [], []), (265, .aload_n 0, 1, [], []), (266, .getfield 9, 3, [10, 0], []), (269, .bipush 9, 2, [9], []), (271, .iload_n 3, 1, [], []), (272, .iadd, 1, [], []), (273, .iaload, 1, [], []), (274, .iastore, 1, [], []), (275, .aload_n 0, 1, [], []), (276, .iload_n 1, 1, [], []), (277, .iload_n 3, 1, [], []), (278, .invokevirtual 164, 3, [3, 10, 152, 3, 0], []), (281, .bipush 6, 2, [6], []), (283, .iload_n 1, 1, [], []), (284, .imul, 1, [], []), (285, .aload_n 0, 1, [], []), (286, .getfield 9, 3, [10, 0], []), (289, .iload_n 2, 1, [], []), (290, .iconst 1, 1, [1], []), (291, .iadd, 1, [], []), (292, .iaload, 1, [], []), (293, .iadd, 1, [], []), (294, .istore 5, 2, [], []), (296, .aload_n 0, 1, [], []), (297, .getfield 9, 3, [10, 0], []), (300, .bipush 87, 2, [87], []), (302, .iload 5, 2, [], []), (304, .iadd, 1, [], []), (305, .dup2, 1, [], []), (306, .iaload, 1, [], []), (307, .iconst 1, 1, [1], []), (308, .iadd, 1, [], []), (309, .iastore, 1, [], []), (310, .aload_n 0, 1, [], []), (311, .getfield 9, 3, [10, 0], []), (314, .bipush 87, 2, [87], []), (316, .iload 5, 2, [], []), (318, .iadd, 1, [], []), (319, .iaload, 1, [], []), (320, .iconst 3, 1, [3], []), (321, .if_icmp .ge 4, 3, [325, 0], []), (324, .return_, 1, [], []), (325, .aload_n 0, 1, [], []), (326, .getfield 9, 3, [10, 0], []), (329, .bipush 51, 2, [51], []), (331, .iload 5, 2, [], []), (333, .iadd, 1, [], []), (334, .iconst 3, 1, [3], []), (335, .aload_n 0, 1, [], []), (336, .getfield 9, 3, [10, 0], []), (339, .bipush 51, 2, [51], []), (341, .iload 5, 2, [], []), (343, .iadd, 1, [], []), (344, .iaload, 1, [], []), (345, .iconst 1, 1, [1], []), (346, .iadd, 1, [], []), (347, .invokestatic 159, 3, [1001], []), (350, .iastore, 1, [], []), (351, .aload_n 0, 1, [], []), (352, .getfield 9, 3, [10, 0], []), (355, .bipush 87, 2, [87], []), (357, .iload 5, 2, [], []), (359, .iadd, 1, [], []), (360, .iconst 0, 1, [0], []), (361, .iastore, 1, [], []), (362, .return_, 1, [], [])]
def k_X10_stepSender : List mE := [(0, .iload_n 1, 1, [], []), (1, .invokestatic 117, 3, [1, 127, 1, 1], []), (4, .istore_n 2, 1, [], []), (5, .aload_n 0, 1, [], []), (6, .getfield 9, 3, [10, 0], []), (9, .iload_n 2, 1, [], []), (10, .iconst 1, 1, [1], []), (11, .iadd, 1, [], []), (12, .iaload, 1, [], []), (13, .istore_n 3, 1, [], []), (14, .aload_n 0, 1, [], []), (15, .getfield 9, 3, [10, 0], []), (18, .iload_n 2, 1, [], []), (19, .iconst 4, 1, [4], []), (20, .iadd, 1, [], []), (21, .iaload, 1, [], []), (22, .tableswitch 178 0 2 #[26, 129, 172], 26, [200, 48, 151, 194], []), (48, .aload_n 0, 1, [], []), (49, .getfield 9, 3, [10, 0], []), (52, .iload_n 2, 1, [], []), (53, .bipush 15, 2, [15], []), (55, .iadd, 1, [], []), (56, .aload_n 0, 1, [], []), (57, .iload_n 3, 1, [], []), (58, .iload_n 1, 1, [], []), (59, .invokevirtual 189, 3, [3, 10, 160, 3, 1], []), (62, .ifCond .ne 7, 3, [69, 0], []), (65, .iconst 1, 1, [1], []), (66, .goto 39, 3, [105, 0], []), (69, .aload_n 0, 1, [], []), (70, .iload_n 3, 1, [], []), (71, .invokevirtual 171, 3, [2, 10, 149, 2, 1], []), (74, .ifCond .ne 7, 3, [81, 0], []), (77, .iconst 2, 1, [2], []), (78, .goto 27, 3, [105, 0], []), (81, .aload_n 0, 1, [], []), (82, .getfield 9, 3, [10, 0], []), (85, .iconst 1, 1, [1], []), (86, .iaload, 1, [], []), (87, .aload_n 0, 1, [], []), (88, .getfield 9, 3, [10, 0], []), (91, .sipush 129, 3, [129], []), (94, .iload_n 3, 1, [], []), (95, .iadd, 1, [], []), (96, .iaload, 1, [], []), (97, .if_icmp .ge 7, 3, [104, 0], []), (100, .iconst 3, 1, [3], []), (101, .goto 4, 3, [105, 0], []), (104, .iconst 0, 1, [0], []), (105, .iastore, 1, [], [1, 1, 1, 1]), (106, .aload_n 0, 1, [], []), (107, .getfield 9, 3, [10, 0], []), (110, .iload_n 2, 1, [], []), (111, .bipush 15, 2, [15], []), (113, .iadd, 1, [], []), (114, .iaload, 1, [], []), (115, .ifCond .ne 10, 3, [125, 0], []), (118, .aload_n 0, 1, [], []), (119, .iload_n 3, 1, [], []), (120, .iload_n 1, 1, [], []), (121, .iconst 1, 1, [1], []), (122, .invokevirtual 202, 3, [4, 10, 162, 4, 0], []), (125, .aload_n 0, 1, [], []), (126, .iload_n 1, 1, [], []), (127, .iload_n 3, 1, [], []), (128, .aload_n 0, 1, [], []), (129, .getfield 9, 3, [10, 0], []), (132, .iload_n 2, 1, [], []), (133, .bipush 10, 2, [10], []), (135, .iadd, 1, [], []), (136, .iaload, 1, [], []), (137, .iload_n 1, 1, [], []), (138, .invokevirtual 198, 3, [5, 10, 161, 6, 0], []), (141, .aload_n 0, 1, [], []), (142, .getfield 9, 3, [10, 0], []), (145, .iload_n 2, 1, [], []), (146, .iconst 4, 1, [4], []), (147, .iadd, 1, [], []), (148, .iconst 1, 1, [1], []), (149, .iastore, 1, [], []), (150, .return_, 1, [], []), (151, .aload_n 0, 1, [], []), (152, .iload_n 3, 1, [], []), (153, .iload_n 1, 1, [], []), (154, .iconst 1, 1, [1], []), (155, .invokevirtual 205, 3, [4, 10, 163, 4, 1], []), (158, .ifCond .ne 10, 3, [168, 0], []), (161, .aload_n 0, 1, [], []), (162, .iload_n 1, 1, [], []), (163, .iconst 0, 1, [0], []), (164, .invokevirtual 208, 3, [3, 10, 164, 6, 0], []), (167, .return_, 1, [], []), (168, .aload_n 0, 1, [], []), (169, .iload_n 3, 1, [], []), (170, .iload_n 1, 1, [], []), (171, .aload_n 0, 1, [], []), (172, .getfield 9, 3, [10, 0], []), (175, .iload_n 2, 1, [], []), (176, .bipush 10, 2, [10], []), (178, .iadd, 1, [], []), (179, .iaload, 1, [], []), (180, .iload_n 1, 1, [], []), (181, .invokevirtual 198, 3, [5, 10, 161, 6, 0], []), (184, .aload_n 0, 1, [], []), (185, .getfield 9, 3, [10, 0], []), (188, .iload_n 2, 1, [], []), (189, .iconst 4, 1, [4], []), (190, .iadd, 1, [], []), (191, .iconst 2, 1, [2], []), (192, .iastore, 1, [], []), (193, .return_, 1, [], []), (194, .aload_n 0, 1, [], []), (195, .iload_n 1, 1, [], []), (196, .invokevirtual 212, 3, [2, 10, 165, 6, 0], []), (199, .return_, 1, [], []), (200, .aload_n 0, 1, [], []), (201, .iload_n 3, 1, [], []), (202, .iload_n 1, 1, [], []), (203, .iconst 2, 1, [2], []), (204, .invokevirtual 205, 3, [4, 10, 163, 4, 1], []), (207, .ifCond .eq 11, 3, [218, 0], []), (210, .aload_n 0, 1, [], []), (211, .iload_n 1, 1, [], []), (212, .invokevirtual 215, 3, [2, 10, 166, 8, 0], []), (215, .goto 9, 3, [224, 0], []), (218, .aload_n 0, 1, [], []), (219, .iload_n 1, 1, [], []), (220, .iconst 1, 1, [1], []), (221, .invokevirtual 208, 3, [3, 10, 164, 6, 0], []), (224, .return_, 1, [], [])]
def k_X10_stepEnd : List mE := [(0, .iconst 0, 1, [0], []), (1, .istore_n 1, 1, [], []), (2, .iload_n 1, 1, [], [1, 1, 0, 0]), (3, .aload_n 0, 1, [], []), (4, .getfield 9, 3, [10, 0], []), (7, .iconst 0, 1, [0], []), (8, .iaload, 1, [], []), (9, .if_icmp .ge 202, 3, [211, 0], []), (12, .aload_n 0, 1, [], []), (13, .getfield 9, 3, [10, 0], []), (16, .sipush 135, 3, [135], []), (19, .iload_n 1, 1, [], []), (20, .iadd, 1, [], []), (21, .aload_n 0, 1, [], []), (22, .getfield 24, 3, [10, 10], []), (25, .iload_n 1, 1, [], []), (26, .iaload, 1, [], []), (27, .iastore, 1, [], []), (28, .aload_n 0, 1, [], []), (29, .getfield 9, 3, [10, 0], []), (32, .sipush 141, 3, [141], []), (35, .iload_n 1, 1, [], []), (36, .iadd, 1, [], []), (37, .aload_n 0, 1, [], []), (38, .getfield 27, 3, [10, 11], []), (41, .iload_n 1, 1, [], []), (42, .iaload, 1, [], []), (43, .iastore, 1, [], []), (44, .aload_n 0, 1, [], []), (45, .getfield 24, 3, [10, 10], []), (48, .iload_n 1, 1, [], []), (49, .iconst (-1), 1, [], []), (50, .iastore, 1, [], []), (51, .aload_n 0, 1, [], []), (52, .getfield 186, 3, [10, 12], []), (55, .iload_n 1, 1, [], []), (56, .invokestatic 174, 3, [2, 116, 2, 1], []), (59, .ifCond .ne 31, 3, [90, 0], []), (62, .aload_n 0, 1, [], []), (63, .iload_n 1, 1, [], []), (64, .iconst (-1), 1, [], []), (65, .invokevirtual 192, 3, [3, 10, 159, 4, 1], []), (68, .ifCond .ne 22, 3, [90, 0], []), (71, .aload_n 0, 1, [], []), (72, .getfield 9, 3, [10, 0], []), (75, .sipush 1331, 3, [1331], []), (78, .iaload, 1, [], []), (79, .iload_n 1, 1, [], []), (80, .invokestatic 174, 3, [2, 116, 2, 1], []), (83, .ifCond .ne 7, 3, [90, 0], []), (86, .iconst 1, 1, [1], []), (87, .goto 4, 3, [91, 0], []), (90, .iconst 0, 1, [0], []), (91, .istore_n 2, 1, [], []), (92, .aload_n 0, 1, [], []), (93, .getfield 9, 3, [10, 0], []), (96, .bipush 123, 2, [123], []), (98, .iload_n 1, 1, [], []), (99, .iadd, 1, [], []), (100, .iload_n 2, 1, [], []), (101, .ifCond .eq 17, 3, [118, 0], []), (104, .aload_n 0, 1, [], []), (105, .getfield 9, 3, [10, 0], []), (108, .bipush 123, 2, [123], []), (110, .iload_n 1, 1, [], []), (111, .iadd, 1, [], []), (112, .iaload, 1, [], []), (113, .iconst 1, 1, [1], []), (114, .iadd, 1, [], []), (115, .goto 4, 3, [119, 0], []), (118, .iconst 0, 1, [0], []), (119, .iastore, 1, [], []), (120, .iconst 0, 1, [0], []), (121, .istore_n 3, 1, [], []), (122, .iload_n 3, 1, [], [1, 1, 0, 1]), (123, .iconst 4, 1, [4], []), (124, .if_icmp .ge 81, 3, [205, 0], []), (127, .aload_n 0, 1, [], []), (128, .getfield 9, 3, [10, 0], []), (131, .sipush 147, 3, [147], []), (134, .iload_n 1, 1, [], []), (135, .iload_n 3, 1, [], []), (136, .invokestatic 67, 3, [2, 125, 2, 1], []), (139, .iadd, 1, [], []), (140, .iaload, 1, [], []), (141, .ifCond .le 58, 3, [199, 0], []), (144, .aload_n 0, 1, [], []), (145, .getfield 9, 3, [10, 0], []), (148, .sipush 1155, 3, [1155], []), (151, .iload_n 1, 1, [], []), (152, .iload_n 3, 1, [], []), (153, .invokestatic 67, 3, [2, 125, 2, 1], []), (156, .iadd, 1, [], []), (157, .iaload, 1, [], []), (158, .ifCond .le 41, 3, [199, 0], []), (161, .aload_n 0, 1, [], []), (162, .getfield 9, 3, [10, 0], []), (165, .bipush 123, 2, [123], []), (167, .iload_n 1, 1, [], []), (168, .iadd, 1, [], []), (169, .iaload, 1, [], []), (170, .aload_n 0, 1, [], []), (171, .getfield 9, 3, [10, 0], []), (174, .iconst 5, 1, [5], []), (175, .iload_n 3, 1, [], []), (176, .iadd, 1, [], []), (177, .iaload, 1, [], []), (178, .if_icmp .le 21, 3, [199, 0], []), (181, .aload_n 0, 1, [], []), (182, .getfield 9, 3, [10, 0], []), (185, .sipush 1155, 3, [1155], []), (188, .iload_n 1, 1, [], []), (189, .iload_n 3, 1, [], []), (190, .invokestatic 67, 3, [2, 125, 2, 1], []), (193, .iadd, 1, [], []), (194, .dup2, 1, [], []), (195, .iaload, 1, [], []), (196, .iconst 1, 1, [1], []), (197, .isub, 1, [], []), (198, .iastore, 1, [], []), (199, .iinc 3 1, 3, [], []), (202, .goto (-80), 3, [122, 1, 1, 1, 0, 1], []), (205, .iinc 1 1, 3, [], []), (208, .goto (-206), 3, [2, 1, 1, 1, 0, 0], []), (211, .aload_n 0, 1, [], []), (212, .getfield 9, 3, [10, 0], []), (215, .iconst 1, 1, [1], []), (216, .dup2, 1, [], []), (217, .iaload, 1, [], []), (218, .iconst 1, 1, [1], []), (219, .iadd, 1, [], []), (220, .iastore, 1, [], []), (221, .return_, 1, [], [])]
def k_X10_stepHeld : List mE := [(0, .iconst 0, 1, [0], []), (1, .istore_n 1, 1, [], []), (2, .iload_n 1, 1, [], [1, 1]), (3, .aload_n 0, 1, [], []), (4, .getfield 9, 3, [10, 0], []), (7, .iconst 0, 1, [0], []), (8, .iaload, 1, [], []), (9, .if_icmp .ge 78, 3, [87, 0], []), (12, .aload_n 0, 1, [], []), (13, .iload_n 1, 1, [], []), (14, .invokevirtual 171, 3, [2, 10, 149, 2, 1], []), (17, .ifCond .eq 64, 3, [81, 0], []), (20, .aload_n 0, 1, [], []), (21, .iload_n 1, 1, [], []), (22, .invokevirtual 218, 3, [2, 10, 175, 4, 1], []), (25, .ifCond .ne 6, 3, [31, 0], []), (28, .goto 53, 3, [81, 0], []), (31, .aload_n 0, 1, [], []), (32, .getfield 9, 3, [10, 0], []), (35, .sipush 1402, 3, [1402], []), (38, .iconst 3, 1, [3], []), (39, .iload_n 1, 1, [], []), (40, .imul, 1, [], []), (41, .iadd, 1, [], []), (42, .aload_n 0, 1, [], []), (43, .getfield 9, 3, [10, 0], []), (46, .sipush 1331, 3, [1331], []), (49, .iaload, 1, [], []), (50, .iload_n 1, 1, [], []), (51, .invokestatic 174, 3, [2, 116, 2, 1], []), (54, .ifCond .eq 7, 3, [61, 0], []), (57, .iconst 0, 1, [0], []), (58, .goto 17, 3, [75, 0], []), (61, .aload_n 0, 1, [], []), (62, .iload_n 1, 1, [], []), (63, .iconst (-1), 1, [], []), (64, .invokevirtual 192, 3, [3, 10, 159, 4, 1], []), (67, .ifCond .eq 7, 3, [74, 0], []), (70, .iconst 1, 1, [1], []), (71, .goto 4, 3, [75, 0], []), (74, .iconst 2, 1, [2], []), (75, .iadd, 1, [], []), (76, .dup2, 1, [], []), (77, .iaload, 1, [], []), (78, .iconst 1, 1, [1], []), (79, .iadd, 1, [], []), (80, .iastore, 1, [], []), (81, .iinc 1 1, 3, [], []), (84, .goto (-82), 3, [2, 1, 1, 1], []), (87, .return_, 1, [], [])]
def k_X10_slot : List mE := [(0, .aload_n 0, 1, [], []), (1, .invokevirtual 221, 3, [1, 10, 157, 4, 0], []), (4, .aload_n 0, 1, [], []), (5, .invokevirtual 224, 3, [1, 10, 158, 5, 0], []), (8, .aload_n 0, 1, [], []), (9, .invokevirtual 227, 3, [1, 10, 169, 2, 0], []), (12, .iconst 0, 1, [0], []), (13, .istore_n 1, 1, [], []), (14, .iload_n 1, 1, [], [1, 1]), (15, .aload_n 0, 1, [], []), (16, .getfield 9, 3, [10, 0], []), (19, .iconst 0, 1, [0], []), (20, .iaload, 1, [], []), (21, .if_icmp .ge 29, 3, [50, 0], []), (24, .aload_n 0, 1, [], []), (25, .getfield 9, 3, [10, 0], []), (28, .iload_n 1, 1, [], []), (29, .invokestatic 117, 3, [1, 127, 1, 1], []), (32, .iconst 0, 1, [0], []), (33, .iadd, 1, [], []), (34, .iaload, 1, [], []), (35, .iconst 1, 1, [1], []), (36, .if_icmp .ne 8, 3, [44, 0], []), (39, .aload_n 0, 1, [], []), (40, .iload_n 1, 1, [], []), (41, .invokevirtual 230, 3, [2, 10, 167, 4, 0], []), (44, .iinc 1 1, 3, [], []), (47, .goto (-33), 3, [14, 1, 1, 1], []), (50, .aload_n 0, 1, [], []), (51, .invokevirtual 233, 3, [1, 10, 168, 4, 0], []), (54, .return_, 1, [], [])]
def k_X10_goSlots : List mE := [(0, .iconst 0, 1, [0], []), (1, .istore_n 2, 1, [], []), (2, .iload_n 2, 1, [], [1, 1, 1]), (3, .iload_n 1, 1, [], []), (4, .if_icmp .ge 13, 3, [17, 0], []), (7, .aload_n 0, 1, [], []), (8, .invokevirtual 236, 3, [1, 10, 170, 2, 0], []), (11, .iinc 2 1, 3, [], []), (14, .goto (-12), 3, [2, 1, 1, 1, 1], []), (17, .return_, 1, [], [])]
def k_X10_slots : List mE := [(0, .aload_n 0, 1, [], []), (1, .iconst 0, 1, [0], []), (2, .putfield 52, 3, [10, 5], []), (5, .iload_n 1, 1, [], []), (6, .iconst 1, 1, [1], []), (7, .bipush 60, 2, [60], []), (9, .invokestatic 59, 3, [3, 115, 3, 1], []), (12, .ifCond .ne 5, 3, [17, 0], []), (15, .iconst (-1), 1, [], []), (16, .ireturn, 1, [], []), (17, .aload_n 0, 1, [], []), (18, .invokevirtual 108, 3, [1, 10, 208, 2, 0], []), (21, .aload_n 0, 1, [], []), (22, .getfield 9, 3, [10, 0], []), (25, .sipush 1336, 3, [1336], []), (28, .iaload, 1, [], []), (29, .istore_n 2, 1, [], []), (30, .aload_n 0, 1, [], []), (31, .getfield 9, 3, [10, 0], []), (34, .sipush 1337, 3, [1337], []), (37, .iaload, 1, [], []), (38, .istore_n 3, 1, [], []), (39, .aload_n 0, 1, [], []), (40, .getfield 9, 3, [10, 0], []), (43, .sipush 1338, 3, [1338], []), (46, .iaload, 1, [], []), (47, .istore 4, 2, [], []), (49, .aload_n 0, 1, [], []), (50, .getfield 9, 3, [10, 0], []), (53, .sipush 1339, 3, [1339], []), (56, .iaload, 1, [], []), (57, .istore 5, 2, [], []), (59, .aload_n 0, 1, [], []), (60, .iload_n 1, 1, [], []), (61, .invokevirtual 239, 3, [2, 10, 171, 3, 0], []), (64, .aload_n 0, 1, [], []), (65, .iconst 0, 1, [0], []), (66, .putfield 56, 3, [10, 4], []), (69, .aload_n 0, 1, [], []), (70, .aload_n 0, 1, [], []), (71, .getfield 9, 3, [10, 0], []), (74, .sipush 1337, 3, [1337], []), (77, .iaload, 1, [], []), (78, .iload_n 3, 1, [], []), (79, .isub, 1, [], []), (80, .i2l, 1, [], []), (81, .invokevirtual 242, 3, [2, 10, 118, 3, 0], []), (84, .aload_n 0, 1, [], []), (85, .aload_n 0, 1, [], []), (86, .getfield 9, 3, [10, 0], []), (89, .sipush 1338, 3, [1338], []), (92, .iaload, 1, [], []), (93, .iload 4, 2, [], []), (95, .isub, 1, [], []), (96, .i2l, 1, [], []), (97, .invokevirtual 242, 3, [2, 10, 118, 3, 0], []), (100, .aload_n 0, 1, [], []), (101, .aload_n 0, 1, [], []), (102, .getfield 9, 3, [10, 0], []), (105, .sipush 1339, 3, [1339], []), (108, .iaload, 1, [], []), (109, .iload 5, 2, [], []), (111, .isub, 1, [], []), (112, .i2l, 1, [], []), (113, .invokevirtual 242, 3, [2, 10, 118, 3, 0], []), (116, .aload_n 0, 1, [], []), (117, .getfield 9, 3, [10, 0], []), (120, .sipush 1336, 3, [1336], []), (123, .iaload, 1, [], []), (124, .iload_n 2, 1, [], []), (125, .isub, 1, [], []), (126, .ireturn, 1, [], [])]
def k_X10_drawAll : List mE := [(0, .iconst 0, 1, [0], []), (1, .istore_n 1, 1, [], []), (2, .iconst 0, 1, [0], []), (3, .istore_n 2, 1, [], []), (4, .iload_n 2, 1, [], [1, 1, 1, 0]), (5, .aload_n 0, 1, [], []), (6, .getfield 9, 3, [10, 0], []), (9, .iconst 0, 1, [0], []), (10, .iaload, 1, [], []), (11, .if_icmp .ge 51, 3, [62, 0], []), (14, .iconst 0, 1, [0], []), (15, .istore_n 3, 1, [], []), (16, .iload_n 3, 1, [], [1, 1, 1, 1]), (17, .iconst 4, 1, [4], []), (18, .if_icmp .ge 38, 3, [56, 0], []), (21, .aload_n 0, 1, [], []), (22, .getfield 9, 3, [10, 0], []), (25, .sipush 147, 3, [147], []), (28, .iload_n 2, 1, [], []), (29, .iload_n 3, 1, [], []), (30, .invokestatic 67, 3, [2, 125, 2, 1], []), (33, .iadd, 1, [], []), (34, .iaload, 1, [], []), (35, .ifCond .ne 6, 3, [41, 0], []), (38, .goto 12, 3, [50, 0], []), (41, .aload_n 0, 1, [], []), (42, .iload_n 2, 1, [], []), (43, .iload_n 3, 1, [], []), (44, .invokevirtual 164, 3, [3, 10, 152, 3, 0], []), (47, .iinc 1 1, 3, [], []), (50, .iinc 3 1, 3, [], []), (53, .goto (-37), 3, [16, 1, 1, 1, 1, 1], []), (56, .iinc 2 1, 3, [], []), (59, .goto (-55), 3, [4, 1, 1, 1, 1, 0], []), (62, .iload_n 1, 1, [], []), (63, .ireturn, 1, [], [])]
def k_X10_draws : List mE := [(0, .aload_n 0, 1, [], []), (1, .iconst 0, 1, [0], []), (2, .putfield 52, 3, [10, 5], []), (5, .aload_n 0, 1, [], []), (6, .invokevirtual 108, 3, [1, 10, 208, 2, 0], []), (9, .aload_n 0, 1, [], []), (10, .invokevirtual 246, 3, [1, 10, 173, 4, 1], []), (13, .ireturn, 1, [], [])]
def k_X10_waiting : List mE := [(0, .iconst 0, 1, [0], []), (1, .istore_n 2, 1, [], []), (2, .iconst 0, 1, [0], []), (3, .istore_n 3, 1, [], []), (4, .iload_n 3, 1, [], [1, 1, 1, 1]), (5, .iconst 4, 1, [4], []), (6, .if_icmp .ge 26, 3, [32, 0], []), (9, .iload_n 2, 1, [], []), (10, .aload_n 0, 1, [], []), (11, .getfield 9, 3, [10, 0], []), (14, .sipush 147, 3, [147], []), (17, .iload_n 1, 1, [], []), (18, .iload_n 3, 1, [], []), (19, .invokestatic 67, 3, [2, 125, 2, 1], []), (22, .iadd, 1, [], []), (23, .iaload, 1, [], []), (24, .iadd, 1, [], []), (25, .istore_n 2, 1, [], []), (26, .iinc 3 1, 3, [], []), (29, .goto (-25), 3, [4, 1, 1, 1, 1, 1], []), (32, .iload_n 2, 1, [], []), (33, .ireturn, 1, [], [])]
def k_X10_allWaiting : List mE := [(0, .iconst 0, 1, [0], []), (1, .istore_n 1, 1, [], []), (2, .iconst 0, 1, [0], []), (3, .istore_n 2, 1, [], []), (4, .iload_n 2, 1, [], [1, 1, 1]), (5, .aload_n 0, 1, [], []), (6, .getfield 9, 3, [10, 0], []), (9, .iconst 0, 1, [0], []), (10, .iaload, 1, [], []), (11, .if_icmp .ge 17, 3, [28, 0], []), (14, .iload_n 1, 1, [], []), (15, .aload_n 0, 1, [], []), (16, .iload_n 2, 1, [], []), (17, .invokevirtual 218, 3, [2, 10, 175, 4, 1], []), (20, .iadd, 1, [], []), (21, .istore_n 1, 1, [], []), (22, .iinc 2 1, 3, [], []), (25, .goto (-21), 3, [4, 1, 1, 1, 1], []), (28, .iload_n 1, 1, [], []), (29, .ireturn, 1, [], [])]
def k_X10_heardBy : List mE := [(0, .iconst 0, 1, [0], []), (1, .istore_n 2, 1, [], []), (2, .iconst 0, 1, [0], []), (3, .istore_n 3, 1, [], []), (4, .iload_n 3, 1, [], [1, 1, 1, 1]), (5, .aload_n 0, 1, [], []), (6, .getfield 9, 3, [10, 0], []), (9, .iconst 0, 1, [0], []), (10, .iaload, 1, [], []), (11, .if_icmp .ge 28, 3, [39, 0], []), (14, .iload_n 2, 1, [], []), (15, .aload_n 0, 1, [], []), (16, .iload_n 1, 1, [], []), (17, .iload_n 3, 1, [], []), (18, .invokevirtual 127, 3, [3, 10, 124, 3, 1], []), (21, .ifCond .eq 9, 3, [30, 0], []), (24, .iconst 1, 1, [1], []), (25, .iload_n 3, 1, [], []), (26, .ishl, 1, [], []), (27, .goto 4, 3, [31, 0], []), (30, .iconst 0, 1, [0], []), (31, .ior, 1, [], []), (32, .istore_n 2, 1, [], []), (33, .iinc 3 1, 3, [], []), (36, .goto (-32), 3, [4, 1, 1, 1, 1, 1], []), (39, .iload_n 2, 1, [], []), (40, .ireturn, 1, [], [])]
def k_X10_station : List mE := [(0, .aload_n 0, 1, [], []), (1, .iconst 0, 1, [0], []), (2, .putfield 52, 3, [10, 5], []), (5, .aload_n 0, 1, [], []), (6, .iload_n 1, 1, [], []), (7, .invokevirtual 139, 3, [2, 10, 121, 2, 1], []), (10, .ifCond .ne 8, 3, [18, 0], []), (13, .aload_n 0, 1, [], []), (14, .invokevirtual 114, 3, [1, 10, 117, 1, 1], []), (17, .ireturn, 1, [], []), (18, .iload_n 2, 1, [], []), (19, .tableswitch 130 0 6 #[41, 51, 62, 96, 107, 118, 124], 41, [149, 60, 70, 81, 115, 126, 137, 143], []), (60, .aload_n 0, 1, [], []), (61, .getfield 9, 3, [10, 0], []), (64, .bipush 123, 2, [123], []), (66, .iload_n 1, 1, [], []), (67, .iadd, 1, [], []), (68, .iaload, 1, [], []), (69, .ireturn, 1, [], []), (70, .aload_n 0, 1, [], []), (71, .getfield 9, 3, [10, 0], []), (74, .sipush 129, 3, [129], []), (77, .iload_n 1, 1, [], []), (78, .iadd, 1, [], []), (79, .iaload, 1, [], []), (80, .ireturn, 1, [], []), (81, .aload_n 0, 1, [], []), (82, .getfield 9, 3, [10, 0], []), (85, .iload_n 1, 1, [], []), (86, .invokestatic 117, 3, [1, 127, 1, 1], []), (89, .iconst 0, 1, [0], []), (90, .iadd, 1, [], []), (91, .iaload, 1, [], []), (92, .ifCond .ne 21, 3, [113, 0], []), (95, .aload_n 0, 1, [], []), (96, .getfield 9, 3, [10, 0], []), (99, .sipush 135, 3, [135], []), (102, .iload_n 1, 1, [], []), (103, .iadd, 1, [], []), (104, .iaload, 1, [], []), (105, .iconst (-1), 1, [], []), (106, .if_icmp .ne 7, 3, [113, 0], []), (109, .iconst 1, 1, [1], []), (110, .goto 4, 3, [114, 0], []), (113, .iconst 0, 1, [0], []), (114, .ireturn, 1, [], []), (115, .aload_n 0, 1, [], []), (116, .getfield 9, 3, [10, 0], []), (119, .sipush 135, 3, [135], []), (122, .iload_n 1, 1, [], []), (123, .iadd, 1, [], []), (124, .iaload, 1, [], []), (125, .ireturn, 1, [], []), (126, .aload_n 0, 1, [], []), (127, .getfield 9, 3, [10, 0], []), (130, .sipush 141, 3, [141], []), (133, .iload_n 1, 1, [], []), (134, .iadd, 1, [], []), (135, .iaload, 1, [], []), (136, .ireturn, 1, [], []), (137, .aload_n 0, 1, [], []), (138, .iload_n 1, 1, [], []), (139, .invokevirtual 249, 3, [2, 10, 177, 4, 1], []), (142, .ireturn, 1, [], []), (143, .aload_n 0, 1, [], []), (144, .iload_n 1, 1, [], []), (145, .invokevirtual 218, 3, [2, 10, 175, 4, 1], []), (148, .ireturn, 1, [], []), (149, .aload_n 0, 1, [], []), (150, .invokevirtual 114, 3, [1, 10, 117, 1, 1], []), (153, .ireturn, 1, [], [])]
def k_X10_rank : List mE := [(0, .aload_n 0, 1, [], []), (1, .iconst 0, 1, [0], []), (2, .putfield 52, 3, [10, 5], []), (5, .aload_n 0, 1, [], []), (6, .iload_n 1, 1, [], []), (7, .invokevirtual 139, 3, [2, 10, 121, 2, 1], []), (10, .ifCond .eq 10, 3, [20, 0], []), (13, .iload_n 2, 1, [], []), (14, .invokestatic 120, 3, [1, 122, 1, 1], []), (17, .ifCond .ne 8, 3, [25, 0], []), (20, .aload_n 0, 1, [], []), (21, .invokevirtual 114, 3, [1, 10, 117, 1, 1], []), (24, .ireturn, 1, [], []), (25, .iload_n 3, 1, [], []), (26, .tableswitch 90 0 3 #[30, 45, 60, 75], 30, [116, 56, 71, 86, 101], []), (56, .aload_n 0, 1, [], []), (57, .getfield 9, 3, [10, 0], []), (60, .sipush 147, 3, [147], []), (63, .iload_n 1, 1, [], []), (64, .iload_n 2, 1, [], []), (65, .invokestatic 67, 3, [2, 125, 2, 1], []), (68, .iadd, 1, [], []), (69, .iaload, 1, [], []), (70, .ireturn, 1, [], []), (71, .aload_n 0, 1, [], []), (72, .getfield 9, 3, [10, 0], []), (75, .sipush 1155, 3, [1155], []), (78, .iload_n 1, 1, [], []), (79, .iload_n 2, 1, [], []), (80, .invokestatic 67, 3, [2, 125, 2, 1], []), (83, .iadd, 1, [], []), (84, .iaload, 1, [], []), (85, .ireturn, 1, [], []), (86, .aload_n 0, 1, [], []), (87, .getfield 9, 3, [10, 0], []), (90, .sipush 1131, 3, [1131], []), (93, .iload_n 1, 1, [], []), (94, .iload_n 2, 1, [], []), (95, .invokestatic 67, 3, [2, 125, 2, 1], []), (98, .iadd, 1, [], []), (99, .iaload, 1, [], []), (100, .ireturn, 1, [], []), (101, .aload_n 0, 1, [], []), (102, .iload_n 1, 1, [], []), (103, .iload_n 2, 1, [], []), (104, .invokevirtual 177, 3, [3, 10, 150, 3, 1], []), (107, .ifCond .eq 7, 3, [114, 0], []), (110, .iconst 1, 1, [1], []), (111, .goto 4, 3, [115, 0], []), (114, .iconst 0, 1, [0], []), (115, .ireturn, 1, [], []), (116, .aload_n 0, 1, [], []), (117, .invokevirtual 114, 3, [1, 10, 117, 1, 1], []), (120, .ireturn, 1, [], [])]
def k_X10_frame : List mE := [(0, .aload_n 0, 1, [], []), (1, .iconst 0, 1, [0], []), (2, .putfield 52, 3, [10, 5], []), (5, .aload_n 0, 1, [], []), (6, .iload_n 1, 1, [], []), (7, .invokevirtual 139, 3, [2, 10, 121, 2, 1], []), (10, .ifCond .eq 10, 3, [20, 0], []), (13, .iload_n 2, 1, [], []), (14, .invokestatic 120, 3, [1, 122, 1, 1], []), (17, .ifCond .ne 8, 3, [25, 0], []), (20, .aload_n 0, 1, [], []), (21, .invokevirtual 114, 3, [1, 10, 117, 1, 1], []), (24, .ireturn, 1, [], []), (25, .iload_n 3, 1, [], []), (26, .iconst 0, 1, [0], []), (27, .aload_n 0, 1, [], []), (28, .getfield 9, 3, [10, 0], []), (31, .sipush 147, 3, [147], []), (34, .iload_n 1, 1, [], []), (35, .iload_n 2, 1, [], []), (36, .invokestatic 67, 3, [2, 125, 2, 1], []), (39, .iadd, 1, [], []), (40, .iaload, 1, [], []), (41, .iconst 1, 1, [1], []), (42, .isub, 1, [], []), (43, .invokestatic 59, 3, [3, 115, 3, 1], []), (46, .ifCond .eq 30, 3, [76, 0], []), (49, .iload 4, 2, [], []), (51, .iconst 0, 1, [0], []), (52, .iconst 3, 1, [3], []), (53, .invokestatic 59, 3, [3, 115, 3, 1], []), (56, .ifCond .eq 20, 3, [76, 0], []), (59, .aload_n 0, 1, [], []), (60, .getfield 9, 3, [10, 0], []), (63, .iload_n 1, 1, [], []), (64, .iload_n 2, 1, [], []), (65, .iload_n 3, 1, [], []), (66, .invokestatic 135, 3, [3, 126, 3, 1], []), (69, .iload 4, 2, [], []), (71, .iadd, 1, [], []), (72, .iaload, 1, [], []), (73, .goto 7, 3, [80, 0], []), (76, .aload_n 0, 1, [], []), (77, .invokevirtual 114, 3, [1, 10, 117, 1, 1], []), (80, .ireturn, 1, [], [])]
def k_X10_exchange : List mE := [(0, .aload_n 0, 1, [], []), (1, .iconst 0, 1, [0], []), (2, .putfield 52, 3, [10, 5], []), (5, .aload_n 0, 1, [], []), (6, .iload_n 1, 1, [], []), (7, .invokevirtual 139, 3, [2, 10, 121, 2, 1], []), (10, .ifCond .eq 17, 3, [27, 0], []), (13, .aload_n 0, 1, [], []), (14, .getfield 9, 3, [10, 0], []), (17, .iload_n 1, 1, [], []), (18, .invokestatic 117, 3, [1, 127, 1, 1], []), (21, .iconst 0, 1, [0], []), (22, .iadd, 1, [], []), (23, .iaload, 1, [], []), (24, .ifCond .ne 5, 3, [29, 0], []), (27, .iconst (-1), 1, [], []), (28, .ireturn, 1, [], []), (29, .iload_n 1, 1, [], []), (30, .invokestatic 117, 3, [1, 127, 1, 1], []), (33, .istore_n 3, 1, [], []), (34, .iload_n 2, 1, [], []), (35, .tableswitch 118 0 6 #[41, 50, 59, 68, 74, 83, 108], 41, [153, 76, 85, 94, 103, 109, 118, 143], []), (76, .aload_n 0, 1, [], []), (77, .getfield 9, 3, [10, 0], []), (80, .iload_n 3, 1, [], []), (81, .iconst 1, 1, [1], []), (82, .iadd, 1, [], []), (83, .iaload, 1, [], []), (84, .ireturn, 1, [], []), (85, .aload_n 0, 1, [], []), (86, .getfield 9, 3, [10, 0], []), (89, .iload_n 3, 1, [], []), (90, .iconst 2, 1, [2], []), (91, .iadd, 1, [], []), (92, .iaload, 1, [], []), (93, .ireturn, 1, [], []), (94, .aload_n 0, 1, [], []), (95, .getfield 9, 3, [10, 0], []), (98, .iload_n 3, 1, [], []), (99, .iconst 3, 1, [3], []), (100, .iadd, 1, [], []), (101, .iaload, 1, [], []), (102, .ireturn, 1, [], []), (103, .aload_n 0, 1, [], []), (104, .iload_n 3, 1, [], []), (105, .invokevirtual 252, 3, [2, 10, 182, 4, 1], []), (108, .ireturn, 1, [], []), (109, .aload_n 0, 1, [], []), (110, .getfield 9, 3, [10, 0], []), (113, .iload_n 3, 1, [], []), (114, .iconst 4, 1, [4], []), (115, .iadd, 1, [], []), (116, .iaload, 1, [], []), (117, .ireturn, 1, [], []), (118, .aload_n 0, 1, [], []), (119, .getfield 9, 3, [10, 0], []), (122, .iload_n 3, 1, [], []), (123, .iconst 4, 1, [4], []), (124, .iadd, 1, [], []), (125, .iaload, 1, [], []), (126, .iconst 2, 1, [2], []), (127, .if_icmp .ne 14, 3, [141, 0], []), (130, .aload_n 0, 1, [], []), (131, .getfield 9, 3, [10, 0], []), (134, .iload_n 3, 1, [], []), (135, .iconst 5, 1, [5], []), (136, .iadd, 1, [], []), (137, .iaload, 1, [], []), (138, .goto 4, 3, [142, 0], []), (141, .iconst 1, 1, [1], []), (142, .ireturn, 1, [], []), (143, .aload_n 0, 1, [], []), (144, .getfield 9, 3, [10, 0], []), (147, .iload_n 3, 1, [], []), (148, .bipush 6, 2, [6], []), (150, .iadd, 1, [], []), (151, .iaload, 1, [], []), (152, .ireturn, 1, [], []), (153, .iconst (-1), 1, [], []), (154, .ireturn, 1, [], [])]
def k_X10_placesOf : List mE := [(0, .iconst 0, 1, [0], []), (1, .istore_n 2, 1, [], []), (2, .iconst 0, 1, [0], []), (3, .istore_n 3, 1, [], []), (4, .iload_n 3, 1, [], [1, 1, 1, 1]), (5, .aload_n 0, 1, [], []), (6, .getfield 9, 3, [10, 0], []), (9, .iload_n 1, 1, [], []), (10, .iconst 3, 1, [3], []), (11, .iadd, 1, [], []), (12, .iaload, 1, [], []), (13, .if_icmp .ge 23, 3, [36, 0], []), (16, .iload_n 2, 1, [], []), (17, .aload_n 0, 1, [], []), (18, .getfield 9, 3, [10, 0], []), (21, .iload_n 1, 1, [], []), (22, .bipush 11, 2, [11], []), (24, .iadd, 1, [], []), (25, .iload_n 3, 1, [], []), (26, .iadd, 1, [], []), (27, .iaload, 1, [], []), (28, .iadd, 1, [], []), (29, .istore_n 2, 1, [], []), (30, .iinc 3 1, 3, [], []), (33, .goto (-29), 3, [4, 1, 1, 1, 1, 1], []), (36, .iload_n 2, 1, [], []), (37, .ireturn, 1, [], [])]
def k_X10_sent : List mE := [(0, .aload_n 0, 1, [], []), (1, .iconst 0, 1, [0], []), (2, .putfield 52, 3, [10, 5], []), (5, .aload_n 0, 1, [], []), (6, .getfield 9, 3, [10, 0], []), (9, .sipush 1332, 3, [1332], []), (12, .iaload, 1, [], []), (13, .ifCond .ne 6, 3, [19, 0], []), (16, .bipush (-2), 2, [], []), (18, .ireturn, 1, [], []), (19, .aload_n 0, 1, [], []), (20, .iconst 0, 1, [0], []), (21, .putfield 56, 3, [10, 4], []), (24, .aload_n 0, 1, [], []), (25, .aload_n 0, 1, [], []), (26, .getfield 9, 3, [10, 0], []), (29, .sipush 1330, 3, [1330], []), (32, .iaload, 1, [], []), (33, .i2l, 1, [], []), (34, .invokevirtual 242, 3, [2, 10, 118, 3, 0], []), (37, .aload_n 0, 1, [], []), (38, .aload_n 0, 1, [], []), (39, .getfield 9, 3, [10, 0], []), (42, .sipush 1331, 3, [1331], []), (45, .iaload, 1, [], []), (46, .i2l, 1, [], []), (47, .invokevirtual 242, 3, [2, 10, 118, 3, 0], []), (50, .aload_n 0, 1, [], []), (51, .getfield 9, 3, [10, 0], []), (54, .sipush 1329, 3, [1329], []), (57, .iaload, 1, [], []), (58, .ireturn, 1, [], [])]
def k_X10_spanOf : List mE := [(0, .aload_n 0, 1, [], []), (1, .iconst 0, 1, [0], []), (2, .putfield 52, 3, [10, 5], []), (5, .aload_n 0, 1, [], []), (6, .iload_n 1, 1, [], []), (7, .invokevirtual 139, 3, [2, 10, 121, 2, 1], []), (10, .ifCond .ne 5, 3, [15, 0], []), (13, .iconst (-1), 1, [], []), (14, .ireturn, 1, [], []), (15, .aload_n 0, 1, [], []), (16, .getfield 9, 3, [10, 0], []), (19, .iconst 1, 1, [1], []), (20, .iaload, 1, [], []), (21, .aload_n 0, 1, [], []), (22, .getfield 9, 3, [10, 0], []), (25, .sipush 129, 3, [129], []), (28, .iload_n 1, 1, [], []), (29, .iadd, 1, [], []), (30, .iaload, 1, [], []), (31, .if_icmp .lt 6, 3, [37, 0], []), (34, .bipush (-2), 2, [], []), (36, .ireturn, 1, [], []), (37, .aload_n 0, 1, [], []), (38, .iconst 0, 1, [0], []), (39, .putfield 56, 3, [10, 4], []), (42, .aload_n 0, 1, [], []), (43, .aload_n 0, 1, [], []), (44, .getfield 9, 3, [10, 0], []), (47, .sipush 1426, 3, [1426], []), (50, .iload_n 1, 1, [], []), (51, .iadd, 1, [], []), (52, .iaload, 1, [], []), (53, .i2l, 1, [], []), (54, .invokevirtual 242, 3, [2, 10, 118, 3, 0], []), (57, .aload_n 0, 1, [], []), (58, .aload_n 0, 1, [], []), (59, .getfield 9, 3, [10, 0], []), (62, .sipush 129, 3, [129], []), (65, .iload_n 1, 1, [], []), (66, .iadd, 1, [], []), (67, .iaload, 1, [], []), (68, .aload_n 0, 1, [], []), (69, .getfield 9, 3, [10, 0], []), (72, .iconst 1, 1, [1], []), (73, .iaload, 1, [], []), (74, .isub, 1, [], []), (75, .i2l, 1, [], []), (76, .invokevirtual 242, 3, [2, 10, 118, 3, 0], []), (79, .aload_n 0, 1, [], []), (80, .getfield 9, 3, [10, 0], []), (83, .sipush 1420, 3, [1420], []), (86, .iload_n 1, 1, [], []), (87, .iadd, 1, [], []), (88, .iaload, 1, [], []), (89, .ireturn, 1, [], [])]
def k_X10_rate : List mE := [(0, .aload_n 0, 1, [], []), (1, .iconst 0, 1, [0], []), (2, .putfield 52, 3, [10, 5], []), (5, .aload_n 0, 1, [], []), (6, .iload_n 1, 1, [], []), (7, .invokevirtual 139, 3, [2, 10, 121, 2, 1], []), (10, .ifCond .eq 16, 3, [26, 0], []), (13, .aload_n 0, 1, [], []), (14, .iload_n 2, 1, [], []), (15, .invokevirtual 139, 3, [2, 10, 121, 2, 1], []), (18, .ifCond .eq 8, 3, [26, 0], []), (21, .iload_n 1, 1, [], []), (22, .iload_n 2, 1, [], []), (23, .if_icmp .ne 5, 3, [28, 0], []), (26, .iconst (-1), 1, [], []), (27, .ireturn, 1, [], []), (28, .aload_n 0, 1, [], []), (29, .iload_n 1, 1, [], []), (30, .iload_n 2, 1, [], []), (31, .invokevirtual 127, 3, [3, 10, 124, 3, 1], []), (34, .ifCond .ne 6, 3, [40, 0], []), (37, .bipush (-2), 2, [], []), (39, .ireturn, 1, [], []), (40, .aload_n 0, 1, [], []), (41, .iconst 0, 1, [0], []), (42, .putfield 56, 3, [10, 4], []), (45, .aload_n 0, 1, [], []), (46, .aload_n 0, 1, [], []), (47, .getfield 9, 3, [10, 0], []), (50, .bipush 87, 2, [87], []), (52, .bipush 6, 2, [6], []), (54, .iload_n 1, 1, [], []), (55, .imul, 1, [], []), (56, .iadd, 1, [], []), (57, .iload_n 2, 1, [], []), (58, .iadd, 1, [], []), (59, .iaload, 1, [], []), (60, .i2l, 1, [], []), (61, .invokevirtual 242, 3, [2, 10, 118, 3, 0], []), (64, .aload_n 0, 1, [], []), (65, .aload_n 0, 1, [], []), (66, .iload_n 1, 1, [], []), (67, .iload_n 2, 1, [], []), (68, .invokevirtual 63, 3, [3, 10, 123, 3, 1], []), (71, .i2l, 1, [], []), (72, .invokevirtual 242, 3, [2, 10, 118, 3, 0], []), (75, .aload_n 0, 1, [], []), (76, .getfield 9, 3, [10, 0], []), (79, .bipush 51, 2, [51], []), (81, .bipush 6, 2, [6], []), (83, .iload_n 1, 1, [], []), (84, .imul, 1, [], []), (85, .iadd, 1, [], []), (86, .iload_n 2, 1, [], []), (87, .iadd, 1, [], []), (88, .iaload, 1, [], []), (89, .ireturn, 1, [], [])]
def k_X10_hidden : List mE := [(0, .aload_n 0, 1, [], []), (1, .iconst 0, 1, [0], []), (2, .putfield 52, 3, [10, 5], []), (5, .aload_n 0, 1, [], []), (6, .iconst 0, 1, [0], []), (7, .putfield 56, 3, [10, 4], []), (10, .iconst 0, 1, [0], []), (11, .istore_n 1, 1, [], []), (12, .iload_n 1, 1, [], [1, 1, 0]), (13, .aload_n 0, 1, [], []), (14, .getfield 9, 3, [10, 0], []), (17, .iconst 0, 1, [0], []), (18, .iaload, 1, [], []), (19, .if_icmp .ge 63, 3, [82, 0], []), (22, .iload_n 1, 1, [], []), (23, .iconst 1, 1, [1], []), (24, .iadd, 1, [], []), (25, .istore_n 2, 1, [], []), (26, .iload_n 2, 1, [], [1, 1, 1]), (27, .aload_n 0, 1, [], []), (28, .getfield 9, 3, [10, 0], []), (31, .iconst 0, 1, [0], []), (32, .iaload, 1, [], []), (33, .if_icmp .ge 43, 3, [76, 0], []), (36, .aload_n 0, 1, [], []), (37, .iload_n 1, 1, [], []), (38, .iload_n 2, 1, [], []), (39, .invokevirtual 127, 3, [3, 10, 124, 3, 1], []), (42, .ifCond .ne 28, 3, [70, 0], []), (45, .aload_n 0, 1, [], []), (46, .iload_n 1, 1, [], []), (47, .invokevirtual 249, 3, [2, 10, 177, 4, 1], []), (50, .aload_n 0, 1, [], []), (51, .iload_n 2, 1, [], []), (52, .invokevirtual 249, 3, [2, 10, 177, 4, 1], []), (55, .iand, 1, [], []), (56, .ifCond .eq 14, 3, [70, 0], []), (59, .aload_n 0, 1, [], []), (60, .bipush 6, 2, [6], []), (62, .iload_n 1, 1, [], []), (63, .imul, 1, [], []), (64, .iload_n 2, 1, [], []), (65, .iadd, 1, [], []), (66, .i2l, 1, [], []), (67, .invokevirtual 242, 3, [2, 10, 118, 3, 0], []), (70, .iinc 2 1, 3, [], []), (73, .goto (-47), 3, [26, 1, 1, 1, 1], []), (76, .iinc 1 1, 3, [], []), (79, .goto (-67), 3, [12, 1, 1, 1, 0], []), (82, .aload_n 0, 1, [], []), (83, .getfield 56, 3, [10, 4], []), (86, .ireturn, 1, [], [])]
def k_X10_tally : List mE := [(0, .aload_n 0, 1, [], []), (1, .iconst 0, 1, [0], []), (2, .putfield 52, 3, [10, 5], []), (5, .aload_n 0, 1, [], []), (6, .iload_n 1, 1, [], []), (7, .invokevirtual 139, 3, [2, 10, 121, 2, 1], []), (10, .ifCond .eq 31, 3, [41, 0], []), (13, .iload_n 2, 1, [], []), (14, .iconst 0, 1, [0], []), (15, .bipush 8, 2, [8], []), (17, .invokestatic 59, 3, [3, 115, 3, 1], []), (20, .ifCond .eq 21, 3, [41, 0], []), (23, .aload_n 0, 1, [], []), (24, .getfield 9, 3, [10, 0], []), (27, .sipush 1275, 3, [1275], []), (30, .bipush 9, 2, [9], []), (32, .iload_n 1, 1, [], []), (33, .imul, 1, [], []), (34, .iadd, 1, [], []), (35, .iload_n 2, 1, [], []), (36, .iadd, 1, [], []), (37, .iaload, 1, [], []), (38, .goto 7, 3, [45, 0], []), (41, .aload_n 0, 1, [], []), (42, .invokevirtual 114, 3, [1, 10, 117, 1, 1], []), (45, .ireturn, 1, [], [])]
def k_X10_held : List mE := [(0, .aload_n 0, 1, [], []), (1, .iconst 0, 1, [0], []), (2, .putfield 52, 3, [10, 5], []), (5, .aload_n 0, 1, [], []), (6, .iload_n 1, 1, [], []), (7, .invokevirtual 139, 3, [2, 10, 121, 2, 1], []), (10, .ifCond .ne 5, 3, [15, 0], []), (13, .iconst (-1), 1, [], []), (14, .ireturn, 1, [], []), (15, .iconst 0, 1, [0], []), (16, .istore_n 2, 1, [], []), (17, .aload_n 0, 1, [], []), (18, .iconst 0, 1, [0], []), (19, .putfield 56, 3, [10, 4], []), (22, .iconst 0, 1, [0], []), (23, .istore_n 3, 1, [], []), (24, .iload_n 3, 1, [], [1, 1, 1, 1]), (25, .iconst 3, 1, [3], []), (26, .if_icmp .ge 45, 3, [71, 0], []), (29, .aload_n 0, 1, [], []), (30, .aload_n 0, 1, [], []), (31, .getfield 9, 3, [10, 0], []), (34, .sipush 1402, 3, [1402], []), (37, .iconst 3, 1, [3], []), (38, .iload_n 1, 1, [], []), (39, .imul, 1, [], []), (40, .iadd, 1, [], []), (41, .iload_n 3, 1, [], []), (42, .iadd, 1, [], []), (43, .iaload, 1, [], []), (44, .i2l, 1, [], []), (45, .invokevirtual 242, 3, [2, 10, 118, 3, 0], []), (48, .iload_n 2, 1, [], []), (49, .aload_n 0, 1, [], []), (50, .getfield 9, 3, [10, 0], []), (53, .sipush 1402, 3, [1402], []), (56, .iconst 3, 1, [3], []), (57, .iload_n 1, 1, [], []), (58, .imul, 1, [], []), (59, .iadd, 1, [], []), (60, .iload_n 3, 1, [], []), (61, .iadd, 1, [], []), (62, .iaload, 1, [], []), (63, .iadd, 1, [], []), (64, .istore_n 2, 1, [], []), (65, .iinc 3 1, 3, [], []), (68, .goto (-44), 3, [24, 1, 1, 1, 1, 1], []), (71, .iload_n 2, 1, [], []), (72, .ireturn, 1, [], [])]
def k_X10_why : List mE := [(0, .aload_n 0, 1, [], []), (1, .iconst 0, 1, [0], []), (2, .putfield 52, 3, [10, 5], []), (5, .aload_n 0, 1, [], []), (6, .iload_n 1, 1, [], []), (7, .invokevirtual 139, 3, [2, 10, 121, 2, 1], []), (10, .ifCond .ne 5, 3, [15, 0], []), (13, .iconst (-1), 1, [], []), (14, .ireturn, 1, [], []), (15, .aload_n 0, 1, [], []), (16, .getfield 9, 3, [10, 0], []), (19, .sipush 1342, 3, [1342], []), (22, .iconst 3, 1, [3], []), (23, .iload_n 1, 1, [], []), (24, .imul, 1, [], []), (25, .iadd, 1, [], []), (26, .iaload, 1, [], []), (27, .ifCond .ne 6, 3, [33, 0], []), (30, .bipush (-2), 2, [], []), (32, .ireturn, 1, [], []), (33, .aload_n 0, 1, [], []), (34, .iconst 0, 1, [0], []), (35, .putfield 56, 3, [10, 4], []), (38, .aload_n 0, 1, [], []), (39, .aload_n 0, 1, [], []), (40, .getfield 9, 3, [10, 0], []), (43, .sipush 1342, 3, [1342], []), (46, .iconst 3, 1, [3], []), (47, .iload_n 1, 1, [], []), (48, .imul, 1, [], []), (49, .iadd, 1, [], []), (50, .iconst 1, 1, [1], []), (51, .iadd, 1, [], []), (52, .iaload, 1, [], []), (53, .i2l, 1, [], []), (54, .invokevirtual 242, 3, [2, 10, 118, 3, 0], []), (57, .aload_n 0, 1, [], []), (58, .aload_n 0, 1, [], []), (59, .getfield 9, 3, [10, 0], []), (62, .sipush 1342, 3, [1342], []), (65, .iconst 3, 1, [3], []), (66, .iload_n 1, 1, [], []), (67, .imul, 1, [], []), (68, .iadd, 1, [], []), (69, .iconst 2, 1, [2], []), (70, .iadd, 1, [], []), (71, .iaload, 1, [], []), (72, .i2l, 1, [], []), (73, .invokevirtual 242, 3, [2, 10, 118, 3, 0], []), (76, .aload_n 0, 1, [], []), (77, .getfield 9, 3, [10, 0], []), (80, .sipush 1342, 3, [1342], []), (83, .iconst 3, 1, [3], []), (84, .iload_n 1, 1, [], []), (85, .imul, 1, [], []), (86, .iadd, 1, [], []), (87, .iaload, 1, [], []), (88, .ireturn, 1, [], [])]
def k_X10_spoilt : List mE := [(0, .aload_n 0, 1, [], []), (1, .iconst 0, 1, [0], []), (2, .putfield 52, 3, [10, 5], []), (5, .aload_n 0, 1, [], []), (6, .iload_n 1, 1, [], []), (7, .invokevirtual 139, 3, [2, 10, 121, 2, 1], []), (10, .ifCond .eq 16, 3, [26, 0], []), (13, .aload_n 0, 1, [], []), (14, .iload_n 2, 1, [], []), (15, .invokevirtual 139, 3, [2, 10, 121, 2, 1], []), (18, .ifCond .eq 8, 3, [26, 0], []), (21, .iload_n 1, 1, [], []), (22, .iload_n 2, 1, [], []), (23, .if_icmp .ne 5, 3, [28, 0], []), (26, .iconst (-1), 1, [], []), (27, .ireturn, 1, [], []), (28, .aload_n 0, 1, [], []), (29, .iconst 0, 1, [0], []), (30, .putfield 56, 3, [10, 4], []), (33, .aload_n 0, 1, [], []), (34, .aload_n 0, 1, [], []), (35, .getfield 9, 3, [10, 0], []), (38, .sipush 1396, 3, [1396], []), (41, .iload_n 1, 1, [], []), (42, .iadd, 1, [], []), (43, .iaload, 1, [], []), (44, .i2l, 1, [], []), (45, .invokevirtual 242, 3, [2, 10, 118, 3, 0], []), (48, .aload_n 0, 1, [], []), (49, .getfield 9, 3, [10, 0], []), (52, .sipush 1360, 3, [1360], []), (55, .bipush 6, 2, [6], []), (57, .iload_n 1, 1, [], []), (58, .imul, 1, [], []), (59, .iadd, 1, [], []), (60, .iload_n 2, 1, [], []), (61, .iadd, 1, [], []), (62, .iaload, 1, [], []), (63, .ireturn, 1, [], [])]
def k_X10_even : List mE := [(0, .aload_n 0, 1, [], []), (1, .iconst 0, 1, [0], []), (2, .putfield 52, 3, [10, 5], []), (5, .lconst 0, 1, [0], []), (6, .lstore_n 1, 1, [], []), (7, .lconst 0, 1, [0], []), (8, .lstore_n 3, 1, [], []), (9, .iconst 0, 1, [0], []), (10, .istore 5, 2, [], []), (12, .iload 5, 2, [], [1, 1, 0, 1, 0, 1, 0, 0]), (14, .aload_n 0, 1, [], []), (15, .getfield 9, 3, [10, 0], []), (18, .iconst 0, 1, [0], []), (19, .iaload, 1, [], []), (20, .if_icmp .ge 41, 3, [61, 0], []), (23, .aload_n 0, 1, [], []), (24, .getfield 9, 3, [10, 0], []), (27, .sipush 1275, 3, [1275], []), (30, .bipush 9, 2, [9], []), (32, .iload 5, 2, [], []), (34, .imul, 1, [], []), (35, .iadd, 1, [], []), (36, .iconst 1, 1, [1], []), (37, .iadd, 1, [], []), (38, .iaload, 1, [], []), (39, .i2l, 1, [], []), (40, .lstore 6, 2, [], []), (42, .lload_n 1, 1, [], []), (43, .lload 6, 2, [], []), (45, .ladd, 1, [], []), (46, .lstore_n 1, 1, [], []), (47, .lload_n 3, 1, [], []), (48, .lload 6, 2, [], []), (50, .lload 6, 2, [], []), (52, .lmul, 1, [], []), (53, .ladd, 1, [], []), (54, .lstore_n 3, 1, [], []), (55, .iinc 5 1, 3, [], []), (58, .goto (-46), 3, [12, 1, 1, 1, 0, 1, 0, 1, 0, 0], []), (61, .lload_n 1, 1, [], []), (62, .lconst 0, 1, [0], []), (63, .lcmp, 1, [], []), (64, .ifCond .ne 6, 3, [70, 0], []), (67, .bipush (-2), 2, [], []), (69, .ireturn, 1, [], []), (70, .lload_n 1, 1, [], []), (71, .lload_n 1, 1, [], []), (72, .lmul, 1, [], []), (73, .aload_n 0, 1, [], []), (74, .getfield 9, 3, [10, 0], []), (77, .iconst 0, 1, [0], []), (78, .iaload, 1, [], []), (79, .i2l, 1, [], []), (80, .lload_n 3, 1, [], []), (81, .lmul, 1, [], []), (82, .invokestatic 255, 3, [2, 120, 10, 2], []), (85, .lstore 5, 2, [], []), (87, .aload_n 0, 1, [], []), (88, .iconst 0, 1, [0], []), (89, .putfield 56, 3, [10, 4], []), (92, .aload_n 0, 1, [], []), (93, .lload_n 1, 1, [], []), (94, .lload_n 1, 1, [], []), (95, .lmul, 1, [], []), (96, .lload 5, 2, [], []), (98, .ldiv, 1, [], []), (99, .invokevirtual 242, 3, [2, 10, 118, 3, 0], []), (102, .aload_n 0, 1, [], []), (103, .aload_n 0, 1, [], []), (104, .getfield 9, 3, [10, 0], []), (107, .iconst 0, 1, [0], []), (108, .iaload, 1, [], []), (109, .i2l, 1, [], []), (110, .lload_n 3, 1, [], []), (111, .lmul, 1, [], []), (112, .lload 5, 2, [], []), (114, .ldiv, 1, [], []), (115, .invokevirtual 242, 3, [2, 10, 118, 3, 0], []), (118, .iconst 0, 1, [0], []), (119, .ireturn, 1, [], [])]
def k_X10_busy : List mE := [(0, .aload_n 0, 1, [], []), (1, .iconst 0, 1, [0], []), (2, .putfield 52, 3, [10, 5], []), (5, .aload_n 0, 1, [], []), (6, .iconst 0, 1, [0], []), (7, .putfield 56, 3, [10, 4], []), (10, .aload_n 0, 1, [], []), (11, .aload_n 0, 1, [], []), (12, .getfield 9, 3, [10, 0], []), (15, .sipush 1334, 3, [1334], []), (18, .iaload, 1, [], []), (19, .i2l, 1, [], []), (20, .invokevirtual 242, 3, [2, 10, 118, 3, 0], []), (23, .aload_n 0, 1, [], []), (24, .aload_n 0, 1, [], []), (25, .getfield 9, 3, [10, 0], []), (28, .sipush 1335, 3, [1335], []), (31, .iaload, 1, [], []), (32, .i2l, 1, [], []), (33, .invokevirtual 242, 3, [2, 10, 118, 3, 0], []), (36, .aload_n 0, 1, [], []), (37, .getfield 9, 3, [10, 0], []), (40, .sipush 1333, 3, [1333], []), (43, .iaload, 1, [], []), (44, .ireturn, 1, [], [])]
def k_X10_power : List mE := [(0, .iconst 1, 1, [1], []), (1, .istore_n 2, 1, [], []), (2, .iconst 0, 1, [0], []), (3, .istore_n 3, 1, [], []), (4, .iload_n 3, 1, [], [1, 1, 1, 1]), (5, .iload_n 1, 1, [], []), (6, .if_icmp .ge 13, 3, [19, 0], []), (9, .iload_n 2, 1, [], []), (10, .iload_n 0, 1, [], []), (11, .imul, 1, [], []), (12, .istore_n 2, 1, [], []), (13, .iinc 3 1, 3, [], []), (16, .goto (-12), 3, [4, 1, 1, 1, 1, 1], []), (19, .iload_n 2, 1, [], []), (20, .ireturn, 1, [], [])]
def k_X10_waysAlone : List mE := [(0, .iconst 0, 1, [0], []), (1, .istore_n 2, 1, [], []), (2, .iconst 0, 1, [0], []), (3, .istore_n 3, 1, [], []), (4, .iload_n 3, 1, [], [1, 1, 1, 1]), (5, .iload_n 1, 1, [], []), (6, .if_icmp .gt 21, 3, [27, 0], []), (9, .iload_n 2, 1, [], []), (10, .iload_n 1, 1, [], []), (11, .iload_n 3, 1, [], []), (12, .isub, 1, [], []), (13, .iload_n 0, 1, [], []), (14, .iconst 1, 1, [1], []), (15, .isub, 1, [], []), (16, .invokestatic 259, 3, [2, 193, 4, 1], []), (19, .iadd, 1, [], []), (20, .istore_n 2, 1, [], []), (21, .iinc 3 1, 3, [], []), (24, .goto (-20), 3, [4, 1, 1, 1, 1, 1], []), (27, .iload_n 0, 1, [], []), (28, .iload_n 2, 1, [], []), (29, .imul, 1, [], []), (30, .ireturn, 1, [], [])]
def k_X10_odds : List mE := [(0, .aload_n 0, 1, [], []), (1, .iconst 0, 1, [0], []), (2, .putfield 52, 3, [10, 5], []), (5, .iload_n 1, 1, [], []), (6, .iconst 1, 1, [1], []), (7, .iconst 5, 1, [5], []), (8, .invokestatic 59, 3, [3, 115, 3, 1], []), (11, .ifCond .eq 13, 3, [24, 0], []), (14, .iload_n 2, 1, [], []), (15, .iconst 0, 1, [0], []), (16, .bipush 31, 2, [31], []), (18, .invokestatic 59, 3, [3, 115, 3, 1], []), (21, .ifCond .ne 5, 3, [26, 0], []), (24, .iconst (-1), 1, [], []), (25, .ireturn, 1, [], []), (26, .iload_n 1, 1, [], []), (27, .iload_n 2, 1, [], []), (28, .invokestatic 262, 3, [2, 194, 4, 1], []), (31, .istore_n 3, 1, [], []), (32, .iload_n 2, 1, [], []), (33, .iconst 1, 1, [1], []), (34, .iadd, 1, [], []), (35, .iload_n 1, 1, [], []), (36, .invokestatic 259, 3, [2, 193, 4, 1], []), (39, .istore 4, 2, [], []), (41, .iload_n 3, 1, [], []), (42, .iload 4, 2, [], []), (44, .invokestatic 265, 3, [2, 119, 5, 1], []), (47, .istore 5, 2, [], []), (49, .aload_n 0, 1, [], []), (50, .iconst 0, 1, [0], []), (51, .putfield 56, 3, [10, 4], []), (54, .aload_n 0, 1, [], []), (55, .iload_n 3, 1, [], []), (56, .iload 5, 2, [], []), (58, .idiv, 1, [], []), (59, .i2l, 1, [], []), (60, .invokevirtual 242, 3, [2, 10, 118, 3, 0], []), (63, .aload_n 0, 1, [], []), (64, .iload 4, 2, [], []), (66, .iload 5, 2, [], []), (68, .idiv, 1, [], []), (69, .i2l, 1, [], []), (70, .invokevirtual 242, 3, [2, 10, 118, 3, 0], []), (73, .iconst 0, 1, [0], []), (74, .ireturn, 1, [], [])]
def k_X10_window : List mE := [(0, .aload_n 0, 1, [], []), (1, .iconst 0, 1, [0], []), (2, .putfield 52, 3, [10, 5], []), (5, .iload_n 1, 1, [], []), (6, .iconst 1, 1, [1], []), (7, .iconst 5, 1, [5], []), (8, .invokestatic 59, 3, [3, 115, 3, 1], []), (11, .ifCond .eq 13, 3, [24, 0], []), (14, .iload_n 2, 1, [], []), (15, .iconst 0, 1, [0], []), (16, .bipush 100, 2, [100], []), (18, .invokestatic 59, 3, [3, 115, 3, 1], []), (21, .ifCond .ne 5, 3, [26, 0], []), (24, .iconst (-1), 1, [], []), (25, .ireturn, 1, [], []), (26, .iconst 0, 1, [0], []), (27, .istore_n 3, 1, [], []), (28, .iload_n 3, 1, [], [0, 1, 1, 1]), (29, .bipush 31, 2, [31], []), (31, .if_icmp .gt 36, 3, [67, 0], []), (34, .ldc2_w 268, 3, [100], []), (37, .iload_n 1, 1, [], []), (38, .iload_n 3, 1, [], []), (39, .invokestatic 262, 3, [2, 194, 4, 1], []), (42, .i2l, 1, [], []), (43, .lmul, 1, [], []), (44, .iload_n 2, 1, [], []), (45, .i2l, 1, [], []), (46, .iload_n 3, 1, [], []), (47, .iconst 1, 1, [1], []), (48, .iadd, 1, [], []), (49, .iload_n 1, 1, [], []), (50, .invokestatic 259, 3, [2, 193, 4, 1], []), (53, .i2l, 1, [], []), (54, .lmul, 1, [], []), (55, .lcmp, 1, [], []), (56, .ifCond .lt 5, 3, [61, 0], []), (59, .iload_n 3, 1, [], []), (60, .ireturn, 1, [], []), (61, .iinc 3 1, 3, [], []), (64, .goto (-36), 3, [28, 1, 0, 1, 1, 1], []), (67, .bipush (-2), 2, [], []), (69, .ireturn, 1, [], [])]
def k_X10_layAside : List mE := [(0, .iconst 0, 1, [0], []), (1, .istore_n 1, 1, [], []), (2, .iload_n 1, 1, [], [1, 1]), (3, .sipush 1432, 3, [1432], []), (6, .if_icmp .ge 21, 3, [27, 0], []), (9, .aload_n 0, 1, [], []), (10, .getfield 30, 3, [10, 13], []), (13, .iload_n 1, 1, [], []), (14, .aload_n 0, 1, [], []), (15, .getfield 9, 3, [10, 0], []), (18, .iload_n 1, 1, [], []), (19, .iaload, 1, [], []), (20, .iastore, 1, [], []), (21, .iinc 1 1, 3, [], []), (24, .goto (-22), 3, [2, 1, 1, 1], []), (27, .return_, 1, [], [])]
def k_X10_comesBack : List mE := [(0, .iconst 0, 1, [0], []), (1, .istore_n 1, 1, [], []), (2, .iload_n 1, 1, [], [1, 1]), (3, .sipush 1432, 3, [1432], []), (6, .if_icmp .ge 21, 3, [27, 0], []), (9, .aload_n 0, 1, [], []), (10, .getfield 9, 3, [10, 0], []), (13, .iload_n 1, 1, [], []), (14, .aload_n 0, 1, [], []), (15, .getfield 30, 3, [10, 13], []), (18, .iload_n 1, 1, [], []), (19, .iaload, 1, [], []), (20, .iastore, 1, [], []), (21, .iinc 1 1, 3, [], []), (24, .goto (-22), 3, [2, 1, 1, 1], []), (27, .return_, 1, [], [])]
def k_X10_ahead : List mE := [(0, .aload_n 0, 1, [], []), (1, .iconst 0, 1, [0], []), (2, .putfield 52, 3, [10, 5], []), (5, .iload_n 1, 1, [], []), (6, .iconst 1, 1, [1], []), (7, .bipush 60, 2, [60], []), (9, .invokestatic 59, 3, [3, 115, 3, 1], []), (12, .ifCond .eq 12, 3, [24, 0], []), (15, .iload_n 2, 1, [], []), (16, .iconst 0, 1, [0], []), (17, .iconst 4, 1, [4], []), (18, .invokestatic 59, 3, [3, 115, 3, 1], []), (21, .ifCond .ne 5, 3, [26, 0], []), (24, .iconst (-1), 1, [], []), (25, .ireturn, 1, [], []), (26, .aload_n 0, 1, [], []), (27, .invokevirtual 270, 3, [1, 10, 197, 2, 0], []), (30, .aload_n 0, 1, [], []), (31, .iload_n 1, 1, [], []), (32, .invokevirtual 239, 3, [2, 10, 171, 3, 0], []), (35, .iload_n 2, 1, [], []), (36, .ifCond .ne 23, 3, [59, 0], []), (39, .aload_n 0, 1, [], []), (40, .getfield 9, 3, [10, 0], []), (43, .sipush 1336, 3, [1336], []), (46, .iaload, 1, [], []), (47, .aload_n 0, 1, [], []), (48, .getfield 30, 3, [10, 13], []), (51, .sipush 1336, 3, [1336], []), (54, .iaload, 1, [], []), (55, .isub, 1, [], []), (56, .goto 73, 3, [129, 0], []), (59, .iload_n 2, 1, [], []), (60, .iconst 1, 1, [1], []), (61, .if_icmp .ne 23, 3, [84, 0], []), (64, .aload_n 0, 1, [], []), (65, .getfield 9, 3, [10, 0], []), (68, .sipush 1337, 3, [1337], []), (71, .iaload, 1, [], []), (72, .aload_n 0, 1, [], []), (73, .getfield 30, 3, [10, 13], []), (76, .sipush 1337, 3, [1337], []), (79, .iaload, 1, [], []), (80, .isub, 1, [], []), (81, .goto 48, 3, [129, 0], []), (84, .iload_n 2, 1, [], []), (85, .iconst 2, 1, [2], []), (86, .if_icmp .ne 23, 3, [109, 0], []), (89, .aload_n 0, 1, [], []), (90, .getfield 9, 3, [10, 0], []), (93, .sipush 1338, 3, [1338], []), (96, .iaload, 1, [], []), (97, .aload_n 0, 1, [], []), (98, .getfield 30, 3, [10, 13], []), (101, .sipush 1338, 3, [1338], []), (104, .iaload, 1, [], []), (105, .isub, 1, [], []), (106, .goto 23, 3, [129, 0], []), (109, .iload_n 2, 1, [], []), (110, .iconst 3, 1, [3], []), (111, .if_icmp .ne 10, 3, [121, 0], []), (114, .aload_n 0, 1, [], []), (115, .invokevirtual 273, 3, [1, 10, 176, 3, 1], []), (118, .goto 11, 3, [129, 0], []), (121, .aload_n 0, 1, [], []), (122, .getfield 9, 3, [10, 0], []), (125, .sipush 1329, 3, [1329], []), (128, .iaload, 1, [], []), (129, .istore_n 3, 1, [], []), (130, .aload_n 0, 1, [], []), (131, .invokevirtual 276, 3, [1, 10, 198, 2, 0], []), (134, .iload_n 3, 1, [], []), (135, .ireturn, 1, [], [])]
def k_X10_isQuiet : List mE := [(0, .aload_n 0, 1, [], []), (1, .invokevirtual 273, 3, [1, 10, 176, 3, 1], []), (4, .ifCond .ne 14, 3, [18, 0], []), (7, .aload_n 0, 1, [], []), (8, .invokevirtual 124, 3, [1, 10, 143, 2, 1], []), (11, .ifCond .ne 7, 3, [18, 0], []), (14, .iconst 1, 1, [1], []), (15, .goto 4, 3, [19, 0], []), (18, .iconst 0, 1, [0], []), (19, .ireturn, 1, [1], [])]
def k_X10_quiet : List mE := [(0, .aload_n 0, 1, [], []), (1, .iconst 0, 1, [0], []), (2, .putfield 52, 3, [10, 5], []), (5, .aload_n 0, 1, [], []), (6, .invokevirtual 270, 3, [1, 10, 197, 2, 0], []), (9, .iconst 0, 1, [0], []), (10, .istore_n 1, 1, [], []), (11, .iload_n 1, 1, [], [1, 1, 0, 0]), (12, .bipush 99, 2, [99], []), (14, .if_icmp .ge 20, 3, [34, 0], []), (17, .aload_n 0, 1, [], []), (18, .invokevirtual 279, 3, [1, 10, 200, 1, 1], []), (21, .ifCond .ne 13, 3, [34, 0], []), (24, .aload_n 0, 1, [], []), (25, .invokevirtual 236, 3, [1, 10, 170, 2, 0], []), (28, .iinc 1 1, 3, [], []), (31, .goto (-20), 3, [11, 1, 1, 1, 0, 0], []), (34, .aload_n 0, 1, [], []), (35, .invokevirtual 279, 3, [1, 10, 200, 1, 1], []), (38, .istore_n 2, 1, [], []), (39, .aload_n 0, 1, [], []), (40, .getfield 9, 3, [10, 0], []), (43, .sipush 1336, 3, [1336], []), (46, .iaload, 1, [], []), (47, .aload_n 0, 1, [], []), (48, .getfield 30, 3, [10, 13], []), (51, .sipush 1336, 3, [1336], []), (54, .iaload, 1, [], []), (55, .isub, 1, [], []), (56, .istore_n 3, 1, [], []), (57, .aload_n 0, 1, [], []), (58, .invokevirtual 276, 3, [1, 10, 198, 2, 0], []), (61, .iload_n 2, 1, [], []), (62, .ifCond .ne 6, 3, [68, 0], []), (65, .bipush (-2), 2, [], []), (67, .ireturn, 1, [], []), (68, .aload_n 0, 1, [], []), (69, .iconst 0, 1, [0], []), (70, .putfield 56, 3, [10, 4], []), (73, .aload_n 0, 1, [], []), (74, .iload_n 3, 1, [], []), (75, .i2l, 1, [], []), (76, .invokevirtual 242, 3, [2, 10, 118, 3, 0], []), (79, .iload_n 1, 1, [], []), (80, .ireturn, 1, [], [])]
def k_X10_next : List mE := [(0, .aload_n 0, 1, [], []), (1, .iconst 0, 1, [0], []), (2, .putfield 52, 3, [10, 5], []), (5, .aload_n 0, 1, [], []), (6, .invokevirtual 270, 3, [1, 10, 197, 2, 0], []), (9, .iconst 0, 1, [0], []), (10, .istore_n 1, 1, [], []), (11, .iconst 0, 1, [0], []), (12, .istore_n 2, 1, [], []), (13, .iload_n 1, 1, [], [1, 1, 1]), (14, .bipush 99, 2, [99], []), (16, .if_icmp .ge 26, 3, [42, 0], []), (19, .iload_n 2, 1, [], []), (20, .ifCond .ne 22, 3, [42, 0], []), (23, .aload_n 0, 1, [], []), (24, .invokevirtual 236, 3, [1, 10, 170, 2, 0], []), (27, .aload_n 0, 1, [], []), (28, .getfield 9, 3, [10, 0], []), (31, .sipush 1341, 3, [1341], []), (34, .iaload, 1, [], []), (35, .istore_n 2, 1, [], []), (36, .iinc 1 1, 3, [], []), (39, .goto (-26), 3, [13, 1, 1, 1, 1], []), (42, .aload_n 0, 1, [], []), (43, .invokevirtual 276, 3, [1, 10, 198, 2, 0], []), (46, .iload_n 2, 1, [], []), (47, .ifCond .ne 6, 3, [53, 0], []), (50, .bipush (-2), 2, [], []), (52, .ireturn, 1, [], []), (53, .aload_n 0, 1, [], []), (54, .iconst 0, 1, [0], []), (55, .putfield 56, 3, [10, 4], []), (58, .aload_n 0, 1, [], []), (59, .iload_n 2, 1, [], []), (60, .i2l, 1, [], []), (61, .invokevirtual 242, 3, [2, 10, 118, 3, 0], []), (64, .iload_n 1, 1, [], []), (65, .iconst 1, 1, [1], []), (66, .isub, 1, [], []), (67, .ireturn, 1, [], [])]
def k_X10_takes : List mE := [(0, .aload_n 0, 1, [], []), (1, .invokevirtual 270, 3, [1, 10, 197, 2, 0], []), (4, .aload_n 0, 1, [], []), (5, .getfield 9, 3, [10, 0], []), (8, .sipush 1340, 3, [1340], []), (11, .iconst 0, 1, [0], []), (12, .iastore, 1, [], []), (13, .aload_n 0, 1, [], []), (14, .iload_n 1, 1, [], []), (15, .iconst 0, 1, [0], []), (16, .iload_n 2, 1, [], []), (17, .iconst 1, 1, [1], []), (18, .iconst 1, 1, [1], []), (19, .invokevirtual 131, 3, [6, 10, 145, 7, 0], []), (22, .iconst 0, 1, [0], []), (23, .istore_n 3, 1, [], []), (24, .iload_n 3, 1, [], [1, 0, 0, 1, 0]), (25, .bipush 99, 2, [99], []), (27, .if_icmp .ge 24, 3, [51, 0], []), (30, .aload_n 0, 1, [], []), (31, .getfield 9, 3, [10, 0], []), (34, .sipush 1340, 3, [1340], []), (37, .iaload, 1, [], []), (38, .ifCond .ne 13, 3, [51, 0], []), (41, .aload_n 0, 1, [], []), (42, .invokevirtual 236, 3, [1, 10, 170, 2, 0], []), (45, .iinc 3 1, 3, [], []), (48, .goto (-24), 3, [24, 1, 1, 0, 0, 1, 0], []), (51, .aload_n 0, 1, [], []), (52, .getfield 9, 3, [10, 0], []), (55, .sipush 1340, 3, [1340], []), (58, .iaload, 1, [], []), (59, .iconst 1, 1, [1], []), (60, .if_icmp .ne 7, 3, [67, 0], []), (63, .iconst 1, 1, [1], []), (64, .goto 4, 3, [68, 0], []), (67, .iconst 0, 1, [0], []), (68, .istore 4, 2, [], []), (70, .aload_n 0, 1, [], []), (71, .invokevirtual 276, 3, [1, 10, 198, 2, 0], []), (74, .iload 4, 2, [], []), (76, .ifCond .eq 7, 3, [83, 0], []), (79, .iload_n 3, 1, [], []), (80, .goto 4, 3, [84, 0], []), (83, .iconst 0, 1, [0], []), (84, .ireturn, 1, [], [])]
def k_X10_soonest : List mE := [(0, .aload_n 0, 1, [], []), (1, .iconst 0, 1, [0], []), (2, .putfield 52, 3, [10, 5], []), (5, .aload_n 0, 1, [], []), (6, .iload_n 1, 1, [], []), (7, .invokevirtual 139, 3, [2, 10, 121, 2, 1], []), (10, .ifCond .ne 5, 3, [15, 0], []), (13, .iconst (-1), 1, [], []), (14, .ireturn, 1, [], []), (15, .iconst (-1), 1, [], []), (16, .istore_n 2, 1, [], []), (17, .iconst 0, 1, [0], []), (18, .istore_n 3, 1, [], []), (19, .iconst 0, 1, [0], []), (20, .istore 4, 2, [], []), (22, .iload 4, 2, [], [1, 1, 1, 1, 1, 0]), (24, .aload_n 0, 1, [], []), (25, .getfield 9, 3, [10, 0], []), (28, .iconst 0, 1, [0], []), (29, .iaload, 1, [], []), (30, .if_icmp .ge 76, 3, [106, 0], []), (33, .aload_n 0, 1, [], []), (34, .iload 4, 2, [], []), (36, .iload_n 1, 1, [], []), (37, .invokevirtual 127, 3, [3, 10, 124, 3, 1], []), (40, .ifCond .eq 60, 3, [100, 0], []), (43, .aload_n 0, 1, [], []), (44, .getfield 9, 3, [10, 0], []), (47, .sipush 147, 3, [147], []), (50, .iload 4, 2, [], []), (52, .iconst 0, 1, [0], []), (53, .invokestatic 67, 3, [2, 125, 2, 1], []), (56, .iadd, 1, [], []), (57, .iaload, 1, [], []), (58, .bipush 8, 2, [8], []), (60, .if_icmp .ne 6, 3, [66, 0], []), (63, .goto 37, 3, [100, 0], []), (66, .aload_n 0, 1, [], []), (67, .iload 4, 2, [], []), (69, .iload_n 1, 1, [], []), (70, .invokevirtual 282, 3, [3, 10, 203, 5, 1], []), (73, .istore 5, 2, [], []), (75, .iload 5, 2, [], []), (77, .ifCond .eq 23, 3, [100, 0], []), (80, .iload_n 2, 1, [], []), (81, .iconst (-1), 1, [], []), (82, .if_icmp .eq 12, 3, [94, 0], []), (85, .iload 5, 2, [], []), (87, .iload_n 3, 1, [], []), (88, .if_icmp .lt 6, 3, [94, 0], []), (91, .goto 9, 3, [100, 0], []), (94, .iload 4, 2, [], []), (96, .istore_n 2, 1, [], []), (97, .iload 5, 2, [], []), (99, .istore_n 3, 1, [], []), (100, .iinc 4 1, 3, [], []), (103, .goto (-81), 3, [22, 1, 1, 1, 1, 1, 1, 0], []), (106, .iload_n 2, 1, [], []), (107, .iconst (-1), 1, [], []), (108, .if_icmp .ne 6, 3, [114, 0], []), (111, .bipush (-2), 2, [], []), (113, .ireturn, 1, [], []), (114, .aload_n 0, 1, [], []), (115, .iconst 0, 1, [0], []), (116, .putfield 56, 3, [10, 4], []), (119, .aload_n 0, 1, [], []), (120, .iload_n 3, 1, [], []), (121, .i2l, 1, [], []), (122, .invokevirtual 242, 3, [2, 10, 118, 3, 0], []), (125, .iload_n 2, 1, [], []), (126, .ireturn, 1, [], [])]
def k_X10_readAct : List mE := [(0, .aload_n 0, 1, [], []), (1, .invokevirtual 86, 3, [1, 10, 132, 1, 1], []), (4, .istore_n 2, 1, [], []), (5, .iload_n 2, 1, [], []), (6, .bipush 102, 2, [102], []), (8, .if_icmp .eq 24, 3, [32, 0], []), (11, .iload_n 2, 1, [], []), (12, .bipush 115, 2, [115], []), (14, .if_icmp .eq 18, 3, [32, 0], []), (17, .iload_n 2, 1, [], []), (18, .bipush 100, 2, [100], []), (20, .if_icmp .eq 12, 3, [32, 0], []), (23, .aload_n 0, 1, [], []), (24, .aload_n 0, 1, [], []), (25, .getfield 77, 3, [10, 7], []), (28, .invokevirtual 90, 3, [2, 10, 134, 2, 0], []), (31, .return_, 1, [], []), (32, .aload_n 0, 1, [], []), (33, .dup, 1, [], []), (34, .getfield 77, 3, [10, 7], []), (37, .iconst 1, 1, [1], []), (38, .iadd, 1, [], []), (39, .putfield 77, 3, [10, 7], []), (42, .aload_n 0, 1, [], []), (43, .getfield 33, 3, [10, 14], []), (46, .iload_n 1, 1, [], []), (47, .iload_n 2, 1, [], []), (48, .iastore, 1, [], []), (49, .iload_n 2, 1, [], []), (50, .bipush 115, 2, [115], []), (52, .if_icmp .ne 15, 3, [67, 0], []), (55, .aload_n 0, 1, [], []), (56, .getfield 33, 3, [10, 14], []), (59, .iload_n 1, 1, [], []), (60, .iconst 1, 1, [1], []), (61, .iadd, 1, [], []), (62, .aload_n 0, 1, [], []), (63, .invokevirtual 285, 3, [1, 10, 136, 2, 1], []), (66, .iastore, 1, [], []), (67, .iload_n 2, 1, [], [1, 1, 1]), (68, .bipush 102, 2, [102], []), (70, .if_icmp .eq 4, 3, [74, 0], []), (73, .return_, 1, [], []), (74, .aload_n 0, 1, [], []), (75, .getfield 33, 3, [10, 14], []), (78, .iload_n 1, 1, [], []), (79, .iconst 1, 1, [1], []), (80, .iadd, 1, [], []), (81, .aload_n 0, 1, [], []), (82, .bipush 97, 2, [97], []), (84, .bipush 6, 2, [6], []), (86, .invokevirtual 94, 3, [3, 10, 135, 3, 1], []), (89, .iastore, 1, [], []), (90, .aload_n 0, 1, [], []), (91, .getfield 33, 3, [10, 14], []), (94, .iload_n 1, 1, [], []), (95, .iconst 2, 1, [2], []), (96, .iadd, 1, [], []), (97, .aload_n 0, 1, [], []), (98, .bipush 48, 2, [48], []), (100, .iconst 4, 1, [4], []), (101, .invokevirtual 94, 3, [3, 10, 135, 3, 1], []), (104, .iastore, 1, [], []), (105, .aload_n 0, 1, [], []), (106, .getfield 33, 3, [10, 14], []), (109, .iload_n 1, 1, [], []), (110, .iconst 3, 1, [3], []), (111, .iadd, 1, [], []), (112, .aload_n 0, 1, [], []), (113, .bipush 97, 2, [97], []), (115, .bipush 6, 2, [6], []), (117, .invokevirtual 94, 3, [3, 10, 135, 3, 1], []), (120, .iastore, 1, [], []), (121, .aload_n 0, 1, [], []), (122, .getfield 33, 3, [10, 14], []), (125, .iload_n 1, 1, [], []), (126, .iconst 4, 1, [4], []), (127, .iadd, 1, [], []), (128, .aload_n 0, 1, [], []), (129, .bipush 49, 2, [49], []), (131, .bipush 9, 2, [9], []), (133, .invokevirtual 94, 3, [3, 10, 135, 3, 1], []), (136, .iconst 1, 1, [1], []), (137, .iadd, 1, [], []), (138, .iastore, 1, [], []), (139, .return_, 1, [], [])]
def k_X10_act : List mE := [(0, .aload_n 0, 1, [], []), (1, .getfield 33, 3, [10, 14], []), (4, .iload_n 1, 1, [], []), (5, .iaload, 1, [], []), (6, .bipush 100, 2, [100], []), (8, .if_icmp .ne 10, 3, [18, 0], []), (11, .aload_n 0, 1, [], []), (12, .invokevirtual 246, 3, [1, 10, 173, 4, 1], []), (15, .pop, 1, [], []), (16, .iconst 1, 1, [1], []), (17, .ireturn, 1, [1], []), (18, .aload_n 0, 1, [], []), (19, .getfield 33, 3, [10, 14], []), (22, .iload_n 1, 1, [], []), (23, .iaload, 1, [], []), (24, .bipush 115, 2, [115], []), (26, .if_icmp .ne 36, 3, [62, 0], []), (29, .aload_n 0, 1, [], []), (30, .getfield 33, 3, [10, 14], []), (33, .iload_n 1, 1, [], []), (34, .iconst 1, 1, [1], []), (35, .iadd, 1, [], []), (36, .iaload, 1, [], []), (37, .iconst 1, 1, [1], []), (38, .bipush 60, 2, [60], []), (40, .invokestatic 59, 3, [3, 115, 3, 1], []), (43, .ifCond .ne 5, 3, [48, 0], []), (46, .iconst 0, 1, [0], []), (47, .ireturn, 1, [1], []), (48, .aload_n 0, 1, [], []), (49, .aload_n 0, 1, [], []), (50, .getfield 33, 3, [10, 14], []), (53, .iload_n 1, 1, [], []), (54, .iconst 1, 1, [1], []), (55, .iadd, 1, [], []), (56, .iaload, 1, [], []), (57, .invokevirtual 239, 3, [2, 10, 171, 3, 0], []), (60, .iconst 1, 1, [1], []), (61, .ireturn, 1, [1], []), (62, .aload_n 0, 1, [], []), (63, .aload_n 0, 1, [], []), (64, .getfield 33, 3, [10, 14], []), (67, .iload_n 1, 1, [], []), (68, .iconst 1, 1, [1], []), (69, .iadd, 1, [], []), (70, .iaload, 1, [], []), (71, .aload_n 0, 1, [], []), (72, .getfield 33, 3, [10, 14], []), (75, .iload_n 1, 1, [], []), (76, .iconst 2, 1, [2], []), (77, .iadd, 1, [], []), (78, .iaload, 1, [], []), (79, .aload_n 0, 1, [], []), (80, .getfield 33, 3, [10, 14], []), (83, .iload_n 1, 1, [], []), (84, .iconst 3, 1, [3], []), (85, .iadd, 1, [], []), (86, .iaload, 1, [], []), (87, .aload_n 0, 1, [], []), (88, .getfield 33, 3, [10, 14], []), (91, .iload_n 1, 1, [], []), (92, .iconst 4, 1, [4], []), (93, .iadd, 1, [], []), (94, .iaload, 1, [], []), (95, .invokevirtual 142, 3, [5, 10, 147, 5, 1], []), (98, .ifCond .ge 5, 3, [103, 0], []), (101, .iconst 0, 1, [0], []), (102, .ireturn, 1, [1], []), (103, .aload_n 0, 1, [], []), (104, .aload_n 0, 1, [], []), (105, .getfield 33, 3, [10, 14], []), (108, .iload_n 1, 1, [], []), (109, .iconst 1, 1, [1], []), (110, .iadd, 1, [], []), (111, .iaload, 1, [], []), (112, .aload_n 0, 1, [], []), (113, .getfield 33, 3, [10, 14], []), (116, .iload_n 1, 1, [], []), (117, .iconst 2, 1, [2], []), (118, .iadd, 1, [], []), (119, .iaload, 1, [], []), (120, .aload_n 0, 1, [], []), (121, .getfield 33, 3, [10, 14], []), (124, .iload_n 1, 1, [], []), (125, .iconst 3, 1, [3], []), (126, .iadd, 1, [], []), (127, .iaload, 1, [], []), (128, .aload_n 0, 1, [], []), (129, .getfield 33, 3, [10, 14], []), (132, .iload_n 1, 1, [], []), (133, .iconst 4, 1, [4], []), (134, .iadd, 1, [], []), (135, .iaload, 1, [], []), (136, .iconst 0, 1, [0], []), (137, .invokevirtual 131, 3, [6, 10, 145, 7, 0], []), (140, .iconst 1, 1, [1], []), (141, .ireturn, 1, [1], [])]
def k_X10_day : List mE := [(0, .aload_n 0, 1, [], []), (1, .iconst 0, 1, [0], []), (2, .putfield 52, 3, [10, 5], []), (5, .aload_n 0, 1, [], []), (6, .invokevirtual 98, 3, [1, 10, 131, 1, 0], []), (9, .iconst 0, 1, [0], []), (10, .istore_n 1, 1, [], []), (11, .aload_n 0, 1, [], [1, 1, 0, 0]), (12, .invokevirtual 82, 3, [1, 10, 133, 1, 1], []), (15, .ifCond .eq 27, 3, [42, 0], []), (18, .aload_n 0, 1, [], []), (19, .getfield 77, 3, [10, 7], []), (22, .aload_n 0, 1, [], []), (23, .getfield 74, 3, [10, 6], []), (26, .if_icmp .ge 16, 3, [42, 0], []), (29, .aload_n 0, 1, [], []), (30, .iconst 5, 1, [5], []), (31, .iload_n 1, 1, [], []), (32, .imul, 1, [], []), (33, .invokevirtual 288, 3, [2, 10, 205, 3, 0], []), (36, .iinc 1 1, 3, [], []), (39, .goto (-28), 3, [11, 1, 1, 1, 0, 0], []), (42, .aload_n 0, 1, [], []), (43, .invokevirtual 105, 3, [1, 10, 137, 1, 1], []), (46, .ifCond .ne 10, 3, [56, 0], []), (49, .iconst (-1), 1, [], []), (50, .aload_n 0, 1, [], []), (51, .getfield 79, 3, [10, 8], []), (54, .isub, 1, [], []), (55, .ireturn, 1, [], []), (56, .iconst 0, 1, [0], []), (57, .istore_n 2, 1, [], []), (58, .iload_n 2, 1, [], [1, 1, 1, 0]), (59, .sipush 1432, 3, [1432], []), (62, .if_icmp .ge 21, 3, [83, 0], []), (65, .aload_n 0, 1, [], []), (66, .getfield 39, 3, [10, 16], []), (69, .iload_n 2, 1, [], []), (70, .aload_n 0, 1, [], []), (71, .getfield 9, 3, [10, 0], []), (74, .iload_n 2, 1, [], []), (75, .iaload, 1, [], []), (76, .iastore, 1, [], []), (77, .iinc 2 1, 3, [], []), (80, .goto (-22), 3, [58, 1, 1, 1, 1, 0], []), (83, .aload_n 0, 1, [], []), (84, .getfield 9, 3, [10, 0], []), (87, .sipush 1336, 3, [1336], []), (90, .iaload, 1, [], []), (91, .istore_n 2, 1, [], []), (92, .iconst 0, 1, [0], []), (93, .istore_n 3, 1, [], []), (94, .iload_n 3, 1, [], [1, 1, 1, 1]), (95, .iload_n 1, 1, [], []), (96, .if_icmp .ge 19, 3, [115, 0], []), (99, .aload_n 0, 1, [], []), (100, .iconst 5, 1, [5], []), (101, .iload_n 3, 1, [], []), (102, .imul, 1, [], []), (103, .invokevirtual 291, 3, [2, 10, 206, 2, 1], []), (106, .ifCond .eq 9, 3, [115, 0], []), (109, .iinc 3 1, 3, [], []), (112, .goto (-18), 3, [94, 1, 1, 1, 1, 1], []), (115, .iload_n 3, 1, [], []), (116, .ifCond .le 7, 3, [123, 0], []), (119, .aload_n 0, 1, [], []), (120, .invokevirtual 294, 3, [1, 10, 209, 2, 0], []), (123, .aload_n 0, 1, [], []), (124, .iconst 0, 1, [0], []), (125, .putfield 56, 3, [10, 4], []), (128, .aload_n 0, 1, [], []), (129, .iload_n 3, 1, [], []), (130, .iload_n 1, 1, [], []), (131, .if_icmp .ge 7, 3, [138, 0], []), (134, .lconst 1, 1, [1], []), (135, .goto 4, 3, [139, 0], []), (138, .lconst 0, 1, [0], []), (139, .invokevirtual 242, 3, [2, 10, 118, 3, 0], []), (142, .aload_n 0, 1, [], []), (143, .aload_n 0, 1, [], []), (144, .getfield 9, 3, [10, 0], []), (147, .sipush 1336, 3, [1336], []), (150, .iaload, 1, [], []), (151, .iload_n 2, 1, [], []), (152, .isub, 1, [], []), (153, .i2l, 1, [], []), (154, .invokevirtual 242, 3, [2, 10, 118, 3, 0], []), (157, .iload_n 3, 1, [], []), (158, .ireturn, 1, [], [])]
def k_X10_change : List mE := [(0, .iconst 0, 1, [0], []), (1, .istore_n 1, 1, [], []), (2, .iload_n 1, 1, [], [1, 1]), (3, .sipush 1432, 3, [1432], []), (6, .if_icmp .ge 21, 3, [27, 0], []), (9, .aload_n 0, 1, [], []), (10, .getfield 39, 3, [10, 16], []), (13, .iload_n 1, 1, [], []), (14, .aload_n 0, 1, [], []), (15, .getfield 9, 3, [10, 0], []), (18, .iload_n 1, 1, [], []), (19, .iaload, 1, [], []), (20, .iastore, 1, [], []), (21, .iinc 1 1, 3, [], []), (24, .goto (-22), 3, [2, 1, 1, 1], []), (27, .aload_n 0, 1, [], []), (28, .invokevirtual 294, 3, [1, 10, 209, 2, 0], []), (31, .return_, 1, [], [])]
def k_X10_note : List mE := [(0, .aload_n 0, 1, [], []), (1, .getfield 297, 3, [10, 17], []), (4, .bipush 6, 2, [6], []), (6, .if_icmp .ne 44, 3, [50, 0], []), (9, .iconst 0, 1, [0], []), (10, .istore_n 1, 1, [], []), (11, .iload_n 1, 1, [], [1, 1]), (12, .sipush 7160, 3, [7160], []), (15, .if_icmp .ge 25, 3, [40, 0], []), (18, .aload_n 0, 1, [], []), (19, .getfield 36, 3, [10, 15], []), (22, .iload_n 1, 1, [], []), (23, .aload_n 0, 1, [], []), (24, .getfield 36, 3, [10, 15], []), (27, .iload_n 1, 1, [], []), (28, .sipush 1432, 3, [1432], []), (31, .iadd, 1, [], []), (32, .iaload, 1, [], []), (33, .iastore, 1, [], []), (34, .iinc 1 1, 3, [], []), (37, .goto (-26), 3, [11, 1, 1, 1], []), (40, .aload_n 0, 1, [], []), (41, .dup, 1, [], []), (42, .getfield 297, 3, [10, 17], []), (45, .iconst 1, 1, [1], []), (46, .isub, 1, [], []), (47, .putfield 297, 3, [10, 17], []), (50, .iconst 0, 1, [0], []), (51, .istore_n 1, 1, [], []), (52, .iload_n 1, 1, [], [1, 1]), (53, .sipush 1432, 3, [1432], []), (56, .if_icmp .ge 30, 3, [86, 0], []), (59, .aload_n 0, 1, [], []), (60, .getfield 36, 3, [10, 15], []), (63, .sipush 1432, 3, [1432], []), (66, .aload_n 0, 1, [], []), (67, .getfield 297, 3, [10, 17], []), (70, .imul, 1, [], []), (71, .iload_n 1, 1, [], []), (72, .iadd, 1, [], []), (73, .aload_n 0, 1, [], []), (74, .getfield 39, 3, [10, 16], []), (77, .iload_n 1, 1, [], []), (78, .iaload, 1, [], []), (79, .iastore, 1, [], []), (80, .iinc 1 1, 3, [], []), (83, .goto (-31), 3, [52, 1, 1, 1], []), (86, .aload_n 0, 1, [], []), (87, .dup, 1, [], []), (88, .getfield 297, 3, [10, 17], []), (91, .iconst 1, 1, [1], []), (92, .iadd, 1, [], []), (93, .putfield 297, 3, [10, 17], []), (96, .return_, 1, [], [])]
def k_X10_undo : List mE := [(0, .aload_n 0, 1, [], []), (1, .iconst 0, 1, [0], []), (2, .putfield 52, 3, [10, 5], []), (5, .aload_n 0, 1, [], []), (6, .getfield 297, 3, [10, 17], []), (9, .ifCond .ne 5, 3, [14, 0], []), (12, .iconst (-1), 1, [], []), (13, .ireturn, 1, [], []), (14, .aload_n 0, 1, [], []), (15, .dup, 1, [], []), (16, .getfield 297, 3, [10, 17], []), (19, .iconst 1, 1, [1], []), (20, .isub, 1, [], []), (21, .putfield 297, 3, [10, 17], []), (24, .iconst 0, 1, [0], []), (25, .istore_n 1, 1, [], []), (26, .iload_n 1, 1, [], [1, 1]), (27, .sipush 1432, 3, [1432], []), (30, .if_icmp .ge 30, 3, [60, 0], []), (33, .aload_n 0, 1, [], []), (34, .getfield 9, 3, [10, 0], []), (37, .iload_n 1, 1, [], []), (38, .aload_n 0, 1, [], []), (39, .getfield 36, 3, [10, 15], []), (42, .sipush 1432, 3, [1432], []), (45, .aload_n 0, 1, [], []), (46, .getfield 297, 3, [10, 17], []), (49, .imul, 1, [], []), (50, .iload_n 1, 1, [], []), (51, .iadd, 1, [], []), (52, .iaload, 1, [], []), (53, .iastore, 1, [], []), (54, .iinc 1 1, 3, [], []), (57, .goto (-31), 3, [26, 1, 1, 1], []), (60, .aload_n 0, 1, [], []), (61, .getfield 297, 3, [10, 17], []), (64, .ireturn, 1, [], [])]
def k_X10_drawBeside : List mE := [(0, .aload_n 0, 1, [], []), (1, .aload_n 0, 1, [], []), (2, .getfield 300, 3, [10, 18], []), (5, .ldc 70, 2, [1103515245], []), (7, .imul, 1, [], []), (8, .sipush 12345, 3, [12345], []), (11, .iadd, 1, [], []), (12, .putfield 300, 3, [10, 18], []), (15, .aload_n 0, 1, [], []), (16, .getfield 300, 3, [10, 18], []), (19, .bipush 16, 2, [16], []), (21, .iushr, 1, [], []), (22, .iload_n 1, 1, [], []), (23, .irem, 1, [], []), (24, .ireturn, 1, [], [])]
def k_X10_years : List mE := [(0, .aload_n 0, 1, [], []), (1, .iconst 0, 1, [0], []), (2, .putfield 52, 3, [10, 5], []), (5, .iload_n 2, 1, [], []), (6, .iconst 1, 1, [1], []), (7, .bipush 40, 2, [40], []), (9, .invokestatic 59, 3, [3, 115, 3, 1], []), (12, .ifCond .ne 5, 3, [17, 0], []), (15, .iconst (-1), 1, [], []), (16, .ireturn, 1, [], []), (17, .aload_n 0, 1, [], []), (18, .iload_n 1, 1, [], []), (19, .putfield 300, 3, [10, 18], []), (22, .aload_n 0, 1, [], []), (23, .invokevirtual 270, 3, [1, 10, 197, 2, 0], []), (26, .iconst 0, 1, [0], []), (27, .istore_n 3, 1, [], []), (28, .iload_n 3, 1, [], [1, 0, 1, 1, 0, 0, 0, 0]), (29, .iload_n 2, 1, [], []), (30, .if_icmp .ge 94, 3, [124, 0], []), (33, .aload_n 0, 1, [], []), (34, .iconst 3, 1, [3], []), (35, .invokevirtual 303, 3, [2, 10, 211, 2, 1], []), (38, .iconst 2, 1, [2], []), (39, .if_icmp .ne 18, 3, [57, 0], []), (42, .aload_n 0, 1, [], []), (43, .aload_n 0, 1, [], []), (44, .bipush 8, 2, [8], []), (46, .invokevirtual 303, 3, [2, 10, 211, 2, 1], []), (49, .iconst 1, 1, [1], []), (50, .iadd, 1, [], []), (51, .invokevirtual 239, 3, [2, 10, 171, 3, 0], []), (54, .goto 64, 3, [118, 0], []), (57, .aload_n 0, 1, [], []), (58, .bipush 6, 2, [6], []), (60, .invokevirtual 303, 3, [2, 10, 211, 2, 1], []), (63, .istore 4, 2, [], []), (65, .aload_n 0, 1, [], []), (66, .iconst 4, 1, [4], []), (67, .invokevirtual 303, 3, [2, 10, 211, 2, 1], []), (70, .istore 5, 2, [], []), (72, .aload_n 0, 1, [], []), (73, .bipush 6, 2, [6], []), (75, .invokevirtual 303, 3, [2, 10, 211, 2, 1], []), (78, .istore 6, 2, [], []), (80, .aload_n 0, 1, [], []), (81, .bipush 9, 2, [9], []), (83, .invokevirtual 303, 3, [2, 10, 211, 2, 1], []), (86, .iconst 1, 1, [1], []), (87, .iadd, 1, [], []), (88, .istore 7, 2, [], []), (90, .aload_n 0, 1, [], []), (91, .iload 4, 2, [], []), (93, .iload 5, 2, [], []), (95, .iload 6, 2, [], []), (97, .iload 7, 2, [], []), (99, .invokevirtual 142, 3, [5, 10, 147, 5, 1], []), (102, .ifCond .ne 16, 3, [118, 0], []), (105, .aload_n 0, 1, [], []), (106, .iload 4, 2, [], []), (108, .iload 5, 2, [], []), (110, .iload 6, 2, [], []), (112, .iload 7, 2, [], []), (114, .iconst 0, 1, [0], []), (115, .invokevirtual 131, 3, [6, 10, 145, 7, 0], []), (118, .iinc 3 1, 3, [], []), (121, .goto (-93), 3, [28, 1, 1, 0, 1, 1, 0, 0, 0, 0], []), (124, .aload_n 0, 1, [], []), (125, .getfield 9, 3, [10, 0], []), (128, .sipush 1336, 3, [1336], []), (131, .iaload, 1, [], []), (132, .aload_n 0, 1, [], []), (133, .getfield 30, 3, [10, 13], []), (136, .sipush 1336, 3, [1336], []), (139, .iaload, 1, [], []), (140, .isub, 1, [], []), (141, .istore_n 3, 1, [], []), (142, .aload_n 0, 1, [], []), (143, .getfield 9, 3, [10, 0], []), (146, .sipush 1337, 3, [1337], []), (149, .iaload, 1, [], []), (150, .aload_n 0, 1, [], []), (151, .getfield 30, 3, [10, 13], []), (154, .sipush 1337, 3, [1337], []), (157, .iaload, 1, [], []), (158, .isub, 1, [], []), (159, .istore 4, 2, [], []), (161, .aload_n 0, 1, [], []), (162, .invokevirtual 273, 3, [1, 10, 176, 3, 1], []), (165, .istore 5, 2, [], []), (167, .aload_n 0, 1, [], []), (168, .getfield 9, 3, [10, 0], []), (171, .iconst 1, 1, [1], []), (172, .iaload, 1, [], []), (173, .aload_n 0, 1, [], []), (174, .getfield 30, 3, [10, 13], []), (177, .iconst 1, 1, [1], []), (178, .iaload, 1, [], []), (179, .isub, 1, [], []), (180, .istore 6, 2, [], []), (182, .aload_n 0, 1, [], []), (183, .invokevirtual 276, 3, [1, 10, 198, 2, 0], []), (186, .aload_n 0, 1, [], []), (187, .iconst 0, 1, [0], []), (188, .putfield 56, 3, [10, 4], []), (191, .aload_n 0, 1, [], []), (192, .iload 4, 2, [], []), (194, .i2l, 1, [], []), (195, .invokevirtual 242, 3, [2, 10, 118, 3, 0], []), (198, .aload_n 0, 1, [], []), (199, .iload 5, 2, [], []), (201, .i2l, 1, [], []), (202, .invokevirtual 242, 3, [2, 10, 118, 3, 0], []), (205, .aload_n 0, 1, [], []), (206, .iload 6, 2, [], []), (208, .i2l, 1, [], []), (209, .invokevirtual 242, 3, [2, 10, 118, 3, 0], []), (212, .iload_n 3, 1, [], []), (213, .ireturn, 1, [], [])]
def k_X10_keep : List mE := [(0, .aload_n 0, 1, [], []), (1, .iconst 0, 1, [0], []), (2, .putfield 52, 3, [10, 5], []), (5, .iload_n 1, 1, [], []), (6, .iconst 0, 1, [0], []), (7, .iconst 1, 1, [1], []), (8, .invokestatic 59, 3, [3, 115, 3, 1], []), (11, .ifCond .ne 5, 3, [16, 0], []), (14, .iconst 0, 1, [0], []), (15, .ireturn, 1, [1], []), (16, .aload_n 0, 1, [], []), (17, .getfield 45, 3, [10, 20], []), (20, .iload_n 1, 1, [], []), (21, .iconst 1, 1, [1], []), (22, .bastore, 1, [], []), (23, .iconst 0, 1, [0], []), (24, .istore_n 2, 1, [], []), (25, .iload_n 2, 1, [], [1, 1, 1]), (26, .sipush 1432, 3, [1432], []), (29, .if_icmp .ge 27, 3, [56, 0], []), (32, .aload_n 0, 1, [], []), (33, .getfield 42, 3, [10, 19], []), (36, .sipush 1432, 3, [1432], []), (39, .iload_n 1, 1, [], []), (40, .imul, 1, [], []), (41, .iload_n 2, 1, [], []), (42, .iadd, 1, [], []), (43, .aload_n 0, 1, [], []), (44, .getfield 9, 3, [10, 0], []), (47, .iload_n 2, 1, [], []), (48, .iaload, 1, [], []), (49, .iastore, 1, [], []), (50, .iinc 2 1, 3, [], []), (53, .goto (-28), 3, [25, 1, 1, 1, 1], []), (56, .iconst 1, 1, [1], []), (57, .ireturn, 1, [1], [])]
def k_X10_again : List mE := [(0, .aload_n 0, 1, [], []), (1, .iconst 0, 1, [0], []), (2, .putfield 52, 3, [10, 5], []), (5, .iload_n 1, 1, [], []), (6, .iconst 0, 1, [0], []), (7, .iconst 1, 1, [1], []), (8, .invokestatic 59, 3, [3, 115, 3, 1], []), (11, .ifCond .eq 12, 3, [23, 0], []), (14, .aload_n 0, 1, [], []), (15, .getfield 45, 3, [10, 20], []), (18, .iload_n 1, 1, [], []), (19, .baload, 1, [], []), (20, .ifCond .ne 5, 3, [25, 0], []), (23, .iconst 0, 1, [0], []), (24, .ireturn, 1, [1], []), (25, .iconst 0, 1, [0], []), (26, .istore_n 2, 1, [], []), (27, .iload_n 2, 1, [], [1, 1, 1]), (28, .sipush 1432, 3, [1432], []), (31, .if_icmp .ge 27, 3, [58, 0], []), (34, .aload_n 0, 1, [], []), (35, .getfield 9, 3, [10, 0], []), (38, .iload_n 2, 1, [], []), (39, .aload_n 0, 1, [], []), (40, .getfield 42, 3, [10, 19], []), (43, .sipush 1432, 3, [1432], []), (46, .iload_n 1, 1, [], []), (47, .imul, 1, [], []), (48, .iload_n 2, 1, [], []), (49, .iadd, 1, [], []), (50, .iaload, 1, [], []), (51, .iastore, 1, [], []), (52, .iinc 2 1, 3, [], []), (55, .goto (-28), 3, [27, 1, 1, 1, 1], []), (58, .aload_n 0, 1, [], []), (59, .iconst 0, 1, [0], []), (60, .putfield 297, 3, [10, 17], []), (63, .iconst 1, 1, [1], []), (64, .ireturn, 1, [1], [])]
def k_X10_exchanges : List mE := [(0, .iconst 0, 1, [0], []), (1, .istore_n 1, 1, [], []), (2, .iconst 0, 1, [0], []), (3, .istore_n 2, 1, [], []), (4, .iload_n 2, 1, [], [1, 1, 1]), (5, .aload_n 0, 1, [], []), (6, .getfield 9, 3, [10, 0], []), (9, .iconst 0, 1, [0], []), (10, .iaload, 1, [], []), (11, .if_icmp .ge 23, 3, [34, 0], []), (14, .iload_n 1, 1, [], []), (15, .aload_n 0, 1, [], []), (16, .getfield 9, 3, [10, 0], []), (19, .iload_n 2, 1, [], []), (20, .invokestatic 117, 3, [1, 127, 1, 1], []), (23, .iconst 0, 1, [0], []), (24, .iadd, 1, [], []), (25, .iaload, 1, [], []), (26, .iadd, 1, [], []), (27, .istore_n 1, 1, [], []), (28, .iinc 2 1, 3, [], []), (31, .goto (-27), 3, [4, 1, 1, 1, 1], []), (34, .iload_n 1, 1, [], []), (35, .ireturn, 1, [], [])]
def k_X10_count : List mE := [(0, .aload_n 0, 1, [], []), (1, .iconst 0, 1, [0], []), (2, .putfield 52, 3, [10, 5], []), (5, .iload_n 1, 1, [], []), (6, .tableswitch 94 0 7 #[46, 53, 60, 65, 70, 75, 80, 85], 46, [100, 52, 59, 66, 71, 76, 81, 86, 91], []), (52, .aload_n 0, 1, [], []), (53, .getfield 9, 3, [10, 0], []), (56, .iconst 0, 1, [0], []), (57, .iaload, 1, [], []), (58, .ireturn, 1, [], []), (59, .aload_n 0, 1, [], []), (60, .getfield 9, 3, [10, 0], []), (63, .iconst 1, 1, [1], []), (64, .iaload, 1, [], []), (65, .ireturn, 1, [], []), (66, .aload_n 0, 1, [], []), (67, .invokevirtual 273, 3, [1, 10, 176, 3, 1], []), (70, .ireturn, 1, [], []), (71, .aload_n 0, 1, [], []), (72, .invokevirtual 306, 3, [1, 10, 215, 3, 1], []), (75, .ireturn, 1, [], []), (76, .aload_n 0, 1, [], []), (77, .getfield 297, 3, [10, 17], []), (80, .ireturn, 1, [], []), (81, .aload_n 0, 1, [], []), (82, .getfield 56, 3, [10, 4], []), (85, .ireturn, 1, [], []), (86, .aload_n 0, 1, [], []), (87, .getfield 71, 3, [10, 2], []), (90, .ireturn, 1, [], []), (91, .aload_n 0, 1, [], []), (92, .getfield 9, 3, [10, 0], []), (95, .sipush 1336, 3, [1336], []), (98, .iaload, 1, [], []), (99, .ireturn, 1, [], []), (100, .iconst (-1), 1, [], []), (101, .ireturn, 1, [], [])]
def k_X10_row : List mE := [(0, .aload_n 0, 1, [], []), (1, .iconst 0, 1, [0], []), (2, .putfield 52, 3, [10, 5], []), (5, .iload_n 1, 1, [], []), (6, .iconst 0, 1, [0], []), (7, .aload_n 0, 1, [], []), (8, .getfield 56, 3, [10, 4], []), (11, .iconst 1, 1, [1], []), (12, .isub, 1, [], []), (13, .invokestatic 59, 3, [3, 115, 3, 1], []), (16, .ifCond .eq 12, 3, [28, 0], []), (19, .aload_n 0, 1, [], []), (20, .getfield 17, 3, [10, 3], []), (23, .iload_n 1, 1, [], []), (24, .laload, 1, [], []), (25, .goto 8, 3, [33, 0], []), (28, .aload_n 0, 1, [], []), (29, .invokevirtual 114, 3, [1, 10, 117, 1, 1], []), (32, .i2l, 1, [], []), (33, .lreturn, 1, [], [])]
def k_J6_bitCount : List mE := [(0, .iload_n 0, 1, [], []), (1, .iload_n 0, 1, [], []), (2, .iconst 1, 1, [1], []), (3, .iushr, 1, [], []), (4, .ldc_w 265, 3, [1431655765], []), (7, .iand, 1, [], []), (8, .isub, 1, [], []), (9, .istore_n 0, 1, [], []), (10, .iload_n 0, 1, [], []), (11, .ldc_w 266, 3, [858993459], []), (14, .iand, 1, [], []), (15, .iload_n 0, 1, [], []), (16, .iconst 2, 1, [2], []), (17, .iushr, 1, [], []), (18, .ldc_w 266, 3, [858993459], []), (21, .iand, 1, [], []), (22, .iadd, 1, [], []), (23, .istore_n 0, 1, [], []), (24, .iload_n 0, 1, [], []), (25, .iload_n 0, 1, [], []), (26, .iconst 4, 1, [4], []), (27, .iushr, 1, [], []), (28, .iadd, 1, [], []), (29, .ldc_w 267, 3, [252645135], []), (32, .iand, 1, [], []), (33, .istore_n 0, 1, [], []), (34, .iload_n 0, 1, [], []), (35, .iload_n 0, 1, [], []), (36, .bipush 8, 2, [8], []), (38, .iushr, 1, [], []), (39, .iadd, 1, [], []), (40, .istore_n 0, 1, [], []), (41, .iload_n 0, 1, [], []), (42, .iload_n 0, 1, [], []), (43, .bipush 16, 2, [16], []), (45, .iushr, 1, [], []), (46, .iadd, 1, [], []), (47, .istore_n 0, 1, [], []), (48, .iload_n 0, 1, [], []), (49, .bipush 63, 2, [63], []), (51, .iand, 1, [], []), (52, .ireturn, 1, [], [])]
def k_L_setting : List mE := [(0, .aload_n 2, 1, [], []), (1, .iconst 0, 1, [0], []), (2, .aload_n 0, 1, [], []), (3, .iload_n 1, 1, [], []), (4, .invokevirtual 7, 3, [2, 9, 69, 2, 3, 13], []), (7, .i2l, 1, [], []), (8, .lastore, 1, [], []), (9, .goto 6, 3, [15, 0], []), (12, .astore_n 3, 1, [], []), (13, .iconst 1, 1, [1], []), (14, .ireturn, 1, [], []), (15, .iconst 0, 1, [0], []), (16, .ireturn, 1, [], [])]
def k_L_station : List mE := [(0, .aload_n 3, 1, [], []), (1, .iconst 0, 1, [0], []), (2, .aload_n 0, 1, [], []), (3, .iload_n 1, 1, [], []), (4, .iload_n 2, 1, [], []), (5, .invokevirtual 15, 3, [3, 9, 74, 4, 3, 15], []), (8, .i2l, 1, [], []), (9, .lastore, 1, [], []), (10, .goto 7, 3, [17, 0], []), (13, .astore 4, 2, [], []), (15, .iconst 1, 1, [1], []), (16, .ireturn, 1, [], []), (17, .iconst 0, 1, [0], []), (18, .ireturn, 1, [], [])]
def k_L_rank : List mE := [(0, .aload 4, 2, [], []), (2, .iconst 0, 1, [0], []), (3, .aload_n 0, 1, [], []), (4, .iload_n 1, 1, [], []), (5, .iload_n 2, 1, [], []), (6, .iload_n 3, 1, [], []), (7, .invokevirtual 19, 3, [4, 9, 75, 5, 3, 17], []), (10, .i2l, 1, [], []), (11, .lastore, 1, [], []), (12, .goto 7, 3, [19, 0], []), (15, .astore 5, 2, [], []), (17, .iconst 1, 1, [1], []), (18, .ireturn, 1, [], []), (19, .iconst 0, 1, [0], []), (20, .ireturn, 1, [], [])]
def k_L_frame : List mE := [(0, .aload 5, 2, [], []), (2, .iconst 0, 1, [0], []), (3, .aload_n 0, 1, [], []), (4, .iload_n 1, 1, [], []), (5, .iload_n 2, 1, [], []), (6, .iload_n 3, 1, [], []), (7, .iload 4, 2, [], []), (9, .invokevirtual 23, 3, [5, 9, 76, 6, 3, 19], []), (12, .i2l, 1, [], []), (13, .lastore, 1, [], []), (14, .goto 7, 3, [21, 0], []), (17, .astore 6, 2, [], []), (19, .iconst 1, 1, [1], []), (20, .ireturn, 1, [], []), (21, .iconst 0, 1, [0], []), (22, .ireturn, 1, [], [])]
def k_L_tally : List mE := [(0, .aload_n 3, 1, [], []), (1, .iconst 0, 1, [0], []), (2, .aload_n 0, 1, [], []), (3, .iload_n 1, 1, [], []), (4, .iload_n 2, 1, [], []), (5, .invokevirtual 27, 3, [3, 9, 82, 3, 3, 15], []), (8, .i2l, 1, [], []), (9, .lastore, 1, [], []), (10, .goto 7, 3, [17, 0], []), (13, .astore 4, 2, [], []), (15, .iconst 1, 1, [1], []), (16, .ireturn, 1, [], []), (17, .iconst 0, 1, [0], []), (18, .ireturn, 1, [], [])]
def k_L_row : List mE := [(0, .aload_n 2, 1, [], []), (1, .iconst 0, 1, [0], []), (2, .aload_n 0, 1, [], []), (3, .iload_n 1, 1, [], []), (4, .invokevirtual 30, 3, [2, 9, 100, 2, 4, 12], []), (7, .lastore, 1, [], []), (8, .goto 6, 3, [14, 0], []), (11, .astore_n 3, 1, [], []), (12, .iconst 1, 1, [1], []), (13, .ireturn, 1, [], []), (14, .iconst 0, 1, [0], []), (15, .ireturn, 1, [], [])]
def k_L_law : List mE := [(0, .new 8, 3, [], []), (3, .dup, 1, [], []), (4, .invokespecial 34, 3, [], []), (7, .astore_n 1, 1, [], []), (8, .new 35, 3, [], []), (11, .dup, 1, [], []), (12, .invokespecial 37, 3, [], []), (15, .astore_n 2, 1, [], []), (16, .iconst 1, 1, [1], []), (17, .newarray .long, 2, [], []), (19, .astore_n 3, 1, [], []), (20, .iconst 0, 1, [0], []), (21, .istore 4, 2, [], []), (23, .iload 4, 2, [], [1, 1, 1, 1, 1, 0, 0, 0]), (25, .aload_n 0, 1, [], []), (26, .arraylength, 1, [], []), (27, .bipush 6, 2, [6], []), (29, .isub, 1, [], []), (30, .if_icmp .gt 1405, 3, [1435, 0], []), (33, .aload_n 0, 1, [], []), (34, .iload 4, 2, [], []), (36, .iaload, 1, [], []), (37, .bipush 63, 2, [63], []), (39, .iand, 1, [], []), (40, .tableswitch 1389 0 35 #[160, 185, 210, 223, 260, 316, 389, 450, 475, 488, 556, 636, 728, 765, 778, 803, 840, 853, 921, 946, 983, 1008, 1021, 1034, 1071, 1108, 1145, 1158, 1171, 1196, 1209, 1222, 1259, 1284, 1309, 1334], 160, [1429, 200, 225, 250, 263, 300, 356, 429, 490, 515, 528, 596, 676, 768, 805, 818, 843, 880, 893, 961, 986, 1023, 1048, 1061, 1074, 1111, 1148, 1185, 1198, 1211, 1236, 1249, 1262, 1299, 1324, 1349, 1374], []), (200, .aload_n 1, 1, [], []), (201, .aload_n 0, 1, [], []), (202, .iload 4, 2, [], []), (204, .iconst 1, 1, [1], []), (205, .iadd, 1, [], []), (206, .iaload, 1, [], []), (207, .invokevirtual 38, 3, [2, 9, 65, 2, 1], []), (210, .aload_n 2, 1, [], []), (211, .aload_n 0, 1, [], []), (212, .iload 4, 2, [], []), (214, .iconst 1, 1, [1], []), (215, .iadd, 1, [], []), (216, .iaload, 1, [], []), (217, .invokevirtual 41, 3, [2, 10, 129, 3, 1], []), (220, .if_icmp .eq 1209, 3, [1429, 0], []), (223, .iconst 0, 1, [0], []), (224, .ireturn, 1, [1], []), (225, .aload_n 1, 1, [], []), (226, .aload_n 0, 1, [], []), (227, .iload 4, 2, [], []), (229, .iconst 1, 1, [1], []), (230, .iadd, 1, [], []), (231, .iaload, 1, [], []), (232, .invokevirtual 42, 3, [2, 9, 66, 2, 1], []), (235, .aload_n 2, 1, [], []), (236, .aload_n 0, 1, [], []), (237, .iload 4, 2, [], []), (239, .iconst 1, 1, [1], []), (240, .iadd, 1, [], []), (241, .iaload, 1, [], []), (242, .invokevirtual 46, 3, [2, 10, 130, 2, 1], []), (245, .if_icmp .eq 1184, 3, [1429, 0], []), (248, .iconst 0, 1, [0], []), (249, .ireturn, 1, [1], []), (250, .aload_n 1, 1, [], []), (251, .invokevirtual 47, 3, [1, 9, 67, 4, 1], []), (254, .aload_n 2, 1, [], []), (255, .invokevirtual 51, 3, [1, 10, 139, 5, 1], []), (258, .if_icmp .eq 1171, 3, [1429, 0], []), (261, .iconst 0, 1, [0], []), (262, .ireturn, 1, [1], []), (263, .aload_n 1, 1, [], []), (264, .aload_n 0, 1, [], []), (265, .iload 4, 2, [], []), (267, .iconst 1, 1, [1], []), (268, .iadd, 1, [], []), (269, .iaload, 1, [], []), (270, .aload_n 0, 1, [], []), (271, .iload 4, 2, [], []), (273, .iconst 2, 1, [2], []), (274, .iadd, 1, [], []), (275, .iaload, 1, [], []), (276, .invokevirtual 52, 3, [3, 9, 68, 4, 1], []), (279, .aload_n 2, 1, [], []), (280, .aload_n 0, 1, [], []), (281, .iload 4, 2, [], []), (283, .iconst 1, 1, [1], []), (284, .iadd, 1, [], []), (285, .iaload, 1, [], []), (286, .aload_n 0, 1, [], []), (287, .iload 4, 2, [], []), (289, .iconst 2, 1, [2], []), (290, .iadd, 1, [], []), (291, .iaload, 1, [], []), (292, .invokevirtual 55, 3, [3, 10, 141, 4, 1], []), (295, .if_icmp .eq 1134, 3, [1429, 0], []), (298, .iconst 0, 1, [0], []), (299, .ireturn, 1, [1], []), (300, .aload_n 1, 1, [], []), (301, .aload_n 0, 1, [], []), (302, .iload 4, 2, [], []), (304, .iconst 1, 1, [1], []), (305, .iadd, 1, [], []), (306, .iaload, 1, [], []), (307, .aload_n 3, 1, [], []), (308, .invokestatic 56, 3, [3, 219, 4, 1], []), (311, .istore 5, 2, [], []), (313, .aload_n 2, 1, [], []), (314, .aload_n 0, 1, [], []), (315, .iload 4, 2, [], []), (317, .iconst 1, 1, [1], []), (318, .iadd, 1, [], []), (319, .iaload, 1, [], []), (320, .invokevirtual 61, 3, [2, 10, 142, 2, 1], []), (323, .istore 6, 2, [], []), (325, .aload_n 2, 1, [], []), (326, .invokevirtual 62, 3, [1, 10, 114, 1, 1], []), (329, .iload 5, 2, [], []), (331, .if_icmp .eq 5, 3, [336, 0], []), (334, .iconst 0, 1, [0], []), (335, .ireturn, 1, [1], []), (336, .iload 5, 2, [], []), (338, .ifCond .ne 15, 3, [353, 0], []), (341, .aload_n 3, 1, [], []), (342, .iconst 0, 1, [0], []), (343, .laload, 1, [], []), (344, .iload 6, 2, [], []), (346, .i2l, 1, [], []), (347, .lcmp, 1, [], []), (348, .ifCond .eq 5, 3, [353, 0], []), (351, .iconst 0, 1, [0], []), (352, .ireturn, 1, [1], []), (353, .goto 1076, 3, [1429, 0], [1, 1, 1, 1, 1, 0, 0, 0]), (356, .aload_n 1, 1, [], []), (357, .aload_n 0, 1, [], []), (358, .iload 4, 2, [], []), (360, .iconst 1, 1, [1], []), (361, .iadd, 1, [], []), (362, .iaload, 1, [], []), (363, .aload_n 0, 1, [], []), (364, .iload 4, 2, [], []), (366, .iconst 2, 1, [2], []), (367, .iadd, 1, [], []), (368, .iaload, 1, [], []), (369, .aload_n 0, 1, [], []), (370, .iload 4, 2, [], []), (372, .iconst 3, 1, [3], []), (373, .iadd, 1, [], []), (374, .iaload, 1, [], []), (375, .aload_n 0, 1, [], []), (376, .iload 4, 2, [], []), (378, .iconst 4, 1, [4], []), (379, .iadd, 1, [], []), (380, .iaload, 1, [], []), (381, .aload_n 0, 1, [], []), (382, .iload 4, 2, [], []), (384, .iconst 5, 1, [5], []), (385, .iadd, 1, [], []), (386, .iaload, 1, [], []), (387, .invokevirtual 65, 3, [6, 9, 70, 8, 1], []), (390, .aload_n 2, 1, [], []), (391, .aload_n 0, 1, [], []), (392, .iload 4, 2, [], []), (394, .iconst 1, 1, [1], []), (395, .iadd, 1, [], []), (396, .iaload, 1, [], []), (397, .aload_n 0, 1, [], []), (398, .iload 4, 2, [], []), (400, .iconst 2, 1, [2], []), (401, .iadd, 1, [], []), (402, .iaload, 1, [], []), (403, .aload_n 0, 1, [], []), (404, .iload 4, 2, [], []), (406, .iconst 3, 1, [3], []), (407, .iadd, 1, [], []), (408, .iaload, 1, [], []), (409, .aload_n 0, 1, [], []), (410, .iload 4, 2, [], []), (412, .iconst 4, 1, [4], []), (413, .iadd, 1, [], []), (414, .iaload, 1, [], []), (415, .aload_n 0, 1, [], []), (416, .iload 4, 2, [], []), (418, .iconst 5, 1, [5], []), (419, .iadd, 1, [], []), (420, .iaload, 1, [], []), (421, .invokevirtual 69, 3, [6, 10, 144, 11, 1], []), (424, .if_icmp .eq 1005, 3, [1429, 0], []), (427, .iconst 0, 1, [0], []), (428, .ireturn, 1, [1], []), (429, .aload_n 1, 1, [], []), (430, .aload_n 0, 1, [], []), (431, .iload 4, 2, [], []), (433, .iconst 1, 1, [1], []), (434, .iadd, 1, [], []), (435, .iaload, 1, [], []), (436, .aload_n 0, 1, [], []), (437, .iload 4, 2, [], []), (439, .iconst 2, 1, [2], []), (440, .iadd, 1, [], []), (441, .iaload, 1, [], []), (442, .aload_n 0, 1, [], []), (443, .iload 4, 2, [], []), (445, .iconst 3, 1, [3], []), (446, .iadd, 1, [], []), (447, .iaload, 1, [], []), (448, .aload_n 0, 1, [], []), (449, .iload 4, 2, [], []), (451, .iconst 4, 1, [4], []), (452, .iadd, 1, [], []), (453, .iaload, 1, [], []), (454, .invokevirtual 70, 3, [5, 9, 71, 6, 1], []), (457, .aload_n 2, 1, [], []), (458, .aload_n 0, 1, [], []), (459, .iload 4, 2, [], []), (461, .iconst 1, 1, [1], []), (462, .iadd, 1, [], []), (463, .iaload, 1, [], []), (464, .aload_n 0, 1, [], []), (465, .iload 4, 2, [], []), (467, .iconst 2, 1, [2], []), (468, .iadd, 1, [], []), (469, .iaload, 1, [], []), (470, .aload_n 0, 1, [], []), (471, .iload 4, 2, [], []), (473, .iconst 3, 1, [3], []), (474, .iadd, 1, [], []), (475, .iaload, 1, [], []), (476, .aload_n 0, 1, [], []), (477, .iload 4, 2, [], []), (479, .iconst 4, 1, [4], []), (480, .iadd, 1, [], []), (481, .iaload, 1, [], []), (482, .invokevirtual 73, 3, [5, 10, 148, 6, 1], []), (485, .if_icmp .eq 944, 3, [1429, 0], []), (488, .iconst 0, 1, [0], []), (489, .ireturn, 1, [1], []), (490, .aload_n 1, 1, [], []), (491, .aload_n 0, 1, [], []), (492, .iload 4, 2, [], []), (494, .iconst 1, 1, [1], []), (495, .iadd, 1, [], []), (496, .iaload, 1, [], []), (497, .invokevirtual 74, 3, [2, 9, 72, 7, 1], []), (500, .aload_n 2, 1, [], []), (501, .aload_n 0, 1, [], []), (502, .iload 4, 2, [], []), (504, .iconst 1, 1, [1], []), (505, .iadd, 1, [], []), (506, .iaload, 1, [], []), (507, .invokevirtual 77, 3, [2, 10, 172, 6, 1], []), (510, .if_icmp .eq 919, 3, [1429, 0], []), (513, .iconst 0, 1, [0], []), (514, .ireturn, 1, [1], []), (515, .aload_n 1, 1, [], []), (516, .invokevirtual 78, 3, [1, 9, 73, 1, 1], []), (519, .aload_n 2, 1, [], []), (520, .invokevirtual 81, 3, [1, 10, 174, 1, 1], []), (523, .if_icmp .eq 906, 3, [1429, 0], []), (526, .iconst 0, 1, [0], []), (527, .ireturn, 1, [1], []), (528, .aload_n 1, 1, [], []), (529, .aload_n 0, 1, [], []), (530, .iload 4, 2, [], []), (532, .iconst 1, 1, [1], []), (533, .iadd, 1, [], []), (534, .iaload, 1, [], []), (535, .aload_n 0, 1, [], []), (536, .iload 4, 2, [], []), (538, .iconst 2, 1, [2], []), (539, .iadd, 1, [], []), (540, .iaload, 1, [], []), (541, .aload_n 3, 1, [], []), (542, .invokestatic 82, 3, [4, 220, 5, 1], []), (545, .istore 5, 2, [], []), (547, .aload_n 2, 1, [], []), (548, .aload_n 0, 1, [], []), (549, .iload 4, 2, [], []), (551, .iconst 1, 1, [1], []), (552, .iadd, 1, [], []), (553, .iaload, 1, [], []), (554, .aload_n 0, 1, [], []), (555, .iload 4, 2, [], []), (557, .iconst 2, 1, [2], []), (558, .iadd, 1, [], []), (559, .iaload, 1, [], []), (560, .invokevirtual 85, 3, [3, 10, 178, 3, 1], []), (563, .istore 6, 2, [], []), (565, .aload_n 2, 1, [], []), (566, .invokevirtual 62, 3, [1, 10, 114, 1, 1], []), (569, .iload 5, 2, [], []), (571, .if_icmp .eq 5, 3, [576, 0], []), (574, .iconst 0, 1, [0], []), (575, .ireturn, 1, [1], []), (576, .iload 5, 2, [], []), (578, .ifCond .ne 15, 3, [593, 0], []), (581, .aload_n 3, 1, [], []), (582, .iconst 0, 1, [0], []), (583, .laload, 1, [], []), (584, .iload 6, 2, [], []), (586, .i2l, 1, [], []), (587, .lcmp, 1, [], []), (588, .ifCond .eq 5, 3, [593, 0], []), (591, .iconst 0, 1, [0], []), (592, .ireturn, 1, [1], []), (593, .goto 836, 3, [1429, 0], [1, 1, 1, 1, 1, 0, 0, 0]), (596, .aload_n 1, 1, [], []), (597, .aload_n 0, 1, [], []), (598, .iload 4, 2, [], []), (600, .iconst 1, 1, [1], []), (601, .iadd, 1, [], []), (602, .iaload, 1, [], []), (603, .aload_n 0, 1, [], []), (604, .iload 4, 2, [], []), (606, .iconst 2, 1, [2], []), (607, .iadd, 1, [], []), (608, .iaload, 1, [], []), (609, .aload_n 0, 1, [], []), (610, .iload 4, 2, [], []), (612, .iconst 3, 1, [3], []), (613, .iadd, 1, [], []), (614, .iaload, 1, [], []), (615, .aload_n 3, 1, [], []), (616, .invokestatic 86, 3, [5, 221, 6, 1], []), (619, .istore 5, 2, [], []), (621, .aload_n 2, 1, [], []), (622, .aload_n 0, 1, [], []), (623, .iload 4, 2, [], []), (625, .iconst 1, 1, [1], []), (626, .iadd, 1, [], []), (627, .iaload, 1, [], []), (628, .aload_n 0, 1, [], []), (629, .iload 4, 2, [], []), (631, .iconst 2, 1, [2], []), (632, .iadd, 1, [], []), (633, .iaload, 1, [], []), (634, .aload_n 0, 1, [], []), (635, .iload 4, 2, [], []), (637, .iconst 3, 1, [3], []), (638, .iadd, 1, [], []), (639, .iaload, 1, [], []), (640, .invokevirtual 89, 3, [4, 10, 179, 4, 1], []), (643, .istore 6, 2, [], []), (645, .aload_n 2, 1, [], []), (646, .invokevirtual 62, 3, [1, 10, 114, 1, 1], []), (649, .iload 5, 2, [], []), (651, .if_icmp .eq 5, 3, [656, 0], []), (654, .iconst 0, 1, [0], []), (655, .ireturn, 1, [1], []), (656, .iload 5, 2, [], []), (658, .ifCond .ne 15, 3, [673, 0], []), (661, .aload_n 3, 1, [], []), (662, .iconst 0, 1, [0], []), (663, .laload, 1, [], []), (664, .iload 6, 2, [], []), (666, .i2l, 1, [], []), (667, .lcmp, 1, [], []), (668, .ifCond .eq 5, 3, [673, 0], []), (671, .iconst 0, 1, [0], []), (672, .ireturn, 1, [1], []), (673, .goto 756, 3, [1429, 0], [1, 1, 1, 1, 1, 0, 0, 0]), (676, .aload_n 1, 1, [], []), (677, .aload_n 0, 1, [], []), (678, .iload 4, 2, [], []), (680, .iconst 1, 1, [1], []), (681, .iadd, 1, [], []), (682, .iaload, 1, [], []), (683, .aload_n 0, 1, [], []), (684, .iload 4, 2, [], []), (686, .iconst 2, 1, [2], []), (687, .iadd, 1, [], []), (688, .iaload, 1, [], []), (689, .aload_n 0, 1, [], []), (690, .iload 4, 2, [], []), (692, .iconst 3, 1, [3], []), (693, .iadd, 1, [], []), (694, .iaload, 1, [], []), (695, .aload_n 0, 1, [], []), (696, .iload 4, 2, [], []), (698, .iconst 4, 1, [4], []), (699, .iadd, 1, [], []), (700, .iaload, 1, [], []), (701, .aload_n 3, 1, [], []), (702, .invokestatic 90, 3, [6, 222, 7, 1], []), (705, .istore 5, 2, [], []), (707, .aload_n 2, 1, [], []), (708, .aload_n 0, 1, [], []), (709, .iload 4, 2, [], []), (711, .iconst 1, 1, [1], []), (712, .iadd, 1, [], []), (713, .iaload, 1, [], []), (714, .aload_n 0, 1, [], []), (715, .iload 4, 2, [], []), (717, .iconst 2, 1, [2], []), (718, .iadd, 1, [], []), (719, .iaload, 1, [], []), (720, .aload_n 0, 1, [], []), (721, .iload 4, 2, [], []), (723, .iconst 3, 1, [3], []), (724, .iadd, 1, [], []), (725, .iaload, 1, [], []), (726, .aload_n 0, 1, [], []), (727, .iload 4, 2, [], []), (729, .iconst 4, 1, [4], []), (730, .iadd, 1, [], []), (731, .iaload, 1, [], []), (732, .invokevirtual 93, 3, [5, 10, 180, 5, 1], []), (735, .istore 6, 2, [], []), (737, .aload_n 2, 1, [], []), (738, .invokevirtual 62, 3, [1, 10, 114, 1, 1], []), (741, .iload 5, 2, [], []), (743, .if_icmp .eq 5, 3, [748, 0], []), (746, .iconst 0, 1, [0], []), (747, .ireturn, 1, [1], []), (748, .iload 5, 2, [], []), (750, .ifCond .ne 15, 3, [765, 0], []), (753, .aload_n 3, 1, [], []), (754, .iconst 0, 1, [0], []), (755, .laload, 1, [], []), (756, .iload 6, 2, [], []), (758, .i2l, 1, [], []), (759, .lcmp, 1, [], []), (760, .ifCond .eq 5, 3, [765, 0], []), (763, .iconst 0, 1, [0], []), (764, .ireturn, 1, [1], []), (765, .goto 664, 3, [1429, 0], [1, 1, 1, 1, 1, 0, 0, 0]), (768, .aload_n 1, 1, [], []), (769, .aload_n 0, 1, [], []), (770, .iload 4, 2, [], []), (772, .iconst 1, 1, [1], []), (773, .iadd, 1, [], []), (774, .iaload, 1, [], []), (775, .aload_n 0, 1, [], []), (776, .iload 4, 2, [], []), (778, .iconst 2, 1, [2], []), (779, .iadd, 1, [], []), (780, .iaload, 1, [], []), (781, .invokevirtual 94, 3, [3, 9, 77, 4, 1], []), (784, .aload_n 2, 1, [], []), (785, .aload_n 0, 1, [], []), (786, .iload 4, 2, [], []), (788, .iconst 1, 1, [1], []), (789, .iadd, 1, [], []), (790, .iaload, 1, [], []), (791, .aload_n 0, 1, [], []), (792, .iload 4, 2, [], []), (794, .iconst 2, 1, [2], []), (795, .iadd, 1, [], []), (796, .iaload, 1, [], []), (797, .invokevirtual 97, 3, [3, 10, 181, 4, 1], []), (800, .if_icmp .eq 629, 3, [1429, 0], []), (803, .iconst 0, 1, [0], []), (804, .ireturn, 1, [1], []), (805, .aload_n 1, 1, [], []), (806, .invokevirtual 98, 3, [1, 9, 78, 1, 1], []), (809, .aload_n 2, 1, [], []), (810, .invokevirtual 101, 3, [1, 10, 183, 1, 1], []), (813, .if_icmp .eq 616, 3, [1429, 0], []), (816, .iconst 0, 1, [0], []), (817, .ireturn, 1, [1], []), (818, .aload_n 1, 1, [], []), (819, .aload_n 0, 1, [], []), (820, .iload 4, 2, [], []), (822, .iconst 1, 1, [1], []), (823, .iadd, 1, [], []), (824, .iaload, 1, [], []), (825, .invokevirtual 102, 3, [2, 9, 79, 3, 1], []), (828, .aload_n 2, 1, [], []), (829, .aload_n 0, 1, [], []), (830, .iload 4, 2, [], []), (832, .iconst 1, 1, [1], []), (833, .iadd, 1, [], []), (834, .iaload, 1, [], []), (835, .invokevirtual 105, 3, [2, 10, 184, 2, 1], []), (838, .if_icmp .eq 591, 3, [1429, 0], []), (841, .iconst 0, 1, [0], []), (842, .ireturn, 1, [1], []), (843, .aload_n 1, 1, [], []), (844, .aload_n 0, 1, [], []), (845, .iload 4, 2, [], []), (847, .iconst 1, 1, [1], []), (848, .iadd, 1, [], []), (849, .iaload, 1, [], []), (850, .aload_n 0, 1, [], []), (851, .iload 4, 2, [], []), (853, .iconst 2, 1, [2], []), (854, .iadd, 1, [], []), (855, .iaload, 1, [], []), (856, .invokevirtual 106, 3, [3, 9, 80, 4, 1], []), (859, .aload_n 2, 1, [], []), (860, .aload_n 0, 1, [], []), (861, .iload 4, 2, [], []), (863, .iconst 1, 1, [1], []), (864, .iadd, 1, [], []), (865, .iaload, 1, [], []), (866, .aload_n 0, 1, [], []), (867, .iload 4, 2, [], []), (869, .iconst 2, 1, [2], []), (870, .iadd, 1, [], []), (871, .iaload, 1, [], []), (872, .invokevirtual 109, 3, [3, 10, 185, 3, 1], []), (875, .if_icmp .eq 554, 3, [1429, 0], []), (878, .iconst 0, 1, [0], []), (879, .ireturn, 1, [1], []), (880, .aload_n 1, 1, [], []), (881, .invokevirtual 110, 3, [1, 9, 81, 4, 1], []), (884, .aload_n 2, 1, [], []), (885, .invokevirtual 113, 3, [1, 10, 186, 3, 1], []), (888, .if_icmp .eq 541, 3, [1429, 0], []), (891, .iconst 0, 1, [0], []), (892, .ireturn, 1, [1], []), (893, .aload_n 1, 1, [], []), (894, .aload_n 0, 1, [], []), (895, .iload 4, 2, [], []), (897, .iconst 1, 1, [1], []), (898, .iadd, 1, [], []), (899, .iaload, 1, [], []), (900, .aload_n 0, 1, [], []), (901, .iload 4, 2, [], []), (903, .iconst 2, 1, [2], []), (904, .iadd, 1, [], []), (905, .iaload, 1, [], []), (906, .aload_n 3, 1, [], []), (907, .invokestatic 114, 3, [4, 223, 5, 1], []), (910, .istore 5, 2, [], []), (912, .aload_n 2, 1, [], []), (913, .aload_n 0, 1, [], []), (914, .iload 4, 2, [], []), (916, .iconst 1, 1, [1], []), (917, .iadd, 1, [], []), (918, .iaload, 1, [], []), (919, .aload_n 0, 1, [], []), (920, .iload 4, 2, [], []), (922, .iconst 2, 1, [2], []), (923, .iadd, 1, [], []), (924, .iaload, 1, [], []), (925, .invokevirtual 116, 3, [3, 10, 187, 3, 1], []), (928, .istore 6, 2, [], []), (930, .aload_n 2, 1, [], []), (931, .invokevirtual 62, 3, [1, 10, 114, 1, 1], []), (934, .iload 5, 2, [], []), (936, .if_icmp .eq 5, 3, [941, 0], []), (939, .iconst 0, 1, [0], []), (940, .ireturn, 1, [1], []), (941, .iload 5, 2, [], []), (943, .ifCond .ne 15, 3, [958, 0], []), (946, .aload_n 3, 1, [], []), (947, .iconst 0, 1, [0], []), (948, .laload, 1, [], []), (949, .iload 6, 2, [], []), (951, .i2l, 1, [], []), (952, .lcmp, 1, [], []), (953, .ifCond .eq 5, 3, [958, 0], []), (956, .iconst 0, 1, [0], []), (957, .ireturn, 1, [1], []), (958, .goto 471, 3, [1429, 0], [1, 1, 1, 1, 1, 0, 0, 0]), (961, .aload_n 1, 1, [], []), (962, .aload_n 0, 1, [], []), (963, .iload 4, 2, [], []), (965, .iconst 1, 1, [1], []), (966, .iadd, 1, [], []), (967, .iaload, 1, [], []), (968, .invokevirtual 117, 3, [2, 9, 83, 3, 1], []), (971, .aload_n 2, 1, [], []), (972, .aload_n 0, 1, [], []), (973, .iload 4, 2, [], []), (975, .iconst 1, 1, [1], []), (976, .iadd, 1, [], []), (977, .iaload, 1, [], []), (978, .invokevirtual 120, 3, [2, 10, 189, 2, 1], []), (981, .if_icmp .eq 448, 3, [1429, 0], []), (984, .iconst 0, 1, [0], []), (985, .ireturn, 1, [1], []), (986, .aload_n 1, 1, [], []), (987, .aload_n 0, 1, [], []), (988, .iload 4, 2, [], []), (990, .iconst 1, 1, [1], []), (991, .iadd, 1, [], []), (992, .iaload, 1, [], []), (993, .aload_n 0, 1, [], []), (994, .iload 4, 2, [], []), (996, .iconst 2, 1, [2], []), (997, .iadd, 1, [], []), (998, .iaload, 1, [], []), (999, .invokevirtual 121, 3, [3, 9, 84, 4, 1], []), (1002, .aload_n 2, 1, [], []), (1003, .aload_n 0, 1, [], []), (1004, .iload 4, 2, [], []), (1006, .iconst 1, 1, [1], []), (1007, .iadd, 1, [], []), (1008, .iaload, 1, [], []), (1009, .aload_n 0, 1, [], []), (1010, .iload 4, 2, [], []), (1012, .iconst 2, 1, [2], []), (1013, .iadd, 1, [], []), (1014, .iaload, 1, [], []), (1015, .invokevirtual 124, 3, [3, 10, 190, 3, 1], []), (1018, .if_icmp .eq 411, 3, [1429, 0], []), (1021, .iconst 0, 1, [0], []), (1022, .ireturn, 1, [1], []), (1023, .aload_n 1, 1, [], []), (1024, .aload_n 0, 1, [], []), (1025, .iload 4, 2, [], []), (1027, .iconst 1, 1, [1], []), (1028, .iadd, 1, [], []), (1029, .iaload, 1, [], []), (1030, .invokevirtual 125, 3, [2, 9, 85, 3, 1], []), (1033, .aload_n 2, 1, [], []), (1034, .aload_n 0, 1, [], []), (1035, .iload 4, 2, [], []), (1037, .iconst 1, 1, [1], []), (1038, .iadd, 1, [], []), (1039, .iaload, 1, [], []), (1040, .invokevirtual 128, 3, [2, 10, 188, 4, 1], []), (1043, .if_icmp .eq 386, 3, [1429, 0], []), (1046, .iconst 0, 1, [0], []), (1047, .ireturn, 1, [1], []), (1048, .aload_n 1, 1, [], []), (1049, .invokevirtual 129, 3, [1, 9, 86, 8, 1], []), (1052, .aload_n 2, 1, [], []), (1053, .invokevirtual 132, 3, [1, 10, 191, 8, 1], []), (1056, .if_icmp .eq 373, 3, [1429, 0], []), (1059, .iconst 0, 1, [0], []), (1060, .ireturn, 1, [1], []), (1061, .aload_n 1, 1, [], []), (1062, .invokevirtual 133, 3, [1, 9, 87, 1, 1], []), (1065, .aload_n 2, 1, [], []), (1066, .invokevirtual 136, 3, [1, 10, 192, 1, 1], []), (1069, .if_icmp .eq 360, 3, [1429, 0], []), (1072, .iconst 0, 1, [0], []), (1073, .ireturn, 1, [1], []), (1074, .aload_n 1, 1, [], []), (1075, .aload_n 0, 1, [], []), (1076, .iload 4, 2, [], []), (1078, .iconst 1, 1, [1], []), (1079, .iadd, 1, [], []), (1080, .iaload, 1, [], []), (1081, .aload_n 0, 1, [], []), (1082, .iload 4, 2, [], []), (1084, .iconst 2, 1, [2], []), (1085, .iadd, 1, [], []), (1086, .iaload, 1, [], []), (1087, .invokevirtual 137, 3, [3, 9, 88, 3, 1], []), (1090, .aload_n 2, 1, [], []), (1091, .aload_n 0, 1, [], []), (1092, .iload 4, 2, [], []), (1094, .iconst 1, 1, [1], []), (1095, .iadd, 1, [], []), (1096, .iaload, 1, [], []), (1097, .aload_n 0, 1, [], []), (1098, .iload 4, 2, [], []), (1100, .iconst 2, 1, [2], []), (1101, .iadd, 1, [], []), (1102, .iaload, 1, [], []), (1103, .invokevirtual 140, 3, [3, 10, 195, 6, 1], []), (1106, .if_icmp .eq 323, 3, [1429, 0], []), (1109, .iconst 0, 1, [0], []), (1110, .ireturn, 1, [1], []), (1111, .aload_n 1, 1, [], []), (1112, .aload_n 0, 1, [], []), (1113, .iload 4, 2, [], []), (1115, .iconst 1, 1, [1], []), (1116, .iadd, 1, [], []), (1117, .iaload, 1, [], []), (1118, .aload_n 0, 1, [], []), (1119, .iload 4, 2, [], []), (1121, .iconst 2, 1, [2], []), (1122, .iadd, 1, [], []), (1123, .iaload, 1, [], []), (1124, .invokevirtual 141, 3, [3, 9, 89, 4, 1], []), (1127, .aload_n 2, 1, [], []), (1128, .aload_n 0, 1, [], []), (1129, .iload 4, 2, [], []), (1131, .iconst 1, 1, [1], []), (1132, .iadd, 1, [], []), (1133, .iaload, 1, [], []), (1134, .aload_n 0, 1, [], []), (1135, .iload 4, 2, [], []), (1137, .iconst 2, 1, [2], []), (1138, .iadd, 1, [], []), (1139, .iaload, 1, [], []), (1140, .invokevirtual 144, 3, [3, 10, 196, 4, 1], []), (1143, .if_icmp .eq 286, 3, [1429, 0], []), (1146, .iconst 0, 1, [0], []), (1147, .ireturn, 1, [1], []), (1148, .aload_n 1, 1, [], []), (1149, .aload_n 0, 1, [], []), (1150, .iload 4, 2, [], []), (1152, .iconst 1, 1, [1], []), (1153, .iadd, 1, [], []), (1154, .iaload, 1, [], []), (1155, .aload_n 0, 1, [], []), (1156, .iload 4, 2, [], []), (1158, .iconst 2, 1, [2], []), (1159, .iadd, 1, [], []), (1160, .iaload, 1, [], []), (1161, .invokevirtual 145, 3, [3, 9, 90, 4, 1], []), (1164, .aload_n 2, 1, [], []), (1165, .aload_n 0, 1, [], []), (1166, .iload 4, 2, [], []), (1168, .iconst 1, 1, [1], []), (1169, .iadd, 1, [], []), (1170, .iaload, 1, [], []), (1171, .aload_n 0, 1, [], []), (1172, .iload 4, 2, [], []), (1174, .iconst 2, 1, [2], []), (1175, .iadd, 1, [], []), (1176, .iaload, 1, [], []), (1177, .invokevirtual 148, 3, [3, 10, 199, 4, 1], []), (1180, .if_icmp .eq 249, 3, [1429, 0], []), (1183, .iconst 0, 1, [0], []), (1184, .ireturn, 1, [1], []), (1185, .aload_n 1, 1, [], []), (1186, .invokevirtual 149, 3, [1, 9, 91, 2, 1], []), (1189, .aload_n 2, 1, [], []), (1190, .invokevirtual 152, 3, [1, 10, 201, 4, 1], []), (1193, .if_icmp .eq 236, 3, [1429, 0], []), (1196, .iconst 0, 1, [0], []), (1197, .ireturn, 1, [1], []), (1198, .aload_n 1, 1, [], []), (1199, .invokevirtual 153, 3, [1, 9, 92, 2, 1], []), (1202, .aload_n 2, 1, [], []), (1203, .invokevirtual 156, 3, [1, 10, 202, 3, 1], []), (1206, .if_icmp .eq 223, 3, [1429, 0], []), (1209, .iconst 0, 1, [0], []), (1210, .ireturn, 1, [1], []), (1211, .aload_n 1, 1, [], []), (1212, .aload_n 0, 1, [], []), (1213, .iload 4, 2, [], []), (1215, .iconst 1, 1, [1], []), (1216, .iadd, 1, [], []), (1217, .iaload, 1, [], []), (1218, .invokevirtual 157, 3, [2, 9, 93, 6, 1], []), (1221, .aload_n 2, 1, [], []), (1222, .aload_n 0, 1, [], []), (1223, .iload 4, 2, [], []), (1225, .iconst 1, 1, [1], []), (1226, .iadd, 1, [], []), (1227, .iaload, 1, [], []), (1228, .invokevirtual 160, 3, [2, 10, 204, 6, 1], []), (1231, .if_icmp .eq 198, 3, [1429, 0], []), (1234, .iconst 0, 1, [0], []), (1235, .ireturn, 1, [1], []), (1236, .aload_n 1, 1, [], []), (1237, .invokevirtual 161, 3, [1, 9, 94, 6, 1], []), (1240, .aload_n 2, 1, [], []), (1241, .invokevirtual 164, 3, [1, 10, 207, 4, 1], []), (1244, .if_icmp .eq 185, 3, [1429, 0], []), (1247, .iconst 0, 1, [0], []), (1248, .ireturn, 1, [1], []), (1249, .aload_n 1, 1, [], []), (1250, .invokevirtual 165, 3, [1, 9, 95, 1, 1], []), (1253, .aload_n 2, 1, [], []), (1254, .invokevirtual 168, 3, [1, 10, 210, 2, 1], []), (1257, .if_icmp .eq 172, 3, [1429, 0], []), (1260, .iconst 0, 1, [0], []), (1261, .ireturn, 1, [1], []), (1262, .aload_n 1, 1, [], []), (1263, .aload_n 0, 1, [], []), (1264, .iload 4, 2, [], []), (1266, .iconst 1, 1, [1], []), (1267, .iadd, 1, [], []), (1268, .iaload, 1, [], []), (1269, .aload_n 0, 1, [], []), (1270, .iload 4, 2, [], []), (1272, .iconst 2, 1, [2], []), (1273, .iadd, 1, [], []), (1274, .iaload, 1, [], []), (1275, .invokevirtual 169, 3, [3, 9, 96, 6, 1], []), (1278, .aload_n 2, 1, [], []), (1279, .aload_n 0, 1, [], []), (1280, .iload 4, 2, [], []), (1282, .iconst 1, 1, [1], []), (1283, .iadd, 1, [], []), (1284, .iaload, 1, [], []), (1285, .aload_n 0, 1, [], []), (1286, .iload 4, 2, [], []), (1288, .iconst 2, 1, [2], []), (1289, .iadd, 1, [], []), (1290, .iaload, 1, [], []), (1291, .invokevirtual 172, 3, [3, 10, 212, 8, 1], []), (1294, .if_icmp .eq 135, 3, [1429, 0], []), (1297, .iconst 0, 1, [0], []), (1298, .ireturn, 1, [1], []), (1299, .aload_n 1, 1, [], []), (1300, .aload_n 0, 1, [], []), (1301, .iload 4, 2, [], []), (1303, .iconst 1, 1, [1], []), (1304, .iadd, 1, [], []), (1305, .iaload, 1, [], []), (1306, .invokevirtual 173, 3, [2, 9, 97, 2, 1], []), (1309, .aload_n 2, 1, [], []), (1310, .aload_n 0, 1, [], []), (1311, .iload 4, 2, [], []), (1313, .iconst 1, 1, [1], []), (1314, .iadd, 1, [], []), (1315, .iaload, 1, [], []), (1316, .invokevirtual 176, 3, [2, 10, 213, 3, 1], []), (1319, .if_icmp .eq 110, 3, [1429, 0], []), (1322, .iconst 0, 1, [0], []), (1323, .ireturn, 1, [1], []), (1324, .aload_n 1, 1, [], []), (1325, .aload_n 0, 1, [], []), (1326, .iload 4, 2, [], []), (1328, .iconst 1, 1, [1], []), (1329, .iadd, 1, [], []), (1330, .iaload, 1, [], []), (1331, .invokevirtual 177, 3, [2, 9, 98, 2, 1], []), (1334, .aload_n 2, 1, [], []), (1335, .aload_n 0, 1, [], []), (1336, .iload 4, 2, [], []), (1338, .iconst 1, 1, [1], []), (1339, .iadd, 1, [], []), (1340, .iaload, 1, [], []), (1341, .invokevirtual 180, 3, [2, 10, 214, 3, 1], []), (1344, .if_icmp .eq 85, 3, [1429, 0], []), (1347, .iconst 0, 1, [0], []), (1348, .ireturn, 1, [1], []), (1349, .aload_n 1, 1, [], []), (1350, .aload_n 0, 1, [], []), (1351, .iload 4, 2, [], []), (1353, .iconst 1, 1, [1], []), (1354, .iadd, 1, [], []), (1355, .iaload, 1, [], []), (1356, .invokevirtual 181, 3, [2, 9, 99, 2, 1], []), (1359, .aload_n 2, 1, [], []), (1360, .aload_n 0, 1, [], []), (1361, .iload 4, 2, [], []), (1363, .iconst 1, 1, [1], []), (1364, .iadd, 1, [], []), (1365, .iaload, 1, [], []), (1366, .invokevirtual 184, 3, [2, 10, 216, 2, 1], []), (1369, .if_icmp .eq 60, 3, [1429, 0], []), (1372, .iconst 0, 1, [0], []), (1373, .ireturn, 1, [1], []), (1374, .aload_n 1, 1, [], []), (1375, .aload_n 0, 1, [], []), (1376, .iload 4, 2, [], []), (1378, .iconst 1, 1, [1], []), (1379, .iadd, 1, [], []), (1380, .iaload, 1, [], []), (1381, .aload_n 3, 1, [], []), (1382, .invokestatic 185, 3, [3, 224, 4, 1], []), (1385, .istore 5, 2, [], []), (1387, .aload_n 2, 1, [], []), (1388, .aload_n 0, 1, [], []), (1389, .iload 4, 2, [], []), (1391, .iconst 1, 1, [1], []), (1392, .iadd, 1, [], []), (1393, .iaload, 1, [], []), (1394, .invokevirtual 187, 3, [2, 10, 217, 2, 2], []), (1397, .lstore 6, 2, [], []), (1399, .aload_n 2, 1, [], []), (1400, .invokevirtual 62, 3, [1, 10, 114, 1, 1], []), (1403, .iload 5, 2, [], []), (1405, .if_icmp .eq 5, 3, [1410, 0], []), (1408, .iconst 0, 1, [0], []), (1409, .ireturn, 1, [1], []), (1410, .iload 5, 2, [], []), (1412, .ifCond .ne 14, 3, [1426, 0], []), (1415, .aload_n 3, 1, [], []), (1416, .iconst 0, 1, [0], []), (1417, .laload, 1, [], []), (1418, .lload 6, 2, [], []), (1420, .lcmp, 1, [], []), (1421, .ifCond .eq 5, 3, [1426, 0], []), (1424, .iconst 0, 1, [0], []), (1425, .ireturn, 1, [1], []), (1426, .goto 3, 3, [1429, 0], [1, 1, 1, 1, 1, 0, 0, 0]), (1429, .iinc 4 6, 3, [], [1, 1, 1, 1, 1, 0, 0, 0]), (1432, .goto (-1409), 3, [23, 1, 1, 1, 1, 1, 1, 0, 0, 0], []), (1435, .iconst 1, 1, [1], []), (1436, .ireturn, 1, [1], [])]
def mtab : List (List mE) := [k_X0_become, k_X0_startAnew, k_X0_startStation, k_X0_hear, k_X0_sumOf, k_X0_waiting, k_X0_exchangesOn, k_X0_emptyQueues, k_X0_whyNotOffer, k_X0_takeFrame, k_X0_markLast, k_X0_drawAll, k_X0_isReady, k_X0_passSlot, k_X0_runningSpans, k_X0_beginOf, k_X0_beginExchange, k_X0_placesOf, k_X0_senders, k_X0_sendsNow, k_X0_isClear, k_X0_clearOnes, k_X0_noteSlot, k_X0_spread, k_X0_goAsk, k_X0_goGrant, k_X0_goData, k_X0_noteSpoilt, k_X0_goPlace, k_X0_goAnswer, k_X0_deliver, k_X0_failExchange, k_X0_failFirst, k_X0_settle, k_X1_draw, k_X2_become, k_X2_sends, k_X3_become, k_X3_startAnew, k_X3_delivered, k_X4_forget, k_X4_add, k_X4_tellOne, k_X4_tellTwo, k_X4_tellThree, k_X4_tellPart, k_X5_push, k_X5_popInto, k_X6_become, k_X6_fieldOf, k_X6_addLast, k_X6_tryAgain, k_X6_removeAt, k_X6_alikeAtFirst, k_X7_addFour, k_X7_cutTo, k_X7_at, k_X7_digitAt, k_X7_letterAt, k_X8_become, k_X8_isFree, k_X8_waiting, k_X8_setOwing, k_X8_pays, k_X8_listen, k_X9_sign, k_X9_end, k_X9_net, k_X9_sets, k_X9_setting, k_X9_sheet, k_X9_offers, k_X9_slots, k_X9_draws, k_X9_station, k_X9_rank, k_X9_frame, k_X9_exchange, k_X9_sent, k_X9_spanOf, k_X9_rate, k_X9_hidden, k_X9_tally, k_X9_why, k_X9_spoilt, k_X9_held, k_X9_even, k_X9_busy, k_X9_odds, k_X9_window, k_X9_ahead, k_X9_quiet, k_X9_next, k_X9_soonest, k_X9_day, k_X9_undo, k_X9_years, k_X9_keep, k_X9_again, k_X9_count, k_X9_row, k_X9_isStation, k_X9_isRank, k_X9_readPairs, k_X9_entryOf, k_X9_comesFromEntry, k_X9_waysAlone, k_X9_power, k_X9_slotsTillDelivered, k_X9_actLength, k_X9_faultInDay, k_X9_faultInAct, k_X9_doAct, k_X9_offerDrawn, k_X10_thrown, k_X10_in, k_X10_has, k_X10_lost, k_X10_tell, k_X10_common, k_X10_commonLong, k_X10_isStation, k_X10_isRank, k_X10_quality, k_X10_hears, k_X10_at, k_X10_frameAt, k_X10_exchangeAt, k_X10_draw, k_X10_sign, k_X10_end, k_X10_begin, k_X10_here, k_X10_fine, k_X10_fault, k_X10_oneOf, k_X10_twoDigits, k_X10_wasRight, k_X10_readPair, k_X10_net, k_X10_highOf, k_X10_sets, k_X10_setting, k_X10_goesOn, k_X10_sheet, k_X10_put, k_X10_leaves, k_X10_refusesOffer, k_X10_offers, k_X10_isFree, k_X10_isReady, k_X10_had, k_X10_drawsCount, k_X10_isLost, k_X10_fails, k_X10_roundedUp, k_X10_begins, k_X10_stepBegin, k_X10_stepSend, k_X10_hearsOthers, k_X10_isClear, k_X10_spans, k_X10_owes, k_X10_sendsIt, k_X10_failsBy, k_X10_stepData, k_X10_delivers, k_X10_stepSender, k_X10_stepEnd, k_X10_stepHeld, k_X10_slot, k_X10_goSlots, k_X10_slots, k_X10_drawAll, k_X10_draws, k_X10_waiting, k_X10_allWaiting, k_X10_heardBy, k_X10_station, k_X10_rank, k_X10_frame, k_X10_exchange, k_X10_placesOf, k_X10_sent, k_X10_spanOf, k_X10_rate, k_X10_hidden, k_X10_tally, k_X10_held, k_X10_why, k_X10_spoilt, k_X10_even, k_X10_busy, k_X10_power, k_X10_waysAlone, k_X10_odds, k_X10_window, k_X10_layAside, k_X10_comesBack, k_X10_ahead, k_X10_isQuiet, k_X10_quiet, k_X10_next, k_X10_takes, k_X10_soonest, k_X10_readAct, k_X10_act, k_X10_day, k_X10_change, k_X10_note, k_X10_undo, k_X10_drawBeside, k_X10_years, k_X10_keep, k_X10_again, k_X10_exchanges, k_X10_count, k_X10_row, k_J6_bitCount, k_L_setting, k_L_station, k_L_rank, k_L_frame, k_L_tally, k_L_row, k_L_law]
def mcode (j : Nat) : List mE := mtab.getD j []
noncomputable abbrev Ev (q : mQ) : Option mR := EvOf mcode q
def iushr (x y : Int32) : Int32 := (x.toUInt32 >>> (y.toUInt32 &&& Int32.toUInt32 31)).toInt32
noncomputable def e_X0_become (oa : Nat) (p1a : Nat) (σ : mS) : Option mR := Ev (0, 0, [some (.inr (.inr (0, oa, 0, 0))), some (.inr (.inr (0, p1a, 0, 0))), none], [], σ)
noncomputable def b_X0_become_31 (o0a : Nat) (o1a : Nat) (x2 : Int32) (σ : mS) : Option mR := Ev (0, 31, [some (.inr (.inr (0, o0a, 0, 0))), some (.inr (.inr (0, o1a, 0, 0))), some (.inl x2)], [], σ)
noncomputable def e_X0_startAnew (oa : Nat) (p1 : Int32) (σ : mS) : Option mR := Ev (1, 0, [some (.inr (.inr (0, oa, 0, 0))), some (.inl p1), some (.inr (.inr (25, 0, 0, 0))), none], [], σ)
noncomputable def b_X0_startAnew_52 (o0a : Nat) (x3 : Int32) (σ : mS) : Option mR := Ev (1, 52, [some (.inr (.inr (0, o0a, 0, 0))), none, some (.inr (.inr (25, 0, 0, 0))), some (.inl x3)], [], σ)
noncomputable def e_X0_startStation (oa : Nat) (p1 : Int32) (σ : mS) : Option mR := Ev (2, 0, [some (.inr (.inr (0, oa, 0, 0))), some (.inl p1), some (.inr (.inr (25, 0, 0, 0))), none, none, none, none], [], σ)
noncomputable def b_X0_startStation_15 (o0a : Nat) (x1 : Int32) (o3a : Nat) (o3s : Nat) (x4 : Int32) (σ : mS) : Option mR := Ev (2, 15, [some (.inr (.inr (0, o0a, 0, 0))), some (.inl x1), some (.inr (.inr (25, 0, 0, 0))), some (.inr (.inr (8, o3a, o3s, 0))), some (.inl x4), none, none], [], σ)
noncomputable def b_X0_startStation_104 (o0a : Nat) (o3a : Nat) (o3s : Nat) (x4 : Int32) (σ : mS) : Option mR := Ev (2, 104, [some (.inr (.inr (0, o0a, 0, 0))), none, none, some (.inr (.inr (8, o3a, o3s, 0))), some (.inl x4), none, none], [], σ)
noncomputable def e_X0_hear (oa : Nat) (p1 : Int32) (p2 : Int32) (σ : mS) : Option mR := Ev (3, 0, [some (.inr (.inr (0, oa, 0, 0))), some (.inl p1), some (.inl p2)], [], σ)
noncomputable def e_X0_sumOf (oa : Nat) (p1 : Int32) (σ : mS) : Option mR := Ev (4, 0, [some (.inr (.inr (0, oa, 0, 0))), some (.inl p1), none, none], [], σ)
noncomputable def b_X0_sumOf_4 (o0a : Nat) (x1 : Int32) (x2 : Int32) (x3 : Int32) (σ : mS) : Option mR := Ev (4, 4, [some (.inr (.inr (0, o0a, 0, 0))), some (.inl x1), some (.inl x2), some (.inl x3)], [], σ)
noncomputable def e_X0_waiting (oa : Nat) (σ : mS) : Option mR := Ev (5, 0, [some (.inr (.inr (0, oa, 0, 0))), none, none], [], σ)
noncomputable def b_X0_waiting_4 (o0a : Nat) (x1 : Int32) (x2 : Int32) (σ : mS) : Option mR := Ev (5, 4, [some (.inr (.inr (0, o0a, 0, 0))), some (.inl x1), some (.inl x2)], [], σ)
noncomputable def e_X0_exchangesOn (oa : Nat) (σ : mS) : Option mR := Ev (6, 0, [some (.inr (.inr (0, oa, 0, 0))), none, none], [], σ)
noncomputable def b_X0_exchangesOn_4 (o0a : Nat) (x1 : Int32) (x2 : Int32) (σ : mS) : Option mR := Ev (6, 4, [some (.inr (.inr (0, o0a, 0, 0))), some (.inl x1), some (.inl x2)], [], σ)
noncomputable def e_X0_emptyQueues (oa : Nat) (p1 : Int32) (σ : mS) : Option mR := Ev (7, 0, [some (.inr (.inr (0, oa, 0, 0))), some (.inl p1), none], [], σ)
noncomputable def b_X0_emptyQueues_2 (o0a : Nat) (x1 : Int32) (x2 : Int32) (σ : mS) : Option mR := Ev (7, 2, [some (.inr (.inr (0, o0a, 0, 0))), some (.inl x1), some (.inl x2)], [], σ)
noncomputable def e_X0_whyNotOffer (oa : Nat) (p1 : Int32) (p2 : Int32) (p3 : Int32) (p4 : Int32) (σ : mS) : Option mR := Ev (8, 0, [some (.inr (.inr (0, oa, 0, 0))), some (.inl p1), some (.inl p2), some (.inl p3), some (.inl p4)], [], σ)
noncomputable def e_X0_takeFrame (oa : Nat) (p1 : Int32) (p2 : Int32) (p3 : Int32) (p4 : Int32) (σ : mS) : Option mR := Ev (9, 0, [some (.inr (.inr (0, oa, 0, 0))), some (.inl p1), some (.inl p2), some (.inl p3), some (.inl p4), none], [], σ)
noncomputable def e_X0_markLast (oa : Nat) (p1 : Int32) (p2 : Int32) (σ : mS) : Option mR := Ev (10, 0, [some (.inr (.inr (0, oa, 0, 0))), some (.inl p1), some (.inl p2), none], [], σ)
noncomputable def e_X0_drawAll (oa : Nat) (σ : mS) : Option mR := Ev (11, 0, [some (.inr (.inr (0, oa, 0, 0))), none, none, none, none], [], σ)
noncomputable def b_X0_drawAll_4 (o0a : Nat) (x1 : Int32) (x2 : Int32) (σ : mS) : Option mR := Ev (11, 4, [some (.inr (.inr (0, o0a, 0, 0))), some (.inl x1), some (.inl x2), none, none], [], σ)
noncomputable def b_X0_drawAll_14 (o0a : Nat) (x1 : Int32) (x2 : Int32) (x3 : Int32) (σ : mS) : Option mR := Ev (11, 14, [some (.inr (.inr (0, o0a, 0, 0))), some (.inl x1), some (.inl x2), some (.inl x3), none], [], σ)
noncomputable def e_X0_isReady (oa : Nat) (p1 : Int32) (p2 : Int32) (σ : mS) : Option mR := Ev (12, 0, [some (.inr (.inr (0, oa, 0, 0))), some (.inl p1), some (.inl p2), none], [], σ)
noncomputable def e_X0_passSlot (oa : Nat) (σ : mS) : Option mR := Ev (13, 0, [some (.inr (.inr (0, oa, 0, 0))), none, none], [], σ)
noncomputable def b_X0_passSlot_15 (o0a : Nat) (x1 : Int32) (σ : mS) : Option mR := Ev (13, 15, [some (.inr (.inr (0, o0a, 0, 0))), some (.inl x1), none], [], σ)
noncomputable def b_X0_passSlot_84 (o0a : Nat) (x1 : Int32) (σ : mS) : Option mR := Ev (13, 84, [some (.inr (.inr (0, o0a, 0, 0))), some (.inl x1), none], [], σ)
noncomputable def b_X0_passSlot_213 (o0a : Nat) (x1 : Int32) (σ : mS) : Option mR := Ev (13, 213, [some (.inr (.inr (0, o0a, 0, 0))), some (.inl x1), none], [], σ)
noncomputable def e_X0_runningSpans (oa : Nat) (σ : mS) : Option mR := Ev (14, 0, [some (.inr (.inr (0, oa, 0, 0))), none, none], [], σ)
noncomputable def b_X0_runningSpans_4 (o0a : Nat) (x1 : Int32) (x2 : Int32) (σ : mS) : Option mR := Ev (14, 4, [some (.inr (.inr (0, o0a, 0, 0))), some (.inl x1), some (.inl x2)], [], σ)
noncomputable def e_X0_beginOf (oa : Nat) (p1 : Int32) (σ : mS) : Option mR := Ev (15, 0, [some (.inr (.inr (0, oa, 0, 0))), some (.inl p1), none, none], [], σ)
noncomputable def b_X0_beginOf_4 (o0a : Nat) (x1 : Int32) (x2 : Int32) (x3 : Int32) (σ : mS) : Option mR := Ev (15, 4, [some (.inr (.inr (0, o0a, 0, 0))), some (.inl x1), some (.inl x2), some (.inl x3)], [], σ)
noncomputable def e_X0_beginExchange (oa : Nat) (p1 : Int32) (p2 : Int32) (σ : mS) : Option mR := Ev (16, 0, [some (.inr (.inr (0, oa, 0, 0))), some (.inl p1), some (.inl p2), none, none, none, none], [], σ)
noncomputable def b_X0_beginExchange_70 (o0a : Nat) (x1 : Int32) (o3a : Nat) (o3s : Nat) (o4a : Nat) (o4s : Nat) (x6 : Int32) (σ : mS) : Option mR := Ev (16, 70, [some (.inr (.inr (0, o0a, 0, 0))), some (.inl x1), none, some (.inr (.inr (8, o3a, o3s, 0))), some (.inr (.inr (2, o4a, o4s, 0))), none, some (.inl x6)], [], σ)
noncomputable def b_X0_beginExchange_154 (o0a : Nat) (x1 : Int32) (o3a : Nat) (o3s : Nat) (o4a : Nat) (o4s : Nat) (x6 : Int32) (w0a : Nat) (w0s : Nat) (t1 : Int32) (σ : mS) : Option mR := Ev (16, 154, [some (.inr (.inr (0, o0a, 0, 0))), some (.inl x1), none, some (.inr (.inr (8, o3a, o3s, 0))), some (.inr (.inr (2, o4a, o4s, 0))), none, some (.inl x6)], [(.inl t1), (.inr (.inr (2, w0a, w0s, 0)))], σ)
noncomputable def e_X0_placesOf (p0a : Nat) (p0s : Nat) (p1 : Int32) (σ : mS) : Option mR := Ev (17, 0, [some (.inr (.inr (8, p0a, p0s, 0))), some (.inl p1), none, none, none], [], σ)
noncomputable def e_X0_senders (oa : Nat) (σ : mS) : Option mR := Ev (18, 0, [some (.inr (.inr (0, oa, 0, 0))), none, none, none], [], σ)
noncomputable def b_X0_senders_4 (o0a : Nat) (x1 : Int32) (x2 : Int32) (σ : mS) : Option mR := Ev (18, 4, [some (.inr (.inr (0, o0a, 0, 0))), some (.inl x1), some (.inl x2), none], [], σ)
noncomputable def e_X0_sendsNow (oa : Nat) (p1 : Int32) (σ : mS) : Option mR := Ev (19, 0, [some (.inr (.inr (0, oa, 0, 0))), some (.inl p1)], [], σ)
noncomputable def e_X0_isClear (oa : Nat) (p1 : Int32) (p2 : Int32) (σ : mS) : Option mR := Ev (20, 0, [some (.inr (.inr (0, oa, 0, 0))), some (.inl p1), some (.inl p2)], [], σ)
noncomputable def e_X0_clearOnes (oa : Nat) (σ : mS) : Option mR := Ev (21, 0, [some (.inr (.inr (0, oa, 0, 0))), none, none, none], [], σ)
noncomputable def b_X0_clearOnes_4 (o0a : Nat) (x1 : Int32) (x2 : Int32) (σ : mS) : Option mR := Ev (21, 4, [some (.inr (.inr (0, o0a, 0, 0))), some (.inl x1), some (.inl x2), none], [], σ)
noncomputable def e_X0_noteSlot (oa : Nat) (σ : mS) : Option mR := Ev (22, 0, [some (.inr (.inr (0, oa, 0, 0))), none, none, none], [], σ)
noncomputable def b_X0_noteSlot_66 (o0a : Nat) (x2 : Int32) (σ : mS) : Option mR := Ev (22, 66, [some (.inr (.inr (0, o0a, 0, 0))), none, some (.inl x2), none], [], σ)
noncomputable def e_X0_spread (oa : Nat) (p1 : Int32) (p2 : Int32) (p3 : Int32) (p4 : Int32) (p5 : Int32) (σ : mS) : Option mR := Ev (23, 0, [some (.inr (.inr (0, oa, 0, 0))), some (.inl p1), some (.inl p2), some (.inl p3), some (.inl p4), some (.inl p5), none], [], σ)
noncomputable def b_X0_spread_3 (o0a : Nat) (x1 : Int32) (x2 : Int32) (x3 : Int32) (x4 : Int32) (x5 : Int32) (x6 : Int32) (σ : mS) : Option mR := Ev (23, 3, [some (.inr (.inr (0, o0a, 0, 0))), some (.inl x1), some (.inl x2), some (.inl x3), some (.inl x4), some (.inl x5), some (.inl x6)], [], σ)
noncomputable def e_X0_goAsk (oa : Nat) (p1 : Int32) (p2 : Int32) (p3a : Nat) (p3s : Nat) (σ : mS) : Option mR := Ev (24, 0, [some (.inr (.inr (0, oa, 0, 0))), some (.inl p1), some (.inl p2), some (.inr (.inr (2, p3a, p3s, 0)))], [], σ)
noncomputable def e_X0_goGrant (oa : Nat) (p1 : Int32) (p2 : Int32) (p3a : Nat) (p3s : Nat) (σ : mS) : Option mR := Ev (25, 0, [some (.inr (.inr (0, oa, 0, 0))), some (.inl p1), some (.inl p2), some (.inr (.inr (2, p3a, p3s, 0))), none], [], σ)
noncomputable def e_X0_goData (oa : Nat) (p1 : Int32) (p2 : Int32) (p3a : Nat) (p3s : Nat) (σ : mS) : Option mR := Ev (26, 0, [some (.inr (.inr (0, oa, 0, 0))), some (.inl p1), some (.inl p2), some (.inr (.inr (2, p3a, p3s, 0))), none], [], σ)
noncomputable def e_X0_noteSpoilt (p0a : Nat) (p0s : Nat) (p1 : Int32) (σ : mS) : Option mR := Ev (27, 0, [some (.inr (.inr (3, p0a, p0s, 0))), some (.inl p1), none], [], σ)
noncomputable def b_X0_noteSpoilt_2 (o0a : Nat) (o0s : Nat) (x1 : Int32) (x2 : Int32) (σ : mS) : Option mR := Ev (27, 2, [some (.inr (.inr (3, o0a, o0s, 0))), some (.inl x1), some (.inl x2)], [], σ)
noncomputable def e_X0_goPlace (p0a : Nat) (p0s : Nat) (p1 : Int32) (σ : mS) : Option mR := Ev (28, 0, [some (.inr (.inr (8, p0a, p0s, 0))), some (.inl p1), none], [], σ)
noncomputable def e_X0_goAnswer (oa : Nat) (p1 : Int32) (p2 : Int32) (p3a : Nat) (p3s : Nat) (σ : mS) : Option mR := Ev (29, 0, [some (.inr (.inr (0, oa, 0, 0))), some (.inl p1), some (.inl p2), some (.inr (.inr (2, p3a, p3s, 0))), none, none], [], σ)
noncomputable def e_X0_deliver (oa : Nat) (p1 : Int32) (p2a : Nat) (p2s : Nat) (σ : mS) : Option mR := Ev (30, 0, [some (.inr (.inr (0, oa, 0, 0))), some (.inl p1), some (.inr (.inr (2, p2a, p2s, 0))), none, none, none, none], [], σ)
noncomputable def b_X0_deliver_26 (o0a : Nat) (o2a : Nat) (o2s : Nat) (o3a : Nat) (o3s : Nat) (o4a : Nat) (o4s : Nat) (o4r : Nat) (x5 : Int32) (σ : mS) : Option mR := Ev (30, 26, [some (.inr (.inr (0, o0a, 0, 0))), none, some (.inr (.inr (2, o2a, o2s, 0))), some (.inr (.inr (8, o3a, o3s, 0))), some (.inr (.inr (6, o4a, o4s, o4r))), some (.inl x5), none], [], σ)
noncomputable def e_X0_failExchange (oa : Nat) (p1 : Int32) (p2a : Nat) (p2s : Nat) (σ : mS) : Option mR := Ev (31, 0, [some (.inr (.inr (0, oa, 0, 0))), some (.inl p1), some (.inr (.inr (2, p2a, p2s, 0))), none], [], σ)
noncomputable def e_X0_failFirst (oa : Nat) (p1 : Int32) (p2 : Int32) (σ : mS) : Option mR := Ev (32, 0, [some (.inr (.inr (0, oa, 0, 0))), some (.inl p1), some (.inl p2), none], [], σ)
noncomputable def e_X0_settle (oa : Nat) (p1 : Int32) (σ : mS) : Option mR := Ev (33, 0, [some (.inr (.inr (0, oa, 0, 0))), some (.inl p1), none, none, none, none], [], σ)
noncomputable def b_X0_settle_65 (o0a : Nat) (o2a : Nat) (o2s : Nat) (x4 : Int32) (σ : mS) : Option mR := Ev (33, 65, [some (.inr (.inr (0, o0a, 0, 0))), none, some (.inr (.inr (8, o2a, o2s, 0))), none, some (.inl x4), none], [], σ)
noncomputable def e_X1_draw (oa : Nat) (p1 : Int32) (σ : mS) : Option mR := Ev (34, 0, [some (.inr (.inr (1, oa, 0, 0))), some (.inl p1)], [], σ)
noncomputable def e_X2_become (oa : Nat) (os : Nat) (p1a : Nat) (p1s : Nat) (σ : mS) : Option mR := Ev (35, 0, [some (.inr (.inr (2, oa, os, 0))), some (.inr (.inr (2, p1a, p1s, 0)))], [], σ)
noncomputable def e_X2_sends (oa : Nat) (os : Nat) (σ : mS) : Option mR := Ev (36, 0, [some (.inr (.inr (2, oa, os, 0)))], [], σ)
noncomputable def e_X3_become (oa : Nat) (os : Nat) (p1a : Nat) (p1s : Nat) (σ : mS) : Option mR := Ev (37, 0, [some (.inr (.inr (3, oa, os, 0))), some (.inr (.inr (3, p1a, p1s, 0)))], [], σ)
noncomputable def e_X3_startAnew (oa : Nat) (os : Nat) (σ : mS) : Option mR := Ev (38, 0, [some (.inr (.inr (3, oa, os, 0))), none], [], σ)
noncomputable def b_X3_startAnew_2 (o0a : Nat) (o0s : Nat) (x1 : Int32) (σ : mS) : Option mR := Ev (38, 2, [some (.inr (.inr (3, o0a, o0s, 0))), some (.inl x1)], [], σ)
noncomputable def b_X3_startAnew_23 (o0a : Nat) (o0s : Nat) (x1 : Int32) (σ : mS) : Option mR := Ev (38, 23, [some (.inr (.inr (3, o0a, o0s, 0))), some (.inl x1)], [], σ)
noncomputable def e_X3_delivered (oa : Nat) (os : Nat) (p1 : Int32) (p2 : Int32) (σ : mS) : Option mR := Ev (39, 0, [some (.inr (.inr (3, oa, os, 0))), some (.inl p1), some (.inl p2)], [], σ)
noncomputable def e_X4_forget (σ : mS) : Option mR := Ev (40, 0, [some (.inr (.inr (4, 0, 0, 0)))], [], σ)
noncomputable def e_X4_add (p1 : Int64) (σ : mS) : Option mR := Ev (41, 0, [some (.inr (.inr (4, 0, 0, 0))), some (.inr (.inl p1)), none], [], σ)
noncomputable def e_X4_tellOne (p1 : Int64) (σ : mS) : Option mR := Ev (42, 0, [some (.inr (.inr (4, 0, 0, 0))), some (.inr (.inl p1)), none], [], σ)
noncomputable def e_X4_tellTwo (p1 : Int64) (p3 : Int64) (σ : mS) : Option mR := Ev (43, 0, [some (.inr (.inr (4, 0, 0, 0))), some (.inr (.inl p1)), none, some (.inr (.inl p3)), none], [], σ)
noncomputable def e_X4_tellThree (p1 : Int64) (p3 : Int64) (p5 : Int64) (σ : mS) : Option mR := Ev (44, 0, [some (.inr (.inr (4, 0, 0, 0))), some (.inr (.inl p1)), none, some (.inr (.inl p3)), none, some (.inr (.inl p5)), none], [], σ)
noncomputable def e_X4_tellPart (p1 : Int64) (p3 : Int64) (σ : mS) : Option mR := Ev (45, 0, [some (.inr (.inr (4, 0, 0, 0))), some (.inr (.inl p1)), none, some (.inr (.inl p3)), none, none, none, none, none, none, none, none], [], σ)
noncomputable def b_X4_tellPart_9 (y1 : Int64) (y3 : Int64) (y5 : Int64) (y7 : Int64) (x9 : Int32) (σ : mS) : Option mR := Ev (45, 9, [some (.inr (.inr (4, 0, 0, 0))), some (.inr (.inl y1)), none, some (.inr (.inl y3)), none, some (.inr (.inl y5)), none, some (.inr (.inl y7)), none, some (.inl x9), none, none], [], σ)
noncomputable def e_X5_push (p1a : Nat) (σ : mS) : Option mR := Ev (46, 0, [some (.inr (.inr (5, 0, 0, 0))), some (.inr (.inr (0, p1a, 0, 0)))], [], σ)
noncomputable def e_X5_popInto (p1a : Nat) (σ : mS) : Option mR := Ev (47, 0, [some (.inr (.inr (5, 0, 0, 0))), some (.inr (.inr (0, p1a, 0, 0)))], [], σ)
noncomputable def e_X6_become (oa : Nat) (os : Nat) (or : Nat) (p1a : Nat) (p1s : Nat) (p1r : Nat) (σ : mS) : Option mR := Ev (48, 0, [some (.inr (.inr (6, oa, os, or))), some (.inr (.inr (6, p1a, p1s, p1r)))], [], σ)
noncomputable def e_X6_fieldOf (oa : Nat) (os : Nat) (or : Nat) (p1 : Int32) (p2 : Int32) (σ : mS) : Option mR := Ev (49, 0, [some (.inr (.inr (6, oa, os, or))), some (.inl p1), some (.inl p2)], [], σ)
noncomputable def e_X6_addLast (oa : Nat) (os : Nat) (or : Nat) (p1 : Int32) (p2 : Int32) (p3 : Int32) (σ : mS) : Option mR := Ev (50, 0, [some (.inr (.inr (6, oa, os, or))), some (.inl p1), some (.inl p2), some (.inl p3), none], [], σ)
noncomputable def e_X6_tryAgain (oa : Nat) (os : Nat) (or : Nat) (p1 : Int32) (σ : mS) : Option mR := Ev (51, 0, [some (.inr (.inr (6, oa, os, or))), some (.inl p1)], [], σ)
noncomputable def e_X6_removeAt (oa : Nat) (os : Nat) (or : Nat) (p1 : Int32) (σ : mS) : Option mR := Ev (52, 0, [some (.inr (.inr (6, oa, os, or))), some (.inl p1), none], [], σ)
noncomputable def b_X6_removeAt_19 (o0a : Nat) (o0s : Nat) (o0r : Nat) (x2 : Int32) (σ : mS) : Option mR := Ev (52, 19, [some (.inr (.inr (6, o0a, o0s, o0r))), none, some (.inl x2)], [], σ)
noncomputable def e_X6_alikeAtFirst (oa : Nat) (os : Nat) (or : Nat) (p1 : Int32) (σ : mS) : Option mR := Ev (53, 0, [some (.inr (.inr (6, oa, os, or))), some (.inl p1), none, none], [], σ)
noncomputable def b_X6_alikeAtFirst_4 (o0a : Nat) (o0s : Nat) (o0r : Nat) (x1 : Int32) (x2 : Int32) (x3 : Int32) (σ : mS) : Option mR := Ev (53, 4, [some (.inr (.inr (6, o0a, o0s, o0r))), some (.inl x1), some (.inl x2), some (.inl x3)], [], σ)
noncomputable def e_X7_addFour (p1 : Int32) (σ : mS) : Option mR := Ev (54, 0, [some (.inr (.inr (7, 0, 0, 0))), some (.inl p1), none], [], σ)
noncomputable def b_X7_addFour_22 (x1 : Int32) (x2 : Int32) (σ : mS) : Option mR := Ev (54, 22, [some (.inr (.inr (7, 0, 0, 0))), some (.inl x1), some (.inl x2)], [], σ)
noncomputable def e_X7_cutTo (p1 : Int32) (σ : mS) : Option mR := Ev (55, 0, [some (.inr (.inr (7, 0, 0, 0))), some (.inl p1)], [], σ)
noncomputable def e_X7_at (p1 : Int32) (σ : mS) : Option mR := Ev (56, 0, [some (.inr (.inr (7, 0, 0, 0))), some (.inl p1)], [], σ)
noncomputable def e_X7_digitAt (p1 : Int32) (p2 : Int32) (p3 : Int32) (σ : mS) : Option mR := Ev (57, 0, [some (.inr (.inr (7, 0, 0, 0))), some (.inl p1), some (.inl p2), some (.inl p3), none], [], σ)
noncomputable def e_X7_letterAt (p1 : Int32) (p2 : Int32) (σ : mS) : Option mR := Ev (58, 0, [some (.inr (.inr (7, 0, 0, 0))), some (.inl p1), some (.inl p2), none], [], σ)
noncomputable def e_X8_become (oa : Nat) (os : Nat) (p1a : Nat) (p1s : Nat) (σ : mS) : Option mR := Ev (59, 0, [some (.inr (.inr (8, oa, os, 0))), some (.inr (.inr (8, p1a, p1s, 0))), none], [], σ)
noncomputable def b_X8_become_2 (o0a : Nat) (o0s : Nat) (o1a : Nat) (o1s : Nat) (x2 : Int32) (σ : mS) : Option mR := Ev (59, 2, [some (.inr (.inr (8, o0a, o0s, 0))), some (.inr (.inr (8, o1a, o1s, 0))), some (.inl x2)], [], σ)
noncomputable def e_X8_isFree (oa : Nat) (os : Nat) (σ : mS) : Option mR := Ev (60, 0, [some (.inr (.inr (8, oa, os, 0)))], [], σ)
noncomputable def e_X8_waiting (oa : Nat) (os : Nat) (σ : mS) : Option mR := Ev (61, 0, [some (.inr (.inr (8, oa, os, 0))), none, none], [], σ)
noncomputable def b_X8_waiting_4 (o0a : Nat) (o0s : Nat) (x1 : Int32) (x2 : Int32) (σ : mS) : Option mR := Ev (61, 4, [some (.inr (.inr (8, o0a, o0s, 0))), some (.inl x1), some (.inl x2)], [], σ)
noncomputable def e_X8_setOwing (oa : Nat) (os : Nat) (p1 : Int32) (p2 : Int32) (σ : mS) : Option mR := Ev (62, 0, [some (.inr (.inr (8, oa, os, 0))), some (.inl p1), some (.inl p2)], [], σ)
noncomputable def e_X8_pays (oa : Nat) (os : Nat) (p1 : Int32) (p2 : Int32) (σ : mS) : Option mR := Ev (63, 0, [some (.inr (.inr (8, oa, os, 0))), some (.inl p1), some (.inl p2)], [], σ)
noncomputable def e_X8_listen (oa : Nat) (os : Nat) (p1 : Int32) (p2 : Int32) (p3 : Int32) (σ : mS) : Option mR := Ev (64, 0, [some (.inr (.inr (8, oa, os, 0))), some (.inl p1), some (.inl p2), some (.inl p3)], [], σ)
noncomputable def e_X9_sign (p1 : Int32) (σ : mS) : Option mR := Ev (65, 0, [some (.inr (.inr (9, 0, 0, 0))), some (.inl p1)], [], σ)
noncomputable def e_X9_end (p1 : Int32) (σ : mS) : Option mR := Ev (66, 0, [some (.inr (.inr (9, 0, 0, 0))), some (.inl p1)], [], σ)
noncomputable def e_X9_net (σ : mS) : Option mR := Ev (67, 0, [some (.inr (.inr (9, 0, 0, 0))), none, none, none], [], σ)
noncomputable def e_X9_sets (p1 : Int32) (p2 : Int32) (σ : mS) : Option mR := Ev (68, 0, [some (.inr (.inr (9, 0, 0, 0))), some (.inl p1), some (.inl p2), none], [], σ)
noncomputable def e_X9_setting (p1 : Int32) (σ : mS) : Option mR := Ev (69, 0, [some (.inr (.inr (9, 0, 0, 0))), some (.inl p1)], [], σ)
noncomputable def e_X9_sheet (p1 : Int32) (p2 : Int32) (p3 : Int32) (p4 : Int32) (p5 : Int32) (σ : mS) : Option mR := Ev (70, 0, [some (.inr (.inr (9, 0, 0, 0))), some (.inl p1), some (.inl p2), some (.inl p3), some (.inl p4), some (.inl p5), none, none], [], σ)
noncomputable def b_X9_sheet_71 (x1 : Int32) (x2 : Int32) (x3 : Int32) (x4 : Int32) (x5 : Int32) (x6 : Int32) (x7 : Int32) (σ : mS) : Option mR := Ev (70, 71, [some (.inr (.inr (9, 0, 0, 0))), some (.inl x1), some (.inl x2), some (.inl x3), some (.inl x4), some (.inl x5), some (.inl x6), some (.inl x7)], [], σ)
noncomputable def e_X9_offers (p1 : Int32) (p2 : Int32) (p3 : Int32) (p4 : Int32) (σ : mS) : Option mR := Ev (71, 0, [some (.inr (.inr (9, 0, 0, 0))), some (.inl p1), some (.inl p2), some (.inl p3), some (.inl p4), none], [], σ)
noncomputable def e_X9_slots (p1 : Int32) (σ : mS) : Option mR := Ev (72, 0, [some (.inr (.inr (9, 0, 0, 0))), some (.inl p1), none, none, none, none, none], [], σ)
noncomputable def b_X9_slots_66 (x1 : Int32) (x2 : Int32) (x3 : Int32) (x4 : Int32) (x5 : Int32) (x6 : Int32) (σ : mS) : Option mR := Ev (72, 66, [some (.inr (.inr (9, 0, 0, 0))), some (.inl x1), some (.inl x2), some (.inl x3), some (.inl x4), some (.inl x5), some (.inl x6)], [], σ)
noncomputable def e_X9_draws (σ : mS) : Option mR := Ev (73, 0, [some (.inr (.inr (9, 0, 0, 0)))], [], σ)
noncomputable def e_X9_station (p1 : Int32) (p2 : Int32) (σ : mS) : Option mR := Ev (74, 0, [some (.inr (.inr (9, 0, 0, 0))), some (.inl p1), some (.inl p2), none], [], σ)
noncomputable def e_X9_rank (p1 : Int32) (p2 : Int32) (p3 : Int32) (σ : mS) : Option mR := Ev (75, 0, [some (.inr (.inr (9, 0, 0, 0))), some (.inl p1), some (.inl p2), some (.inl p3), none], [], σ)
noncomputable def e_X9_frame (p1 : Int32) (p2 : Int32) (p3 : Int32) (p4 : Int32) (σ : mS) : Option mR := Ev (76, 0, [some (.inr (.inr (9, 0, 0, 0))), some (.inl p1), some (.inl p2), some (.inl p3), some (.inl p4), none], [], σ)
noncomputable def e_X9_exchange (p1 : Int32) (p2 : Int32) (σ : mS) : Option mR := Ev (77, 0, [some (.inr (.inr (9, 0, 0, 0))), some (.inl p1), some (.inl p2), none], [], σ)
noncomputable def e_X9_sent (σ : mS) : Option mR := Ev (78, 0, [some (.inr (.inr (9, 0, 0, 0)))], [], σ)
noncomputable def e_X9_spanOf (p1 : Int32) (σ : mS) : Option mR := Ev (79, 0, [some (.inr (.inr (9, 0, 0, 0))), some (.inl p1), none], [], σ)
noncomputable def e_X9_rate (p1 : Int32) (p2 : Int32) (σ : mS) : Option mR := Ev (80, 0, [some (.inr (.inr (9, 0, 0, 0))), some (.inl p1), some (.inl p2), none], [], σ)
noncomputable def e_X9_hidden (σ : mS) : Option mR := Ev (81, 0, [some (.inr (.inr (9, 0, 0, 0))), none, none, none], [], σ)
noncomputable def b_X9_hidden_9 (x1 : Int32) (σ : mS) : Option mR := Ev (81, 9, [some (.inr (.inr (9, 0, 0, 0))), some (.inl x1), none, none], [], σ)
noncomputable def b_X9_hidden_24 (x1 : Int32) (x2 : Int32) (σ : mS) : Option mR := Ev (81, 24, [some (.inr (.inr (9, 0, 0, 0))), some (.inl x1), some (.inl x2), none], [], σ)
noncomputable def e_X9_tally (p1 : Int32) (p2 : Int32) (σ : mS) : Option mR := Ev (82, 0, [some (.inr (.inr (9, 0, 0, 0))), some (.inl p1), some (.inl p2)], [], σ)
noncomputable def e_X9_why (p1 : Int32) (σ : mS) : Option mR := Ev (83, 0, [some (.inr (.inr (9, 0, 0, 0))), some (.inl p1), none], [], σ)
noncomputable def e_X9_spoilt (p1 : Int32) (p2 : Int32) (σ : mS) : Option mR := Ev (84, 0, [some (.inr (.inr (9, 0, 0, 0))), some (.inl p1), some (.inl p2), none], [], σ)
noncomputable def e_X9_held (p1 : Int32) (σ : mS) : Option mR := Ev (85, 0, [some (.inr (.inr (9, 0, 0, 0))), some (.inl p1), none], [], σ)
noncomputable def e_X9_even (σ : mS) : Option mR := Ev (86, 0, [some (.inr (.inr (9, 0, 0, 0))), none, none, none, none, none, none, none], [], σ)
noncomputable def b_X9_even_7 (y1 : Int64) (y3 : Int64) (x5 : Int32) (σ : mS) : Option mR := Ev (86, 7, [some (.inr (.inr (9, 0, 0, 0))), some (.inr (.inl y1)), none, some (.inr (.inl y3)), none, some (.inl x5), none, none], [], σ)
noncomputable def e_X9_busy (σ : mS) : Option mR := Ev (87, 0, [some (.inr (.inr (9, 0, 0, 0)))], [], σ)
noncomputable def e_X9_odds (p1 : Int32) (p2 : Int32) (σ : mS) : Option mR := Ev (88, 0, [some (.inr (.inr (9, 0, 0, 0))), some (.inl p1), some (.inl p2)], [], σ)
noncomputable def e_X9_window (p1 : Int32) (p2 : Int32) (σ : mS) : Option mR := Ev (89, 0, [some (.inr (.inr (9, 0, 0, 0))), some (.inl p1), some (.inl p2), none], [], σ)
noncomputable def b_X9_window_24 (x1 : Int32) (x2 : Int32) (x3 : Int32) (σ : mS) : Option mR := Ev (89, 24, [none, some (.inl x1), some (.inl x2), some (.inl x3)], [], σ)
noncomputable def e_X9_ahead (p1 : Int32) (p2 : Int32) (σ : mS) : Option mR := Ev (90, 0, [some (.inr (.inr (9, 0, 0, 0))), some (.inl p1), some (.inl p2), none], [], σ)
noncomputable def b_X9_ahead_35 (x1 : Int32) (x2 : Int32) (x3 : Int32) (σ : mS) : Option mR := Ev (90, 35, [some (.inr (.inr (9, 0, 0, 0))), some (.inl x1), some (.inl x2), some (.inl x3)], [], σ)
noncomputable def e_X9_quiet (σ : mS) : Option mR := Ev (91, 0, [some (.inr (.inr (9, 0, 0, 0))), none], [], σ)
noncomputable def b_X9_quiet_13 (x1 : Int32) (σ : mS) : Option mR := Ev (91, 13, [some (.inr (.inr (9, 0, 0, 0))), some (.inl x1)], [], σ)
noncomputable def e_X9_next (σ : mS) : Option mR := Ev (92, 0, [some (.inr (.inr (9, 0, 0, 0))), none], [], σ)
noncomputable def b_X9_next_13 (x1 : Int32) (σ : mS) : Option mR := Ev (92, 13, [some (.inr (.inr (9, 0, 0, 0))), some (.inl x1)], [], σ)
noncomputable def e_X9_soonest (p1 : Int32) (σ : mS) : Option mR := Ev (93, 0, [some (.inr (.inr (9, 0, 0, 0))), some (.inl p1), none, none, none, none], [], σ)
noncomputable def b_X9_soonest_19 (x1 : Int32) (x2 : Int32) (x3 : Int32) (x4 : Int32) (σ : mS) : Option mR := Ev (93, 19, [some (.inr (.inr (9, 0, 0, 0))), some (.inl x1), some (.inl x2), some (.inl x3), some (.inl x4), none], [], σ)
noncomputable def e_X9_day (σ : mS) : Option mR := Ev (94, 0, [some (.inr (.inr (9, 0, 0, 0))), none, none, none, none, none], [], σ)
noncomputable def b_X9_day_42 (x2 : Int32) (x3 : Int32) (x4 : Int32) (x5 : Int32) (σ : mS) : Option mR := Ev (94, 42, [some (.inr (.inr (9, 0, 0, 0))), none, some (.inl x2), some (.inl x3), some (.inl x4), some (.inl x5)], [], σ)
noncomputable def b_X9_day_109 (x2 : Int32) (x3 : Int32) (σ : mS) : Option mR := Ev (94, 109, [some (.inr (.inr (9, 0, 0, 0))), none, some (.inl x2), some (.inl x3), none, none], [], σ)
noncomputable def e_X9_undo (σ : mS) : Option mR := Ev (95, 0, [some (.inr (.inr (9, 0, 0, 0)))], [], σ)
noncomputable def e_X9_years (p1 : Int32) (p2 : Int32) (σ : mS) : Option mR := Ev (96, 0, [some (.inr (.inr (9, 0, 0, 0))), some (.inl p1), some (.inl p2), none, none, none], [], σ)
noncomputable def b_X9_years_34 (x2 : Int32) (x3 : Int32) (σ : mS) : Option mR := Ev (96, 34, [some (.inr (.inr (9, 0, 0, 0))), none, some (.inl x2), some (.inl x3), none, none], [], σ)
noncomputable def b_X9_years_74 (x2 : Int32) (x3 : Int32) (x4 : Int32) (x5 : Int32) (σ : mS) : Option mR := Ev (96, 74, [some (.inr (.inr (9, 0, 0, 0))), none, some (.inl x2), some (.inl x3), some (.inl x4), some (.inl x5)], [], σ)
noncomputable def e_X9_keep (p1 : Int32) (σ : mS) : Option mR := Ev (97, 0, [some (.inr (.inr (9, 0, 0, 0))), some (.inl p1)], [], σ)
noncomputable def e_X9_again (p1 : Int32) (σ : mS) : Option mR := Ev (98, 0, [some (.inr (.inr (9, 0, 0, 0))), some (.inl p1)], [], σ)
noncomputable def e_X9_count (p1 : Int32) (σ : mS) : Option mR := Ev (99, 0, [some (.inr (.inr (9, 0, 0, 0))), some (.inl p1)], [], σ)
noncomputable def e_X9_row (p1 : Int32) (σ : mS) : Option mR := Ev (100, 0, [some (.inr (.inr (9, 0, 0, 0))), some (.inl p1)], [], σ)
noncomputable def e_X9_isStation (p1 : Int32) (σ : mS) : Option mR := Ev (101, 0, [some (.inr (.inr (9, 0, 0, 0))), some (.inl p1)], [], σ)
noncomputable def e_X9_isRank (p0 : Int32) (σ : mS) : Option mR := Ev (102, 0, [some (.inl p0)], [], σ)
noncomputable def e_X9_readPairs (p1 : Int32) (σ : mS) : Option mR := Ev (103, 0, [some (.inr (.inr (9, 0, 0, 0))), some (.inl p1), none, none, none, none], [], σ)
noncomputable def b_X9_readPairs_2 (x1 : Int32) (x2 : Int32) (σ : mS) : Option mR := Ev (103, 2, [some (.inr (.inr (9, 0, 0, 0))), some (.inl x1), some (.inl x2), none, none, none], [], σ)
noncomputable def b_X9_readPairs_26 (x1 : Int32) (x2 : Int32) (σ : mS) : Option mR := Ev (103, 26, [some (.inr (.inr (9, 0, 0, 0))), some (.inl x1), some (.inl x2), none, none, none], [], σ)
noncomputable def e_X9_entryOf (p0 : Int32) (p1 : Int32) (σ : mS) : Option mR := Ev (104, 0, [some (.inl p0), some (.inl p1)], [], σ)
noncomputable def e_X9_comesFromEntry (p1 : Int32) (p2 : Int32) (p3 : Int32) (σ : mS) : Option mR := Ev (105, 0, [some (.inr (.inr (9, 0, 0, 0))), some (.inl p1), some (.inl p2), some (.inl p3), none], [], σ)
noncomputable def e_X9_waysAlone (p0 : Int32) (p1 : Int32) (σ : mS) : Option mR := Ev (106, 0, [some (.inl p0), some (.inl p1), none, none, none], [], σ)
noncomputable def b_X9_waysAlone_5 (x0 : Int32) (x1 : Int32) (y2 : Int64) (x4 : Int32) (σ : mS) : Option mR := Ev (106, 5, [some (.inl x0), some (.inl x1), some (.inr (.inl y2)), none, some (.inl x4)], [], σ)
noncomputable def e_X9_power (p0 : Int32) (p1 : Int32) (σ : mS) : Option mR := Ev (107, 0, [some (.inl p0), some (.inl p1), none, none, none], [], σ)
noncomputable def b_X9_power_5 (x0 : Int32) (x1 : Int32) (y2 : Int64) (x4 : Int32) (σ : mS) : Option mR := Ev (107, 5, [some (.inl x0), some (.inl x1), some (.inr (.inl y2)), none, some (.inl x4)], [], σ)
noncomputable def e_X9_slotsTillDelivered (p1 : Int32) (p2 : Int32) (σ : mS) : Option mR := Ev (108, 0, [some (.inr (.inr (9, 0, 0, 0))), some (.inl p1), some (.inl p2), none], [], σ)
noncomputable def b_X9_slotsTillDelivered_34 (x3 : Int32) (σ : mS) : Option mR := Ev (108, 34, [some (.inr (.inr (9, 0, 0, 0))), none, none, some (.inl x3)], [], σ)
noncomputable def e_X9_actLength (p1 : Int32) (σ : mS) : Option mR := Ev (109, 0, [some (.inr (.inr (9, 0, 0, 0))), some (.inl p1), none], [], σ)
noncomputable def e_X9_faultInDay (σ : mS) : Option mR := Ev (110, 0, [some (.inr (.inr (9, 0, 0, 0))), none, none, none], [], σ)
noncomputable def b_X9_faultInDay_4 (x1 : Int32) (x2 : Int32) (σ : mS) : Option mR := Ev (110, 4, [some (.inr (.inr (9, 0, 0, 0))), some (.inl x1), some (.inl x2), none], [], σ)
noncomputable def e_X9_faultInAct (p1 : Int32) (σ : mS) : Option mR := Ev (111, 0, [some (.inr (.inr (9, 0, 0, 0))), some (.inl p1), none], [], σ)
noncomputable def e_X9_doAct (p1 : Int32) (σ : mS) : Option mR := Ev (112, 0, [some (.inr (.inr (9, 0, 0, 0))), some (.inl p1), none, none, none, none, none], [], σ)
noncomputable def b_X9_doAct_78 (x3 : Int32) (x4 : Int32) (σ : mS) : Option mR := Ev (112, 78, [some (.inr (.inr (9, 0, 0, 0))), none, none, some (.inl x3), some (.inl x4), none, none], [], σ)
noncomputable def e_X9_offerDrawn (σ : mS) : Option mR := Ev (113, 0, [some (.inr (.inr (9, 0, 0, 0))), none, none, none, none], [], σ)
noncomputable def e_X10_thrown (σ : mS) : Option mR := Ev (114, 0, [some (.inr (.inr (10, 0, 0, 0)))], [], σ)
noncomputable def e_X10_in (p0 : Int32) (p1 : Int32) (p2 : Int32) (σ : mS) : Option mR := Ev (115, 0, [some (.inl p0), some (.inl p1), some (.inl p2)], [], σ)
noncomputable def e_X10_has (p0 : Int32) (p1 : Int32) (σ : mS) : Option mR := Ev (116, 0, [some (.inl p0), some (.inl p1)], [], σ)
noncomputable def e_X10_lost (σ : mS) : Option mR := Ev (117, 0, [some (.inr (.inr (10, 0, 0, 0)))], [], σ)
noncomputable def e_X10_tell (p1 : Int64) (σ : mS) : Option mR := Ev (118, 0, [some (.inr (.inr (10, 0, 0, 0))), some (.inr (.inl p1)), none], [], σ)
noncomputable def e_X10_common (p0 : Int32) (p1 : Int32) (σ : mS) : Option mR := Ev (119, 0, [some (.inl p0), some (.inl p1), none, none, none], [], σ)
noncomputable def b_X10_common_4 (x2 : Int32) (x3 : Int32) (σ : mS) : Option mR := Ev (119, 4, [none, none, some (.inl x2), some (.inl x3), none], [], σ)
noncomputable def e_X10_commonLong (p0 : Int64) (p2 : Int64) (σ : mS) : Option mR := Ev (120, 0, [some (.inr (.inl p0)), none, some (.inr (.inl p2)), none, none, none, none, none, none, none], [], σ)
noncomputable def b_X10_commonLong_6 (y4 : Int64) (y6 : Int64) (σ : mS) : Option mR := Ev (120, 6, [none, none, none, none, some (.inr (.inl y4)), none, some (.inr (.inl y6)), none, none, none], [], σ)
noncomputable def e_X10_isStation (p1 : Int32) (σ : mS) : Option mR := Ev (121, 0, [some (.inr (.inr (10, 0, 0, 0))), some (.inl p1)], [], σ)
noncomputable def e_X10_isRank (p0 : Int32) (σ : mS) : Option mR := Ev (122, 0, [some (.inl p0)], [], σ)
noncomputable def e_X10_quality (p1 : Int32) (p2 : Int32) (σ : mS) : Option mR := Ev (123, 0, [some (.inr (.inr (10, 0, 0, 0))), some (.inl p1), some (.inl p2)], [], σ)
noncomputable def e_X10_hears (p1 : Int32) (p2 : Int32) (σ : mS) : Option mR := Ev (124, 0, [some (.inr (.inr (10, 0, 0, 0))), some (.inl p1), some (.inl p2)], [], σ)
noncomputable def e_X10_at (p0 : Int32) (p1 : Int32) (σ : mS) : Option mR := Ev (125, 0, [some (.inl p0), some (.inl p1)], [], σ)
noncomputable def e_X10_frameAt (p0 : Int32) (p1 : Int32) (p2 : Int32) (σ : mS) : Option mR := Ev (126, 0, [some (.inl p0), some (.inl p1), some (.inl p2)], [], σ)
noncomputable def e_X10_exchangeAt (p0 : Int32) (σ : mS) : Option mR := Ev (127, 0, [some (.inl p0)], [], σ)
noncomputable def e_X10_draw (p1 : Int32) (σ : mS) : Option mR := Ev (128, 0, [some (.inr (.inr (10, 0, 0, 0))), some (.inl p1)], [], σ)
noncomputable def e_X10_sign (p1 : Int32) (σ : mS) : Option mR := Ev (129, 0, [some (.inr (.inr (10, 0, 0, 0))), some (.inl p1), none], [], σ)
noncomputable def b_X10_sign_20 (x1 : Int32) (x2 : Int32) (σ : mS) : Option mR := Ev (129, 20, [some (.inr (.inr (10, 0, 0, 0))), some (.inl x1), some (.inl x2)], [], σ)
noncomputable def e_X10_end (p1 : Int32) (σ : mS) : Option mR := Ev (130, 0, [some (.inr (.inr (10, 0, 0, 0))), some (.inl p1)], [], σ)
noncomputable def e_X10_begin (σ : mS) : Option mR := Ev (131, 0, [some (.inr (.inr (10, 0, 0, 0)))], [], σ)
noncomputable def e_X10_here (σ : mS) : Option mR := Ev (132, 0, [some (.inr (.inr (10, 0, 0, 0)))], [], σ)
noncomputable def e_X10_fine (σ : mS) : Option mR := Ev (133, 0, [some (.inr (.inr (10, 0, 0, 0)))], [], σ)
noncomputable def e_X10_fault (p1 : Int32) (σ : mS) : Option mR := Ev (134, 0, [some (.inr (.inr (10, 0, 0, 0))), some (.inl p1)], [], σ)
noncomputable def e_X10_oneOf (p1 : Int32) (p2 : Int32) (σ : mS) : Option mR := Ev (135, 0, [some (.inr (.inr (10, 0, 0, 0))), some (.inl p1), some (.inl p2)], [], σ)
noncomputable def e_X10_twoDigits (σ : mS) : Option mR := Ev (136, 0, [some (.inr (.inr (10, 0, 0, 0))), none], [], σ)
noncomputable def e_X10_wasRight (σ : mS) : Option mR := Ev (137, 0, [some (.inr (.inr (10, 0, 0, 0)))], [], σ)
noncomputable def e_X10_readPair (p1 : Int32) (σ : mS) : Option mR := Ev (138, 0, [some (.inr (.inr (10, 0, 0, 0))), some (.inl p1), none, none, none], [], σ)
noncomputable def e_X10_net (σ : mS) : Option mR := Ev (139, 0, [some (.inr (.inr (10, 0, 0, 0))), none, none, none, none], [], σ)
noncomputable def b_X10_net_11 (x1 : Int32) (σ : mS) : Option mR := Ev (139, 11, [some (.inr (.inr (10, 0, 0, 0))), some (.inl x1), none, none, none], [], σ)
noncomputable def b_X10_net_46 (x1 : Int32) (x2 : Int32) (σ : mS) : Option mR := Ev (139, 46, [some (.inr (.inr (10, 0, 0, 0))), some (.inl x1), some (.inl x2), none, none], [], σ)
noncomputable def b_X10_net_95 (x1 : Int32) (x2 : Int32) (x3 : Int32) (σ : mS) : Option mR := Ev (139, 95, [some (.inr (.inr (10, 0, 0, 0))), some (.inl x1), some (.inl x2), some (.inl x3), none], [], σ)
noncomputable def b_X10_net_134 (x2 : Int32) (x3 : Int32) (σ : mS) : Option mR := Ev (139, 134, [some (.inr (.inr (10, 0, 0, 0))), none, some (.inl x2), some (.inl x3), none], [], σ)
noncomputable def b_X10_net_176 (x2 : Int32) (x3 : Int32) (σ : mS) : Option mR := Ev (139, 176, [some (.inr (.inr (10, 0, 0, 0))), none, some (.inl x2), some (.inl x3), none], [], σ)
noncomputable def b_X10_net_196 (x2 : Int32) (x3 : Int32) (x4 : Int32) (σ : mS) : Option mR := Ev (139, 196, [some (.inr (.inr (10, 0, 0, 0))), none, some (.inl x2), some (.inl x3), some (.inl x4)], [], σ)
noncomputable def e_X10_highOf (p0 : Int32) (σ : mS) : Option mR := Ev (140, 0, [some (.inl p0)], [], σ)
noncomputable def e_X10_sets (p1 : Int32) (p2 : Int32) (σ : mS) : Option mR := Ev (141, 0, [some (.inr (.inr (10, 0, 0, 0))), some (.inl p1), some (.inl p2), none], [], σ)
noncomputable def e_X10_setting (p1 : Int32) (σ : mS) : Option mR := Ev (142, 0, [some (.inr (.inr (10, 0, 0, 0))), some (.inl p1)], [], σ)
noncomputable def e_X10_goesOn (σ : mS) : Option mR := Ev (143, 0, [some (.inr (.inr (10, 0, 0, 0))), none], [], σ)
noncomputable def b_X10_goesOn_2 (x1 : Int32) (σ : mS) : Option mR := Ev (143, 2, [some (.inr (.inr (10, 0, 0, 0))), some (.inl x1)], [], σ)
noncomputable def e_X10_sheet (p1 : Int32) (p2 : Int32) (p3 : Int32) (p4 : Int32) (p5 : Int32) (σ : mS) : Option mR := Ev (144, 0, [some (.inr (.inr (10, 0, 0, 0))), some (.inl p1), some (.inl p2), some (.inl p3), some (.inl p4), some (.inl p5), none, none, none, none, none], [], σ)
noncomputable def b_X10_sheet_61 (x1 : Int32) (x2 : Int32) (x3 : Int32) (x5 : Int32) (x6 : Int32) (x7 : Int32) (x8 : Int32) (σ : mS) : Option mR := Ev (144, 61, [some (.inr (.inr (10, 0, 0, 0))), some (.inl x1), some (.inl x2), some (.inl x3), none, some (.inl x5), some (.inl x6), some (.inl x7), some (.inl x8), none, none], [], σ)
noncomputable def b_X10_sheet_95 (x1 : Int32) (x2 : Int32) (x3 : Int32) (x5 : Int32) (x6 : Int32) (x7 : Int32) (x8 : Int32) (t0 : Int32) (σ : mS) : Option mR := Ev (144, 95, [some (.inr (.inr (10, 0, 0, 0))), some (.inl x1), some (.inl x2), some (.inl x3), none, some (.inl x5), some (.inl x6), some (.inl x7), some (.inl x8), none, none], [(.inl t0)], σ)
noncomputable def e_X10_put (p1 : Int32) (p2 : Int32) (p3 : Int32) (p4 : Int32) (p5 : Int32) (σ : mS) : Option mR := Ev (145, 0, [some (.inr (.inr (10, 0, 0, 0))), some (.inl p1), some (.inl p2), some (.inl p3), some (.inl p4), some (.inl p5), none], [], σ)
noncomputable def e_X10_leaves (p1 : Int32) (p2 : Int32) (p3 : Int32) (σ : mS) : Option mR := Ev (146, 0, [some (.inr (.inr (10, 0, 0, 0))), some (.inl p1), some (.inl p2), some (.inl p3), none, none], [], σ)
noncomputable def b_X10_leaves_21 (x1 : Int32) (x2 : Int32) (x4 : Int32) (σ : mS) : Option mR := Ev (146, 21, [some (.inr (.inr (10, 0, 0, 0))), some (.inl x1), some (.inl x2), none, some (.inl x4), none], [], σ)
noncomputable def b_X10_leaves_43 (x1 : Int32) (x2 : Int32) (x4 : Int32) (x5 : Int32) (σ : mS) : Option mR := Ev (146, 43, [some (.inr (.inr (10, 0, 0, 0))), some (.inl x1), some (.inl x2), none, some (.inl x4), some (.inl x5)], [], σ)
noncomputable def e_X10_refusesOffer (p1 : Int32) (p2 : Int32) (p3 : Int32) (p4 : Int32) (σ : mS) : Option mR := Ev (147, 0, [some (.inr (.inr (10, 0, 0, 0))), some (.inl p1), some (.inl p2), some (.inl p3), some (.inl p4)], [], σ)
noncomputable def e_X10_offers (p1 : Int32) (p2 : Int32) (p3 : Int32) (p4 : Int32) (σ : mS) : Option mR := Ev (148, 0, [some (.inr (.inr (10, 0, 0, 0))), some (.inl p1), some (.inl p2), some (.inl p3), some (.inl p4), none], [], σ)
noncomputable def e_X10_isFree (p1 : Int32) (σ : mS) : Option mR := Ev (149, 0, [some (.inr (.inr (10, 0, 0, 0))), some (.inl p1)], [], σ)
noncomputable def e_X10_isReady (p1 : Int32) (p2 : Int32) (σ : mS) : Option mR := Ev (150, 0, [some (.inr (.inr (10, 0, 0, 0))), some (.inl p1), some (.inl p2)], [], σ)
noncomputable def e_X10_had (p1 : Int32) (p2 : Int32) (p3 : Int32) (σ : mS) : Option mR := Ev (151, 0, [some (.inr (.inr (10, 0, 0, 0))), some (.inl p1), some (.inl p2), some (.inl p3)], [], σ)
noncomputable def e_X10_drawsCount (p1 : Int32) (p2 : Int32) (σ : mS) : Option mR := Ev (152, 0, [some (.inr (.inr (10, 0, 0, 0))), some (.inl p1), some (.inl p2)], [], σ)
noncomputable def e_X10_isLost (p1 : Int32) (p2 : Int32) (p3 : Int32) (σ : mS) : Option mR := Ev (153, 0, [some (.inr (.inr (10, 0, 0, 0))), some (.inl p1), some (.inl p2), some (.inl p3)], [], σ)
noncomputable def e_X10_fails (p1 : Int32) (p2 : Int32) (σ : mS) : Option mR := Ev (154, 0, [some (.inr (.inr (10, 0, 0, 0))), some (.inl p1), some (.inl p2), none, none], [], σ)
noncomputable def e_X10_roundedUp (p0 : Int32) (p1 : Int32) (σ : mS) : Option mR := Ev (155, 0, [some (.inl p0), some (.inl p1)], [], σ)
noncomputable def e_X10_begins (p1 : Int32) (p2 : Int32) (σ : mS) : Option mR := Ev (156, 0, [some (.inr (.inr (10, 0, 0, 0))), some (.inl p1), some (.inl p2), none, none, none, none, none], [], σ)
noncomputable def b_X10_begins_8 (x1 : Int32) (x2 : Int32) (x3 : Int32) (x4 : Int32) (σ : mS) : Option mR := Ev (156, 8, [some (.inr (.inr (10, 0, 0, 0))), some (.inl x1), some (.inl x2), some (.inl x3), some (.inl x4), none, none, none], [], σ)
noncomputable def b_X10_begins_50 (x1 : Int32) (x2 : Int32) (x3 : Int32) (x4 : Int32) (x5 : Int32) (x6 : Int32) (σ : mS) : Option mR := Ev (156, 50, [some (.inr (.inr (10, 0, 0, 0))), some (.inl x1), some (.inl x2), some (.inl x3), some (.inl x4), some (.inl x5), some (.inl x6), none], [], σ)
noncomputable def b_X10_begins_180 (x1 : Int32) (x2 : Int32) (x3 : Int32) (x4 : Int32) (x5 : Int32) (x6 : Int32) (t0 : Int32) (σ : mS) : Option mR := Ev (156, 180, [some (.inr (.inr (10, 0, 0, 0))), some (.inl x1), some (.inl x2), some (.inl x3), some (.inl x4), some (.inl x5), some (.inl x6), none], [(.inl t0)], σ)
noncomputable def e_X10_stepBegin (σ : mS) : Option mR := Ev (157, 0, [some (.inr (.inr (10, 0, 0, 0))), none, none, none], [], σ)
noncomputable def b_X10_stepBegin_20 (x1 : Int32) (σ : mS) : Option mR := Ev (157, 20, [some (.inr (.inr (10, 0, 0, 0))), some (.inl x1), none, none], [], σ)
noncomputable def b_X10_stepBegin_85 (x1 : Int32) (σ : mS) : Option mR := Ev (157, 85, [some (.inr (.inr (10, 0, 0, 0))), some (.inl x1), none, none], [], σ)
noncomputable def b_X10_stepBegin_125 (x1 : Int32) (x2 : Int32) (x3 : Int32) (σ : mS) : Option mR := Ev (157, 125, [some (.inr (.inr (10, 0, 0, 0))), some (.inl x1), some (.inl x2), some (.inl x3)], [], σ)
noncomputable def e_X10_stepSend (σ : mS) : Option mR := Ev (158, 0, [some (.inr (.inr (10, 0, 0, 0))), none, none, none, none], [], σ)
noncomputable def b_X10_stepSend_9 (x1 : Int32) (x2 : Int32) (σ : mS) : Option mR := Ev (158, 9, [some (.inr (.inr (10, 0, 0, 0))), some (.inl x1), some (.inl x2), none, none], [], σ)
noncomputable def b_X10_stepSend_78 (x1 : Int32) (x2 : Int32) (t0 : Int32) (σ : mS) : Option mR := Ev (158, 78, [some (.inr (.inr (10, 0, 0, 0))), some (.inl x1), some (.inl x2), none, none], [(.inl t0)], σ)
noncomputable def b_X10_stepSend_181 (x2 : Int32) (σ : mS) : Option mR := Ev (158, 181, [some (.inr (.inr (10, 0, 0, 0))), none, some (.inl x2), none, none], [], σ)
noncomputable def b_X10_stepSend_193 (x2 : Int32) (x3 : Int32) (σ : mS) : Option mR := Ev (158, 193, [some (.inr (.inr (10, 0, 0, 0))), none, some (.inl x2), some (.inl x3), none], [], σ)
noncomputable def e_X10_hearsOthers (p1 : Int32) (p2 : Int32) (σ : mS) : Option mR := Ev (159, 0, [some (.inr (.inr (10, 0, 0, 0))), some (.inl p1), some (.inl p2), none], [], σ)
noncomputable def b_X10_hearsOthers_2 (x1 : Int32) (x2 : Int32) (x3 : Int32) (σ : mS) : Option mR := Ev (159, 2, [some (.inr (.inr (10, 0, 0, 0))), some (.inl x1), some (.inl x2), some (.inl x3)], [], σ)
noncomputable def e_X10_isClear (p1 : Int32) (p2 : Int32) (σ : mS) : Option mR := Ev (160, 0, [some (.inr (.inr (10, 0, 0, 0))), some (.inl p1), some (.inl p2)], [], σ)
noncomputable def e_X10_spans (p1 : Int32) (p2 : Int32) (p3 : Int32) (p4 : Int32) (σ : mS) : Option mR := Ev (161, 0, [some (.inr (.inr (10, 0, 0, 0))), some (.inl p1), some (.inl p2), some (.inl p3), some (.inl p4), none], [], σ)
noncomputable def b_X10_spans_3 (x1 : Int32) (x2 : Int32) (x3 : Int32) (x4 : Int32) (x5 : Int32) (σ : mS) : Option mR := Ev (161, 3, [some (.inr (.inr (10, 0, 0, 0))), some (.inl x1), some (.inl x2), some (.inl x3), some (.inl x4), some (.inl x5)], [], σ)
noncomputable def e_X10_owes (p1 : Int32) (p2 : Int32) (p3 : Int32) (σ : mS) : Option mR := Ev (162, 0, [some (.inr (.inr (10, 0, 0, 0))), some (.inl p1), some (.inl p2), some (.inl p3)], [], σ)
noncomputable def e_X10_sendsIt (p1 : Int32) (p2 : Int32) (p3 : Int32) (σ : mS) : Option mR := Ev (163, 0, [some (.inr (.inr (10, 0, 0, 0))), some (.inl p1), some (.inl p2), some (.inl p3)], [], σ)
noncomputable def e_X10_failsBy (p1 : Int32) (p2 : Int32) (σ : mS) : Option mR := Ev (164, 0, [some (.inr (.inr (10, 0, 0, 0))), some (.inl p1), some (.inl p2), none, none, none], [], σ)
noncomputable def b_X10_failsBy_56 (x1 : Int32) (x2 : Int32) (x3 : Int32) (t1 : Int32) (t2 : Int32) (σ : mS) : Option mR := Ev (164, 56, [some (.inr (.inr (10, 0, 0, 0))), some (.inl x1), some (.inl x2), some (.inl x3), none, none], [(.inl t2), (.inl t1), (.inr (.inr (30, 0, 0, 0)))], σ)
noncomputable def e_X10_stepData (p1 : Int32) (σ : mS) : Option mR := Ev (165, 0, [some (.inr (.inr (10, 0, 0, 0))), some (.inl p1), none, none, none, none], [], σ)
noncomputable def b_X10_stepData_85 (x1 : Int32) (x2 : Int32) (x3 : Int32) (x5 : Int32) (σ : mS) : Option mR := Ev (165, 85, [some (.inr (.inr (10, 0, 0, 0))), some (.inl x1), some (.inl x2), some (.inl x3), none, some (.inl x5)], [], σ)
noncomputable def b_X10_stepData_159 (x1 : Int32) (x2 : Int32) (x3 : Int32) (σ : mS) : Option mR := Ev (165, 159, [some (.inr (.inr (10, 0, 0, 0))), some (.inl x1), some (.inl x2), some (.inl x3), none, none], [], σ)
noncomputable def b_X10_stepData_307 (x1 : Int32) (x2 : Int32) (x3 : Int32) (σ : mS) : Option mR := Ev (165, 307, [some (.inr (.inr (10, 0, 0, 0))), some (.inl x1), some (.inl x2), some (.inl x3), none, none], [], σ)
noncomputable def e_X10_delivers (p1 : Int32) (σ : mS) : Option mR := Ev (166, 0, [some (.inr (.inr (10, 0, 0, 0))), some (.inl p1), none, none, none, none, none, none], [], σ)
noncomputable def b_X10_delivers_20 (x1 : Int32) (x2 : Int32) (x3 : Int32) (x4 : Int32) (x5 : Int32) (σ : mS) : Option mR := Ev (166, 20, [some (.inr (.inr (10, 0, 0, 0))), some (.inl x1), some (.inl x2), some (.inl x3), some (.inl x4), some (.inl x5), none, none], [], σ)
noncomputable def b_X10_delivers_115 (x1 : Int32) (x2 : Int32) (x3 : Int32) (x4 : Int32) (x5 : Int32) (x6 : Int32) (σ : mS) : Option mR := Ev (166, 115, [some (.inr (.inr (10, 0, 0, 0))), some (.inl x1), some (.inl x2), some (.inl x3), some (.inl x4), some (.inl x5), some (.inl x6), none], [], σ)
noncomputable def e_X10_stepSender (p1 : Int32) (σ : mS) : Option mR := Ev (167, 0, [some (.inr (.inr (10, 0, 0, 0))), some (.inl p1), none, none], [], σ)
noncomputable def b_X10_stepSender_105 (x1 : Int32) (x2 : Int32) (x3 : Int32) (t1 : Int32) (t2 : Int32) (σ : mS) : Option mR := Ev (167, 105, [some (.inr (.inr (10, 0, 0, 0))), some (.inl x1), some (.inl x2), some (.inl x3)], [(.inl t2), (.inl t1), (.inr (.inr (30, 0, 0, 0)))], σ)
noncomputable def e_X10_stepEnd (σ : mS) : Option mR := Ev (168, 0, [some (.inr (.inr (10, 0, 0, 0))), none, none, none], [], σ)
noncomputable def b_X10_stepEnd_2 (x1 : Int32) (σ : mS) : Option mR := Ev (168, 2, [some (.inr (.inr (10, 0, 0, 0))), some (.inl x1), none, none], [], σ)
noncomputable def b_X10_stepEnd_122 (x1 : Int32) (x3 : Int32) (σ : mS) : Option mR := Ev (168, 122, [some (.inr (.inr (10, 0, 0, 0))), some (.inl x1), none, some (.inl x3)], [], σ)
noncomputable def e_X10_stepHeld (σ : mS) : Option mR := Ev (169, 0, [some (.inr (.inr (10, 0, 0, 0))), none], [], σ)
noncomputable def b_X10_stepHeld_2 (x1 : Int32) (σ : mS) : Option mR := Ev (169, 2, [some (.inr (.inr (10, 0, 0, 0))), some (.inl x1)], [], σ)
noncomputable def e_X10_slot (σ : mS) : Option mR := Ev (170, 0, [some (.inr (.inr (10, 0, 0, 0))), none], [], σ)
noncomputable def b_X10_slot_14 (x1 : Int32) (σ : mS) : Option mR := Ev (170, 14, [some (.inr (.inr (10, 0, 0, 0))), some (.inl x1)], [], σ)
noncomputable def e_X10_goSlots (p1 : Int32) (σ : mS) : Option mR := Ev (171, 0, [some (.inr (.inr (10, 0, 0, 0))), some (.inl p1), none], [], σ)
noncomputable def b_X10_goSlots_2 (x1 : Int32) (x2 : Int32) (σ : mS) : Option mR := Ev (171, 2, [some (.inr (.inr (10, 0, 0, 0))), some (.inl x1), some (.inl x2)], [], σ)
noncomputable def e_X10_slots (p1 : Int32) (σ : mS) : Option mR := Ev (172, 0, [some (.inr (.inr (10, 0, 0, 0))), some (.inl p1), none, none, none, none], [], σ)
noncomputable def e_X10_drawAll (σ : mS) : Option mR := Ev (173, 0, [some (.inr (.inr (10, 0, 0, 0))), none, none, none], [], σ)
noncomputable def b_X10_drawAll_4 (x1 : Int32) (x2 : Int32) (σ : mS) : Option mR := Ev (173, 4, [some (.inr (.inr (10, 0, 0, 0))), some (.inl x1), some (.inl x2), none], [], σ)
noncomputable def b_X10_drawAll_16 (x1 : Int32) (x2 : Int32) (x3 : Int32) (σ : mS) : Option mR := Ev (173, 16, [some (.inr (.inr (10, 0, 0, 0))), some (.inl x1), some (.inl x2), some (.inl x3)], [], σ)
noncomputable def e_X10_draws (σ : mS) : Option mR := Ev (174, 0, [some (.inr (.inr (10, 0, 0, 0)))], [], σ)
noncomputable def e_X10_waiting (p1 : Int32) (σ : mS) : Option mR := Ev (175, 0, [some (.inr (.inr (10, 0, 0, 0))), some (.inl p1), none, none], [], σ)
noncomputable def b_X10_waiting_4 (x1 : Int32) (x2 : Int32) (x3 : Int32) (σ : mS) : Option mR := Ev (175, 4, [some (.inr (.inr (10, 0, 0, 0))), some (.inl x1), some (.inl x2), some (.inl x3)], [], σ)
noncomputable def e_X10_allWaiting (σ : mS) : Option mR := Ev (176, 0, [some (.inr (.inr (10, 0, 0, 0))), none, none], [], σ)
noncomputable def b_X10_allWaiting_4 (x1 : Int32) (x2 : Int32) (σ : mS) : Option mR := Ev (176, 4, [some (.inr (.inr (10, 0, 0, 0))), some (.inl x1), some (.inl x2)], [], σ)
noncomputable def e_X10_heardBy (p1 : Int32) (σ : mS) : Option mR := Ev (177, 0, [some (.inr (.inr (10, 0, 0, 0))), some (.inl p1), none, none], [], σ)
noncomputable def b_X10_heardBy_4 (x1 : Int32) (x2 : Int32) (x3 : Int32) (σ : mS) : Option mR := Ev (177, 4, [some (.inr (.inr (10, 0, 0, 0))), some (.inl x1), some (.inl x2), some (.inl x3)], [], σ)
noncomputable def e_X10_station (p1 : Int32) (p2 : Int32) (σ : mS) : Option mR := Ev (178, 0, [some (.inr (.inr (10, 0, 0, 0))), some (.inl p1), some (.inl p2)], [], σ)
noncomputable def e_X10_rank (p1 : Int32) (p2 : Int32) (p3 : Int32) (σ : mS) : Option mR := Ev (179, 0, [some (.inr (.inr (10, 0, 0, 0))), some (.inl p1), some (.inl p2), some (.inl p3)], [], σ)
noncomputable def e_X10_frame (p1 : Int32) (p2 : Int32) (p3 : Int32) (p4 : Int32) (σ : mS) : Option mR := Ev (180, 0, [some (.inr (.inr (10, 0, 0, 0))), some (.inl p1), some (.inl p2), some (.inl p3), some (.inl p4)], [], σ)
noncomputable def e_X10_exchange (p1 : Int32) (p2 : Int32) (σ : mS) : Option mR := Ev (181, 0, [some (.inr (.inr (10, 0, 0, 0))), some (.inl p1), some (.inl p2), none], [], σ)
noncomputable def e_X10_placesOf (p1 : Int32) (σ : mS) : Option mR := Ev (182, 0, [some (.inr (.inr (10, 0, 0, 0))), some (.inl p1), none, none], [], σ)
noncomputable def b_X10_placesOf_4 (x1 : Int32) (x2 : Int32) (x3 : Int32) (σ : mS) : Option mR := Ev (182, 4, [some (.inr (.inr (10, 0, 0, 0))), some (.inl x1), some (.inl x2), some (.inl x3)], [], σ)
noncomputable def e_X10_sent (σ : mS) : Option mR := Ev (183, 0, [some (.inr (.inr (10, 0, 0, 0)))], [], σ)
noncomputable def e_X10_spanOf (p1 : Int32) (σ : mS) : Option mR := Ev (184, 0, [some (.inr (.inr (10, 0, 0, 0))), some (.inl p1)], [], σ)
noncomputable def e_X10_rate (p1 : Int32) (p2 : Int32) (σ : mS) : Option mR := Ev (185, 0, [some (.inr (.inr (10, 0, 0, 0))), some (.inl p1), some (.inl p2)], [], σ)
noncomputable def e_X10_hidden (σ : mS) : Option mR := Ev (186, 0, [some (.inr (.inr (10, 0, 0, 0))), none, none], [], σ)
noncomputable def b_X10_hidden_12 (x1 : Int32) (σ : mS) : Option mR := Ev (186, 12, [some (.inr (.inr (10, 0, 0, 0))), some (.inl x1), none], [], σ)
noncomputable def b_X10_hidden_26 (x1 : Int32) (x2 : Int32) (σ : mS) : Option mR := Ev (186, 26, [some (.inr (.inr (10, 0, 0, 0))), some (.inl x1), some (.inl x2)], [], σ)
noncomputable def e_X10_tally (p1 : Int32) (p2 : Int32) (σ : mS) : Option mR := Ev (187, 0, [some (.inr (.inr (10, 0, 0, 0))), some (.inl p1), some (.inl p2)], [], σ)
noncomputable def e_X10_held (p1 : Int32) (σ : mS) : Option mR := Ev (188, 0, [some (.inr (.inr (10, 0, 0, 0))), some (.inl p1), none, none], [], σ)
noncomputable def b_X10_held_24 (x1 : Int32) (x2 : Int32) (x3 : Int32) (σ : mS) : Option mR := Ev (188, 24, [some (.inr (.inr (10, 0, 0, 0))), some (.inl x1), some (.inl x2), some (.inl x3)], [], σ)
noncomputable def e_X10_why (p1 : Int32) (σ : mS) : Option mR := Ev (189, 0, [some (.inr (.inr (10, 0, 0, 0))), some (.inl p1)], [], σ)
noncomputable def e_X10_spoilt (p1 : Int32) (p2 : Int32) (σ : mS) : Option mR := Ev (190, 0, [some (.inr (.inr (10, 0, 0, 0))), some (.inl p1), some (.inl p2)], [], σ)
noncomputable def e_X10_even (σ : mS) : Option mR := Ev (191, 0, [some (.inr (.inr (10, 0, 0, 0))), none, none, none, none, none, none, none], [], σ)
noncomputable def b_X10_even_12 (y1 : Int64) (y3 : Int64) (x5 : Int32) (σ : mS) : Option mR := Ev (191, 12, [some (.inr (.inr (10, 0, 0, 0))), some (.inr (.inl y1)), none, some (.inr (.inl y3)), none, some (.inl x5), none, none], [], σ)
noncomputable def e_X10_busy (σ : mS) : Option mR := Ev (192, 0, [some (.inr (.inr (10, 0, 0, 0)))], [], σ)
noncomputable def e_X10_power (p0 : Int32) (p1 : Int32) (σ : mS) : Option mR := Ev (193, 0, [some (.inl p0), some (.inl p1), none, none], [], σ)
noncomputable def b_X10_power_4 (x0 : Int32) (x1 : Int32) (x2 : Int32) (x3 : Int32) (σ : mS) : Option mR := Ev (193, 4, [some (.inl x0), some (.inl x1), some (.inl x2), some (.inl x3)], [], σ)
noncomputable def e_X10_waysAlone (p0 : Int32) (p1 : Int32) (σ : mS) : Option mR := Ev (194, 0, [some (.inl p0), some (.inl p1), none, none], [], σ)
noncomputable def b_X10_waysAlone_4 (x0 : Int32) (x1 : Int32) (x2 : Int32) (x3 : Int32) (σ : mS) : Option mR := Ev (194, 4, [some (.inl x0), some (.inl x1), some (.inl x2), some (.inl x3)], [], σ)
noncomputable def e_X10_odds (p1 : Int32) (p2 : Int32) (σ : mS) : Option mR := Ev (195, 0, [some (.inr (.inr (10, 0, 0, 0))), some (.inl p1), some (.inl p2), none, none, none], [], σ)
noncomputable def e_X10_window (p1 : Int32) (p2 : Int32) (σ : mS) : Option mR := Ev (196, 0, [some (.inr (.inr (10, 0, 0, 0))), some (.inl p1), some (.inl p2), none], [], σ)
noncomputable def b_X10_window_28 (x1 : Int32) (x2 : Int32) (x3 : Int32) (σ : mS) : Option mR := Ev (196, 28, [none, some (.inl x1), some (.inl x2), some (.inl x3)], [], σ)
noncomputable def e_X10_layAside (σ : mS) : Option mR := Ev (197, 0, [some (.inr (.inr (10, 0, 0, 0))), none], [], σ)
noncomputable def b_X10_layAside_2 (x1 : Int32) (σ : mS) : Option mR := Ev (197, 2, [some (.inr (.inr (10, 0, 0, 0))), some (.inl x1)], [], σ)
noncomputable def e_X10_comesBack (σ : mS) : Option mR := Ev (198, 0, [some (.inr (.inr (10, 0, 0, 0))), none], [], σ)
noncomputable def b_X10_comesBack_2 (x1 : Int32) (σ : mS) : Option mR := Ev (198, 2, [some (.inr (.inr (10, 0, 0, 0))), some (.inl x1)], [], σ)
noncomputable def e_X10_ahead (p1 : Int32) (p2 : Int32) (σ : mS) : Option mR := Ev (199, 0, [some (.inr (.inr (10, 0, 0, 0))), some (.inl p1), some (.inl p2), none], [], σ)
noncomputable def e_X10_isQuiet (σ : mS) : Option mR := Ev (200, 0, [some (.inr (.inr (10, 0, 0, 0)))], [], σ)
noncomputable def e_X10_quiet (σ : mS) : Option mR := Ev (201, 0, [some (.inr (.inr (10, 0, 0, 0))), none, none, none], [], σ)
noncomputable def b_X10_quiet_11 (x1 : Int32) (σ : mS) : Option mR := Ev (201, 11, [some (.inr (.inr (10, 0, 0, 0))), some (.inl x1), none, none], [], σ)
noncomputable def e_X10_next (σ : mS) : Option mR := Ev (202, 0, [some (.inr (.inr (10, 0, 0, 0))), none, none], [], σ)
noncomputable def b_X10_next_13 (x1 : Int32) (x2 : Int32) (σ : mS) : Option mR := Ev (202, 13, [some (.inr (.inr (10, 0, 0, 0))), some (.inl x1), some (.inl x2)], [], σ)
noncomputable def e_X10_takes (p1 : Int32) (p2 : Int32) (σ : mS) : Option mR := Ev (203, 0, [some (.inr (.inr (10, 0, 0, 0))), some (.inl p1), some (.inl p2), none, none], [], σ)
noncomputable def b_X10_takes_24 (x3 : Int32) (σ : mS) : Option mR := Ev (203, 24, [some (.inr (.inr (10, 0, 0, 0))), none, none, some (.inl x3), none], [], σ)
noncomputable def e_X10_soonest (p1 : Int32) (σ : mS) : Option mR := Ev (204, 0, [some (.inr (.inr (10, 0, 0, 0))), some (.inl p1), none, none, none, none], [], σ)
noncomputable def b_X10_soonest_22 (x1 : Int32) (x2 : Int32) (x3 : Int32) (x4 : Int32) (σ : mS) : Option mR := Ev (204, 22, [some (.inr (.inr (10, 0, 0, 0))), some (.inl x1), some (.inl x2), some (.inl x3), some (.inl x4), none], [], σ)
noncomputable def e_X10_readAct (p1 : Int32) (σ : mS) : Option mR := Ev (205, 0, [some (.inr (.inr (10, 0, 0, 0))), some (.inl p1), none], [], σ)
noncomputable def b_X10_readAct_67 (x1 : Int32) (x2 : Int32) (σ : mS) : Option mR := Ev (205, 67, [some (.inr (.inr (10, 0, 0, 0))), some (.inl x1), some (.inl x2)], [], σ)
noncomputable def e_X10_act (p1 : Int32) (σ : mS) : Option mR := Ev (206, 0, [some (.inr (.inr (10, 0, 0, 0))), some (.inl p1)], [], σ)
noncomputable def e_X10_day (σ : mS) : Option mR := Ev (207, 0, [some (.inr (.inr (10, 0, 0, 0))), none, none, none], [], σ)
noncomputable def b_X10_day_11 (x1 : Int32) (σ : mS) : Option mR := Ev (207, 11, [some (.inr (.inr (10, 0, 0, 0))), some (.inl x1), none, none], [], σ)
noncomputable def b_X10_day_58 (x1 : Int32) (x2 : Int32) (σ : mS) : Option mR := Ev (207, 58, [some (.inr (.inr (10, 0, 0, 0))), some (.inl x1), some (.inl x2), none], [], σ)
noncomputable def b_X10_day_94 (x1 : Int32) (x2 : Int32) (x3 : Int32) (σ : mS) : Option mR := Ev (207, 94, [some (.inr (.inr (10, 0, 0, 0))), some (.inl x1), some (.inl x2), some (.inl x3)], [], σ)
noncomputable def e_X10_change (σ : mS) : Option mR := Ev (208, 0, [some (.inr (.inr (10, 0, 0, 0))), none], [], σ)
noncomputable def b_X10_change_2 (x1 : Int32) (σ : mS) : Option mR := Ev (208, 2, [some (.inr (.inr (10, 0, 0, 0))), some (.inl x1)], [], σ)
noncomputable def e_X10_note (σ : mS) : Option mR := Ev (209, 0, [some (.inr (.inr (10, 0, 0, 0))), none], [], σ)
noncomputable def b_X10_note_11 (x1 : Int32) (σ : mS) : Option mR := Ev (209, 11, [some (.inr (.inr (10, 0, 0, 0))), some (.inl x1)], [], σ)
noncomputable def b_X10_note_52 (x1 : Int32) (σ : mS) : Option mR := Ev (209, 52, [some (.inr (.inr (10, 0, 0, 0))), some (.inl x1)], [], σ)
noncomputable def e_X10_undo (σ : mS) : Option mR := Ev (210, 0, [some (.inr (.inr (10, 0, 0, 0))), none], [], σ)
noncomputable def b_X10_undo_26 (x1 : Int32) (σ : mS) : Option mR := Ev (210, 26, [some (.inr (.inr (10, 0, 0, 0))), some (.inl x1)], [], σ)
noncomputable def e_X10_drawBeside (p1 : Int32) (σ : mS) : Option mR := Ev (211, 0, [some (.inr (.inr (10, 0, 0, 0))), some (.inl p1)], [], σ)
noncomputable def e_X10_years (p1 : Int32) (p2 : Int32) (σ : mS) : Option mR := Ev (212, 0, [some (.inr (.inr (10, 0, 0, 0))), some (.inl p1), some (.inl p2), none, none, none, none, none], [], σ)
noncomputable def b_X10_years_28 (x2 : Int32) (x3 : Int32) (σ : mS) : Option mR := Ev (212, 28, [some (.inr (.inr (10, 0, 0, 0))), none, some (.inl x2), some (.inl x3), none, none, none, none], [], σ)
noncomputable def e_X10_keep (p1 : Int32) (σ : mS) : Option mR := Ev (213, 0, [some (.inr (.inr (10, 0, 0, 0))), some (.inl p1), none], [], σ)
noncomputable def b_X10_keep_25 (x1 : Int32) (x2 : Int32) (σ : mS) : Option mR := Ev (213, 25, [some (.inr (.inr (10, 0, 0, 0))), some (.inl x1), some (.inl x2)], [], σ)
noncomputable def e_X10_again (p1 : Int32) (σ : mS) : Option mR := Ev (214, 0, [some (.inr (.inr (10, 0, 0, 0))), some (.inl p1), none], [], σ)
noncomputable def b_X10_again_27 (x1 : Int32) (x2 : Int32) (σ : mS) : Option mR := Ev (214, 27, [some (.inr (.inr (10, 0, 0, 0))), some (.inl x1), some (.inl x2)], [], σ)
noncomputable def e_X10_exchanges (σ : mS) : Option mR := Ev (215, 0, [some (.inr (.inr (10, 0, 0, 0))), none, none], [], σ)
noncomputable def b_X10_exchanges_4 (x1 : Int32) (x2 : Int32) (σ : mS) : Option mR := Ev (215, 4, [some (.inr (.inr (10, 0, 0, 0))), some (.inl x1), some (.inl x2)], [], σ)
noncomputable def e_X10_count (p1 : Int32) (σ : mS) : Option mR := Ev (216, 0, [some (.inr (.inr (10, 0, 0, 0))), some (.inl p1)], [], σ)
noncomputable def e_X10_row (p1 : Int32) (σ : mS) : Option mR := Ev (217, 0, [some (.inr (.inr (10, 0, 0, 0))), some (.inl p1)], [], σ)
noncomputable def e_J6_bitCount (p0 : Int32) (σ : mS) : Option mR := Ev (218, 0, [some (.inl p0)], [], σ)
noncomputable def e_L_setting (p1 : Int32) (σ : mS) : Option mR := Ev (219, 0, [some (.inr (.inr (9, 0, 0, 0))), some (.inl p1), some (.inr (.inr (45, 0, 0, 0))), none], [], σ)
noncomputable def e_L_station (p1 : Int32) (p2 : Int32) (σ : mS) : Option mR := Ev (220, 0, [some (.inr (.inr (9, 0, 0, 0))), some (.inl p1), some (.inl p2), some (.inr (.inr (45, 0, 0, 0))), none], [], σ)
noncomputable def e_L_rank (p1 : Int32) (p2 : Int32) (p3 : Int32) (σ : mS) : Option mR := Ev (221, 0, [some (.inr (.inr (9, 0, 0, 0))), some (.inl p1), some (.inl p2), some (.inl p3), some (.inr (.inr (45, 0, 0, 0))), none], [], σ)
noncomputable def e_L_frame (p1 : Int32) (p2 : Int32) (p3 : Int32) (p4 : Int32) (σ : mS) : Option mR := Ev (222, 0, [some (.inr (.inr (9, 0, 0, 0))), some (.inl p1), some (.inl p2), some (.inl p3), some (.inl p4), some (.inr (.inr (45, 0, 0, 0))), none], [], σ)
noncomputable def e_L_tally (p1 : Int32) (p2 : Int32) (σ : mS) : Option mR := Ev (223, 0, [some (.inr (.inr (9, 0, 0, 0))), some (.inl p1), some (.inl p2), some (.inr (.inr (45, 0, 0, 0))), none], [], σ)
noncomputable def e_L_row (p1 : Int32) (σ : mS) : Option mR := Ev (224, 0, [some (.inr (.inr (9, 0, 0, 0))), some (.inl p1), some (.inr (.inr (45, 0, 0, 0))), none], [], σ)
noncomputable def e_L_law (σ : mS) : Option mR := Ev (225, 0, [some (.inr (.inr (46, 0, 0, 0))), none, none, none, none, none, none, none], [], σ)
end
section
/-! The links of the mini-code, held against the tables (by program) -/
def cn (k : Nat) : String := match k with
  | 0 => RX0
  | 1 => RX1
  | 2 => RX2
  | 3 => RX3
  | 4 => RX4
  | 5 => RX5
  | 6 => RX6
  | 7 => RX7
  | 8 => RX8
  | 9 => RX9
  | 10 => RX10
  | 11 => RL
  | _ => RJ6
def fT (k : Nat) : u_T := match k with
  | 0 => TX0
  | 1 => TX1
  | 2 => TX2
  | 3 => TX3
  | 4 => TX4
  | 5 => TX5
  | 6 => TX6
  | 7 => TX7
  | 8 => TX8
  | 9 => TX9
  | _ => TX10
def fY (k : Nat) : Nat → FieldType := match k with
  | 0 => tyX0
  | 1 => tyX1
  | 2 => tyX2
  | 3 => tyX3
  | 4 => tyX4
  | 5 => tyX5
  | 6 => tyX6
  | 7 => tyX7
  | 8 => tyX8
  | 9 => tyX9
  | _ => tyX10
def fN (k : Nat) : Nat := match k with
  | 0 => 13
  | 1 => 1
  | 2 => 13
  | 3 => 9
  | 4 => 2
  | 5 => 3
  | 6 => 4
  | 7 => 2
  | 8 => 13
  | 9 => 9
  | _ => 21
theorem fCl : ∀ k, k < 11 → vwCl[k]? = some (cn k, fT k, fN k)
  | 0, _ => rfl
  | 1, _ => rfl
  | 2, _ => rfl
  | 3, _ => rfl
  | 4, _ => rfl
  | 5, _ => rfl
  | 6, _ => rfl
  | 7, _ => rfl
  | 8, _ => rfl
  | 9, _ => rfl
  | 10, _ => rfl
  | n + 11, h => by omega
theorem fTy : ∀ k, k < 11 → ∀ f, f < fN k → parseFieldDescriptor (fT k f).2.2.1 = some (fY k f)
  | 0, _ => tyX0_ok
  | 1, _ => tyX1_ok
  | 2, _ => tyX2_ok
  | 3, _ => tyX3_ok
  | 4, _ => tyX4_ok
  | 5, _ => tyX5_ok
  | 6, _ => tyX6_ok
  | 7, _ => tyX7_ok
  | 8, _ => tyX8_ok
  | 9, _ => tyX9_ok
  | 10, _ => tyX10_ok
  | n + 11, h => by omega
theorem fNm : ∀ k, k < 11 → ∀ a, a < fN k → ∀ b, b < fN k → a ≠ b → (fT k a).2.1 ≠ (fT k b).2.1
  | 0, _ => nmX0
  | 1, _ => nmX1
  | 2, _ => nmX2
  | 3, _ => nmX3
  | 4, _ => nmX4
  | 5, _ => nmX5
  | 6, _ => nmX6
  | 7, _ => nmX7
  | 8, _ => nmX8
  | 9, _ => nmX9
  | 10, _ => nmX10
  | n + 11, h => by omega
theorem fL0 : ∀ w ∈ u_ws RX0 TX0 13, w ∈ mBig := by
  rw [show u_ws RX0 TX0 13 = [u_lay RX0 TX0 0, u_lay RX0 TX0 1, u_lay RX0 TX0 2, u_lay RX0 TX0 3, u_lay RX0 TX0 4, u_lay RX0 TX0 5, u_lay RX0 TX0 6, u_lay RX0 TX0 7, u_lay RX0 TX0 8, u_lay RX0 TX0 9, u_lay RX0 TX0 10, u_lay RX0 TX0 11, u_lay RX0 TX0 12] from rfl]
  exact List.forall_mem_cons.mpr ⟨mB (mt2 (List.mem_of_getElem? (i := 58) (by decide +kernel))) rfl, List.forall_mem_cons.mpr ⟨mB (mt2 (List.mem_of_getElem? (i := 60) (by decide +kernel))) rfl, List.forall_mem_cons.mpr ⟨mB (mt2 (List.mem_of_getElem? (i := 62) (by decide +kernel))) rfl, List.forall_mem_cons.mpr ⟨mB (mt2 (List.mem_of_getElem? (i := 64) (by decide +kernel))) rfl, List.forall_mem_cons.mpr ⟨mB (mt2 (List.mem_of_getElem? (i := 66) (by decide +kernel))) rfl, List.forall_mem_cons.mpr ⟨mB (mt2 (List.mem_of_getElem? (i := 68) (by decide +kernel))) rfl, List.forall_mem_cons.mpr ⟨mB (mt2 (List.mem_of_getElem? (i := 70) (by decide +kernel))) rfl, List.forall_mem_cons.mpr ⟨mB (mt2 (List.mem_of_getElem? (i := 72) (by decide +kernel))) rfl, List.forall_mem_cons.mpr ⟨mB (mt2 (List.mem_of_getElem? (i := 74) (by decide +kernel))) rfl, List.forall_mem_cons.mpr ⟨mB (mt2 (List.mem_of_getElem? (i := 76) (by decide +kernel))) rfl, List.forall_mem_cons.mpr ⟨mB (mt2 (List.mem_of_getElem? (i := 78) (by decide +kernel))) rfl, List.forall_mem_cons.mpr ⟨mB (mt2 (List.mem_of_getElem? (i := 80) (by decide +kernel))) rfl, List.forall_mem_cons.mpr ⟨mB (mt2 (List.mem_of_getElem? (i := 82) (by decide +kernel))) rfl, fun _ h => absurd h List.not_mem_nil⟩⟩⟩⟩⟩⟩⟩⟩⟩⟩⟩⟩⟩
theorem fL1 : ∀ w ∈ u_ws RX1 TX1 1, w ∈ mBig := by
  rw [show u_ws RX1 TX1 1 = [u_lay RX1 TX1 0] from rfl]
  exact List.forall_mem_cons.mpr ⟨mB (mt1 (List.mem_of_getElem? (i := 42) (by decide +kernel))) rfl, fun _ h => absurd h List.not_mem_nil⟩
theorem fL2 : ∀ w ∈ u_ws RX2 TX2 13, w ∈ mBig := by
  rw [show u_ws RX2 TX2 13 = [u_lay RX2 TX2 0, u_lay RX2 TX2 1, u_lay RX2 TX2 2, u_lay RX2 TX2 3, u_lay RX2 TX2 4, u_lay RX2 TX2 5, u_lay RX2 TX2 6, u_lay RX2 TX2 7, u_lay RX2 TX2 8, u_lay RX2 TX2 9, u_lay RX2 TX2 10, u_lay RX2 TX2 11, u_lay RX2 TX2 12] from rfl]
  exact List.forall_mem_cons.mpr ⟨mB (mt1 (List.mem_of_getElem? (i := 101) (by decide +kernel))) rfl, List.forall_mem_cons.mpr ⟨mB (mt1 (List.mem_of_getElem? (i := 103) (by decide +kernel))) rfl, List.forall_mem_cons.mpr ⟨mB (mt1 (List.mem_of_getElem? (i := 105) (by decide +kernel))) rfl, List.forall_mem_cons.mpr ⟨mB (mt1 (List.mem_of_getElem? (i := 107) (by decide +kernel))) rfl, List.forall_mem_cons.mpr ⟨mB (mt1 (List.mem_of_getElem? (i := 109) (by decide +kernel))) rfl, List.forall_mem_cons.mpr ⟨mB (mt1 (List.mem_of_getElem? (i := 111) (by decide +kernel))) rfl, List.forall_mem_cons.mpr ⟨mB (mt1 (List.mem_of_getElem? (i := 113) (by decide +kernel))) rfl, List.forall_mem_cons.mpr ⟨mB (mt1 (List.mem_of_getElem? (i := 115) (by decide +kernel))) rfl, List.forall_mem_cons.mpr ⟨mB (mt1 (List.mem_of_getElem? (i := 117) (by decide +kernel))) rfl, List.forall_mem_cons.mpr ⟨mB (mt1 (List.mem_of_getElem? (i := 119) (by decide +kernel))) rfl, List.forall_mem_cons.mpr ⟨mB (mt1 (List.mem_of_getElem? (i := 121) (by decide +kernel))) rfl, List.forall_mem_cons.mpr ⟨mB (mt1 (List.mem_of_getElem? (i := 123) (by decide +kernel))) rfl, List.forall_mem_cons.mpr ⟨mB (mt1 (List.mem_of_getElem? (i := 125) (by decide +kernel))) rfl, fun _ h => absurd h List.not_mem_nil⟩⟩⟩⟩⟩⟩⟩⟩⟩⟩⟩⟩⟩
theorem fL3 : ∀ w ∈ u_ws RX3 TX3 9, w ∈ mBig := by
  rw [show u_ws RX3 TX3 9 = [u_lay RX3 TX3 0, u_lay RX3 TX3 1, u_lay RX3 TX3 2, u_lay RX3 TX3 3, u_lay RX3 TX3 4, u_lay RX3 TX3 5, u_lay RX3 TX3 6, u_lay RX3 TX3 7, u_lay RX3 TX3 8] from rfl]
  exact List.forall_mem_cons.mpr ⟨mB (mt1 (List.mem_of_getElem? (i := 161) (by decide +kernel))) rfl, List.forall_mem_cons.mpr ⟨mB (mt1 (List.mem_of_getElem? (i := 163) (by decide +kernel))) rfl, List.forall_mem_cons.mpr ⟨mB (mt1 (List.mem_of_getElem? (i := 165) (by decide +kernel))) rfl, List.forall_mem_cons.mpr ⟨mB (mt1 (List.mem_of_getElem? (i := 167) (by decide +kernel))) rfl, List.forall_mem_cons.mpr ⟨mB (mt1 (List.mem_of_getElem? (i := 169) (by decide +kernel))) rfl, List.forall_mem_cons.mpr ⟨mB (mt1 (List.mem_of_getElem? (i := 171) (by decide +kernel))) rfl, List.forall_mem_cons.mpr ⟨mB (mt1 (List.mem_of_getElem? (i := 173) (by decide +kernel))) rfl, List.forall_mem_cons.mpr ⟨mB (mt1 (List.mem_of_getElem? (i := 175) (by decide +kernel))) rfl, List.forall_mem_cons.mpr ⟨mB (mt1 (List.mem_of_getElem? (i := 177) (by decide +kernel))) rfl, fun _ h => absurd h List.not_mem_nil⟩⟩⟩⟩⟩⟩⟩⟩⟩
theorem fL4 : ∀ w ∈ u_ws RX4 TX4 2, w ∈ mBig := by
  rw [show u_ws RX4 TX4 2 = [u_lay RX4 TX4 0, u_lay RX4 TX4 1] from rfl]
  exact List.forall_mem_cons.mpr ⟨mB (mt2 (List.mem_of_getElem? (i := 132) (by decide +kernel))) rfl, List.forall_mem_cons.mpr ⟨mB (mt2 (List.mem_of_getElem? (i := 134) (by decide +kernel))) rfl, fun _ h => absurd h List.not_mem_nil⟩⟩
theorem fL5 : ∀ w ∈ u_ws RX5 TX5 3, w ∈ mBig := by
  rw [show u_ws RX5 TX5 3 = [u_lay RX5 TX5 0, u_lay RX5 TX5 1, u_lay RX5 TX5 2] from rfl]
  exact List.forall_mem_cons.mpr ⟨mB (mt2 (List.mem_of_getElem? (i := 100) (by decide +kernel))) rfl, List.forall_mem_cons.mpr ⟨mB (mt2 (List.mem_of_getElem? (i := 102) (by decide +kernel))) rfl, List.forall_mem_cons.mpr ⟨mB (mt2 (List.mem_of_getElem? (i := 104) (by decide +kernel))) rfl, fun _ h => absurd h List.not_mem_nil⟩⟩⟩
theorem fL6 : ∀ w ∈ u_ws RX6 TX6 4, w ∈ mBig := by
  rw [show u_ws RX6 TX6 4 = [u_lay RX6 TX6 0, u_lay RX6 TX6 1, u_lay RX6 TX6 2, u_lay RX6 TX6 3] from rfl]
  exact List.forall_mem_cons.mpr ⟨mB (mt1 (List.mem_of_getElem? (i := 198) (by decide +kernel))) rfl, List.forall_mem_cons.mpr ⟨mB (mt1 (List.mem_of_getElem? (i := 200) (by decide +kernel))) rfl, List.forall_mem_cons.mpr ⟨mB (mt1 (List.mem_of_getElem? (i := 202) (by decide +kernel))) rfl, List.forall_mem_cons.mpr ⟨mB (mt1 (List.mem_of_getElem? (i := 204) (by decide +kernel))) rfl, fun _ h => absurd h List.not_mem_nil⟩⟩⟩⟩
theorem fL7 : ∀ w ∈ u_ws RX7 TX7 2, w ∈ mBig := by
  rw [show u_ws RX7 TX7 2 = [u_lay RX7 TX7 0, u_lay RX7 TX7 1] from rfl]
  exact List.forall_mem_cons.mpr ⟨mB (mt2 (List.mem_of_getElem? (i := 116) (by decide +kernel))) rfl, List.forall_mem_cons.mpr ⟨mB (mt2 (List.mem_of_getElem? (i := 118) (by decide +kernel))) rfl, fun _ h => absurd h List.not_mem_nil⟩⟩
theorem fL8 : ∀ w ∈ u_ws RX8 TX8 13, w ∈ mBig := by
  rw [show u_ws RX8 TX8 13 = [u_lay RX8 TX8 0, u_lay RX8 TX8 1, u_lay RX8 TX8 2, u_lay RX8 TX8 3, u_lay RX8 TX8 4, u_lay RX8 TX8 5, u_lay RX8 TX8 6, u_lay RX8 TX8 7, u_lay RX8 TX8 8, u_lay RX8 TX8 9, u_lay RX8 TX8 10, u_lay RX8 TX8 11, u_lay RX8 TX8 12] from rfl]
  exact List.forall_mem_cons.mpr ⟨mB (mt2 (List.mem_of_getElem? (i := 5) (by decide +kernel))) rfl, List.forall_mem_cons.mpr ⟨mB (mt2 (List.mem_of_getElem? (i := 7) (by decide +kernel))) rfl, List.forall_mem_cons.mpr ⟨mB (mt2 (List.mem_of_getElem? (i := 9) (by decide +kernel))) rfl, List.forall_mem_cons.mpr ⟨mB (mt2 (List.mem_of_getElem? (i := 11) (by decide +kernel))) rfl, List.forall_mem_cons.mpr ⟨mB (mt2 (List.mem_of_getElem? (i := 13) (by decide +kernel))) rfl, List.forall_mem_cons.mpr ⟨mB (mt2 (List.mem_of_getElem? (i := 15) (by decide +kernel))) rfl, List.forall_mem_cons.mpr ⟨mB (mt2 (List.mem_of_getElem? (i := 17) (by decide +kernel))) rfl, List.forall_mem_cons.mpr ⟨mB (mt2 (List.mem_of_getElem? (i := 19) (by decide +kernel))) rfl, List.forall_mem_cons.mpr ⟨mB (mt2 (List.mem_of_getElem? (i := 21) (by decide +kernel))) rfl, List.forall_mem_cons.mpr ⟨mB (mt2 (List.mem_of_getElem? (i := 23) (by decide +kernel))) rfl, List.forall_mem_cons.mpr ⟨mB (mt2 (List.mem_of_getElem? (i := 25) (by decide +kernel))) rfl, List.forall_mem_cons.mpr ⟨mB (mt2 (List.mem_of_getElem? (i := 27) (by decide +kernel))) rfl, List.forall_mem_cons.mpr ⟨mB (mt2 (List.mem_of_getElem? (i := 29) (by decide +kernel))) rfl, fun _ h => absurd h List.not_mem_nil⟩⟩⟩⟩⟩⟩⟩⟩⟩⟩⟩⟩⟩
theorem fL9 : ∀ w ∈ u_ws RX9 TX9 9, w ∈ mBig := by
  rw [show u_ws RX9 TX9 9 = [u_lay RX9 TX9 0, u_lay RX9 TX9 1, u_lay RX9 TX9 2, u_lay RX9 TX9 3, u_lay RX9 TX9 4, u_lay RX9 TX9 5, u_lay RX9 TX9 6, u_lay RX9 TX9 7, u_lay RX9 TX9 8] from rfl]
  exact List.forall_mem_cons.mpr ⟨mB (mt2 (List.mem_of_getElem? (i := 147) (by decide +kernel))) rfl, List.forall_mem_cons.mpr ⟨mB (mt2 (List.mem_of_getElem? (i := 149) (by decide +kernel))) rfl, List.forall_mem_cons.mpr ⟨mB (mt2 (List.mem_of_getElem? (i := 151) (by decide +kernel))) rfl, List.forall_mem_cons.mpr ⟨mB (mt2 (List.mem_of_getElem? (i := 153) (by decide +kernel))) rfl, List.forall_mem_cons.mpr ⟨mB (mt2 (List.mem_of_getElem? (i := 155) (by decide +kernel))) rfl, List.forall_mem_cons.mpr ⟨mB (mt2 (List.mem_of_getElem? (i := 157) (by decide +kernel))) rfl, List.forall_mem_cons.mpr ⟨mB (mt2 (List.mem_of_getElem? (i := 159) (by decide +kernel))) rfl, List.forall_mem_cons.mpr ⟨mB (mt2 (List.mem_of_getElem? (i := 161) (by decide +kernel))) rfl, List.forall_mem_cons.mpr ⟨mB (mt2 (List.mem_of_getElem? (i := 163) (by decide +kernel))) rfl, fun _ h => absurd h List.not_mem_nil⟩⟩⟩⟩⟩⟩⟩⟩⟩
theorem fL10 : ∀ w ∈ u_ws RX10 TX10 21, w ∈ mBig := by
  rw [show u_ws RX10 TX10 21 = [u_lay RX10 TX10 0, u_lay RX10 TX10 1, u_lay RX10 TX10 2, u_lay RX10 TX10 3, u_lay RX10 TX10 4, u_lay RX10 TX10 5, u_lay RX10 TX10 6, u_lay RX10 TX10 7, u_lay RX10 TX10 8, u_lay RX10 TX10 9, u_lay RX10 TX10 10, u_lay RX10 TX10 11, u_lay RX10 TX10 12, u_lay RX10 TX10 13, u_lay RX10 TX10 14, u_lay RX10 TX10 15, u_lay RX10 TX10 16, u_lay RX10 TX10 17, u_lay RX10 TX10 18, u_lay RX10 TX10 19, u_lay RX10 TX10 20] from rfl]
  exact List.forall_mem_cons.mpr ⟨mB (mt5 (List.mem_of_getElem? (i := 39) (by decide +kernel))) rfl, List.forall_mem_cons.mpr ⟨mB (mt5 (List.mem_of_getElem? (i := 41) (by decide +kernel))) rfl, List.forall_mem_cons.mpr ⟨mB (mt5 (List.mem_of_getElem? (i := 43) (by decide +kernel))) rfl, List.forall_mem_cons.mpr ⟨mB (mt5 (List.mem_of_getElem? (i := 45) (by decide +kernel))) rfl, List.forall_mem_cons.mpr ⟨mB (mt5 (List.mem_of_getElem? (i := 47) (by decide +kernel))) rfl, List.forall_mem_cons.mpr ⟨mB (mt5 (List.mem_of_getElem? (i := 49) (by decide +kernel))) rfl, List.forall_mem_cons.mpr ⟨mB (mt5 (List.mem_of_getElem? (i := 51) (by decide +kernel))) rfl, List.forall_mem_cons.mpr ⟨mB (mt5 (List.mem_of_getElem? (i := 53) (by decide +kernel))) rfl, List.forall_mem_cons.mpr ⟨mB (mt5 (List.mem_of_getElem? (i := 55) (by decide +kernel))) rfl, List.forall_mem_cons.mpr ⟨mB (mt5 (List.mem_of_getElem? (i := 57) (by decide +kernel))) rfl, List.forall_mem_cons.mpr ⟨mB (mt5 (List.mem_of_getElem? (i := 59) (by decide +kernel))) rfl, List.forall_mem_cons.mpr ⟨mB (mt5 (List.mem_of_getElem? (i := 61) (by decide +kernel))) rfl, List.forall_mem_cons.mpr ⟨mB (mt5 (List.mem_of_getElem? (i := 63) (by decide +kernel))) rfl, List.forall_mem_cons.mpr ⟨mB (mt5 (List.mem_of_getElem? (i := 65) (by decide +kernel))) rfl, List.forall_mem_cons.mpr ⟨mB (mt5 (List.mem_of_getElem? (i := 67) (by decide +kernel))) rfl, List.forall_mem_cons.mpr ⟨mB (mt5 (List.mem_of_getElem? (i := 69) (by decide +kernel))) rfl, List.forall_mem_cons.mpr ⟨mB (mt5 (List.mem_of_getElem? (i := 71) (by decide +kernel))) rfl, List.forall_mem_cons.mpr ⟨mB (mt5 (List.mem_of_getElem? (i := 73) (by decide +kernel))) rfl, List.forall_mem_cons.mpr ⟨mB (mt5 (List.mem_of_getElem? (i := 75) (by decide +kernel))) rfl, List.forall_mem_cons.mpr ⟨mB (mt5 (List.mem_of_getElem? (i := 77) (by decide +kernel))) rfl, List.forall_mem_cons.mpr ⟨mB (mt5 (List.mem_of_getElem? (i := 79) (by decide +kernel))) rfl, fun _ h => absurd h List.not_mem_nil⟩⟩⟩⟩⟩⟩⟩⟩⟩⟩⟩⟩⟩⟩⟩⟩⟩⟩⟩⟩⟩
theorem fLay : ∀ k, k < 11 → ∀ w ∈ u_ws (cn k) (fT k) (fN k), w ∈ mBig
  | 0, _ => fL0
  | 1, _ => fL1
  | 2, _ => fL2
  | 3, _ => fL3
  | 4, _ => fL4
  | 5, _ => fL5
  | 6, _ => fL6
  | 7, _ => fL7
  | 8, _ => fL8
  | 9, _ => fL9
  | 10, _ => fL10
  | n + 11, h => by omega
def FLok (r : Nat × Nat × Nat × Nat) : Prop := (Cond.fieldLink (cn r.1) r.2.1 (cn r.2.2.1) (fT r.2.2.1 r.2.2.2).2.1 (fT r.2.2.1 r.2.2.2).2.2.1 ∈ mBig ∨ Cond.fieldLinkNest (cn r.1) r.2.1 (cn r.2.2.1) (fT r.2.2.1 r.2.2.2).2.1 (fT r.2.2.1 r.2.2.2).2.2.1 "SharedAir" ∈ tables_1) ∧ r.2.2.1 < 11 ∧ r.2.2.2 < fN r.2.2.1
theorem mu1 {w : Cond} (h : w ∈ tables_1_1) : w ∈ tables_1 := by unfold tables_1; exact List.mem_append_left _ h
theorem mu2 {w : Cond} (h : w ∈ tables_1_2) : w ∈ tables_1 := by unfold tables_1; exact List.mem_append_right _ (List.mem_append_left _ h)
theorem mu3 {w : Cond} (h : w ∈ tables_1_3) : w ∈ tables_1 := by unfold tables_1; exact List.mem_append_right _ (List.mem_append_right _ (List.mem_append_left _ h))
theorem mu4 {w : Cond} (h : w ∈ tables_1_4) : w ∈ tables_1 := by unfold tables_1; exact List.mem_append_right _ (List.mem_append_right _ (List.mem_append_right _ (List.mem_append_left _ h)))
theorem mu5 {w : Cond} (h : w ∈ tables_1_5) : w ∈ tables_1 := by unfold tables_1; exact List.mem_append_right _ (List.mem_append_right _ (List.mem_append_right _ (List.mem_append_right _ (List.mem_append_left _ h))))
theorem mu6 {w : Cond} (h : w ∈ tables_1_6) : w ∈ tables_1 := by unfold tables_1; exact List.mem_append_right _ (List.mem_append_right _ (List.mem_append_right _ (List.mem_append_right _ (List.mem_append_right _ (List.mem_append_left _ h)))))
theorem mu7 {w : Cond} (h : w ∈ tables_1_7) : w ∈ tables_1 := by unfold tables_1; exact List.mem_append_right _ (List.mem_append_right _ (List.mem_append_right _ (List.mem_append_right _ (List.mem_append_right _ (List.mem_append_right _ (h))))))
theorem fl_0 : FLok (0, 9, 0, 0) := ⟨Or.inl (mB (mt2 (List.mem_of_getElem? (i := 32) (by decide +kernel))) rfl), by decide, by decide⟩
theorem fl_1 : FLok (0, 18, 0, 1) := ⟨Or.inl (mB (mt2 (List.mem_of_getElem? (i := 34) (by decide +kernel))) rfl), by decide, by decide⟩
theorem fl_2 : FLok (0, 24, 0, 2) := ⟨Or.inl (mB (mt2 (List.mem_of_getElem? (i := 36) (by decide +kernel))) rfl), by decide, by decide⟩
theorem fl_3 : FLok (0, 37, 1, 0) := ⟨Or.inr (mu1 (List.mem_of_getElem? (i := 39) (by decide +kernel))), by decide, by decide⟩
theorem fl_4 : FLok (0, 42, 0, 3) := ⟨Or.inl (mB (mt2 (List.mem_of_getElem? (i := 38) (by decide +kernel))) rfl), by decide, by decide⟩
theorem fl_5 : FLok (0, 49, 0, 4) := ⟨Or.inl (mB (mt2 (List.mem_of_getElem? (i := 40) (by decide +kernel))) rfl), by decide, by decide⟩
theorem fl_6 : FLok (0, 52, 0, 5) := ⟨Or.inl (mB (mt2 (List.mem_of_getElem? (i := 42) (by decide +kernel))) rfl), by decide, by decide⟩
theorem fl_7 : FLok (0, 55, 0, 6) := ⟨Or.inl (mB (mt2 (List.mem_of_getElem? (i := 44) (by decide +kernel))) rfl), by decide, by decide⟩
theorem fl_8 : FLok (0, 58, 0, 7) := ⟨Or.inl (mB (mt2 (List.mem_of_getElem? (i := 46) (by decide +kernel))) rfl), by decide, by decide⟩
theorem fl_9 : FLok (0, 61, 0, 8) := ⟨Or.inl (mB (mt2 (List.mem_of_getElem? (i := 48) (by decide +kernel))) rfl), by decide, by decide⟩
theorem fl_10 : FLok (0, 64, 0, 9) := ⟨Or.inl (mB (mt2 (List.mem_of_getElem? (i := 50) (by decide +kernel))) rfl), by decide, by decide⟩
theorem fl_11 : FLok (0, 67, 0, 10) := ⟨Or.inl (mB (mt2 (List.mem_of_getElem? (i := 52) (by decide +kernel))) rfl), by decide, by decide⟩
theorem fl_12 : FLok (0, 70, 0, 11) := ⟨Or.inl (mB (mt2 (List.mem_of_getElem? (i := 54) (by decide +kernel))) rfl), by decide, by decide⟩
theorem fl_13 : FLok (0, 73, 0, 12) := ⟨Or.inl (mB (mt2 (List.mem_of_getElem? (i := 56) (by decide +kernel))) rfl), by decide, by decide⟩
theorem fl_14 : FLok (0, 81, 8, 6) := ⟨Or.inr (mu1 (List.mem_of_getElem? (i := 226) (by decide +kernel))), by decide, by decide⟩
theorem fl_15 : FLok (0, 84, 8, 3) := ⟨Or.inr (mu1 (List.mem_of_getElem? (i := 217) (by decide +kernel))), by decide, by decide⟩
theorem fl_16 : FLok (0, 87, 8, 4) := ⟨Or.inr (mu1 (List.mem_of_getElem? (i := 220) (by decide +kernel))), by decide, by decide⟩
theorem fl_17 : FLok (0, 90, 8, 5) := ⟨Or.inr (mu1 (List.mem_of_getElem? (i := 223) (by decide +kernel))), by decide, by decide⟩
theorem fl_18 : FLok (0, 93, 8, 0) := ⟨Or.inr (mu1 (List.mem_of_getElem? (i := 208) (by decide +kernel))), by decide, by decide⟩
theorem fl_19 : FLok (0, 97, 6, 1) := ⟨Or.inr (mu1 (List.mem_of_getElem? (i := 190) (by decide +kernel))), by decide, by decide⟩
theorem fl_20 : FLok (0, 102, 6, 3) := ⟨Or.inr (mu1 (List.mem_of_getElem? (i := 196) (by decide +kernel))), by decide, by decide⟩
theorem fl_21 : FLok (0, 105, 6, 2) := ⟨Or.inr (mu1 (List.mem_of_getElem? (i := 193) (by decide +kernel))), by decide, by decide⟩
theorem fl_22 : FLok (0, 108, 8, 7) := ⟨Or.inr (mu1 (List.mem_of_getElem? (i := 229) (by decide +kernel))), by decide, by decide⟩
theorem fl_23 : FLok (0, 111, 8, 8) := ⟨Or.inr (mu1 (List.mem_of_getElem? (i := 232) (by decide +kernel))), by decide, by decide⟩
theorem fl_24 : FLok (0, 114, 8, 9) := ⟨Or.inr (mu1 (List.mem_of_getElem? (i := 235) (by decide +kernel))), by decide, by decide⟩
theorem fl_25 : FLok (0, 117, 8, 10) := ⟨Or.inr (mu1 (List.mem_of_getElem? (i := 238) (by decide +kernel))), by decide, by decide⟩
theorem fl_26 : FLok (0, 120, 8, 1) := ⟨Or.inr (mu1 (List.mem_of_getElem? (i := 211) (by decide +kernel))), by decide, by decide⟩
theorem fl_27 : FLok (0, 124, 2, 0) := ⟨Or.inr (mu1 (List.mem_of_getElem? (i := 68) (by decide +kernel))), by decide, by decide⟩
theorem fl_28 : FLok (0, 133, 8, 2) := ⟨Or.inr (mu1 (List.mem_of_getElem? (i := 214) (by decide +kernel))), by decide, by decide⟩
theorem fl_29 : FLok (0, 142, 3, 0) := ⟨Or.inr (mu1 (List.mem_of_getElem? (i := 135) (by decide +kernel))), by decide, by decide⟩
theorem fl_30 : FLok (0, 161, 6, 0) := ⟨Or.inr (mu1 (List.mem_of_getElem? (i := 186) (by decide +kernel))), by decide, by decide⟩
theorem fl_31 : FLok (0, 188, 2, 1) := ⟨Or.inr (mu1 (List.mem_of_getElem? (i := 72) (by decide +kernel))), by decide, by decide⟩
theorem fl_32 : FLok (0, 191, 2, 5) := ⟨Or.inr (mu1 (List.mem_of_getElem? (i := 84) (by decide +kernel))), by decide, by decide⟩
theorem fl_33 : FLok (0, 223, 2, 2) := ⟨Or.inr (mu1 (List.mem_of_getElem? (i := 75) (by decide +kernel))), by decide, by decide⟩
theorem fl_34 : FLok (0, 229, 2, 3) := ⟨Or.inr (mu1 (List.mem_of_getElem? (i := 78) (by decide +kernel))), by decide, by decide⟩
theorem fl_35 : FLok (0, 231, 2, 4) := ⟨Or.inr (mu1 (List.mem_of_getElem? (i := 81) (by decide +kernel))), by decide, by decide⟩
theorem fl_36 : FLok (0, 238, 2, 6) := ⟨Or.inr (mu1 (List.mem_of_getElem? (i := 87) (by decide +kernel))), by decide, by decide⟩
theorem fl_37 : FLok (0, 241, 2, 8) := ⟨Or.inr (mu1 (List.mem_of_getElem? (i := 92) (by decide +kernel))), by decide, by decide⟩
theorem fl_38 : FLok (0, 244, 2, 7) := ⟨Or.inr (mu1 (List.mem_of_getElem? (i := 90) (by decide +kernel))), by decide, by decide⟩
theorem fl_39 : FLok (0, 247, 2, 9) := ⟨Or.inr (mu1 (List.mem_of_getElem? (i := 94) (by decide +kernel))), by decide, by decide⟩
theorem fl_40 : FLok (0, 250, 2, 10) := ⟨Or.inr (mu1 (List.mem_of_getElem? (i := 96) (by decide +kernel))), by decide, by decide⟩
theorem fl_41 : FLok (0, 253, 2, 11) := ⟨Or.inr (mu1 (List.mem_of_getElem? (i := 98) (by decide +kernel))), by decide, by decide⟩
theorem fl_42 : FLok (0, 256, 2, 12) := ⟨Or.inr (mu1 (List.mem_of_getElem? (i := 100) (by decide +kernel))), by decide, by decide⟩
theorem fl_43 : FLok (0, 267, 8, 12) := ⟨Or.inr (mu2 (List.mem_of_getElem? (i := 4) (by decide +kernel))), by decide, by decide⟩
theorem fl_44 : FLok (0, 278, 3, 6) := ⟨Or.inr (mu1 (List.mem_of_getElem? (i := 154) (by decide +kernel))), by decide, by decide⟩
theorem fl_45 : FLok (0, 281, 3, 7) := ⟨Or.inr (mu1 (List.mem_of_getElem? (i := 157) (by decide +kernel))), by decide, by decide⟩
theorem fl_46 : FLok (0, 284, 3, 8) := ⟨Or.inr (mu1 (List.mem_of_getElem? (i := 160) (by decide +kernel))), by decide, by decide⟩
theorem fl_47 : FLok (0, 304, 3, 2) := ⟨Or.inr (mu1 (List.mem_of_getElem? (i := 142) (by decide +kernel))), by decide, by decide⟩
theorem fl_48 : FLok (0, 315, 3, 1) := ⟨Or.inr (mu1 (List.mem_of_getElem? (i := 139) (by decide +kernel))), by decide, by decide⟩
theorem fl_49 : FLok (0, 333, 3, 3) := ⟨Or.inr (mu1 (List.mem_of_getElem? (i := 145) (by decide +kernel))), by decide, by decide⟩
theorem fl_50 : FLok (0, 334, 3, 4) := ⟨Or.inr (mu1 (List.mem_of_getElem? (i := 148) (by decide +kernel))), by decide, by decide⟩
theorem fl_51 : FLok (0, 337, 3, 5) := ⟨Or.inr (mu1 (List.mem_of_getElem? (i := 151) (by decide +kernel))), by decide, by decide⟩
theorem fl_52 : FLok (1, 7, 1, 0) := ⟨Or.inl (mB (mt1 (List.mem_of_getElem? (i := 40) (by decide +kernel))) rfl), by decide, by decide⟩
theorem fl_53 : FLok (2, 9, 2, 0) := ⟨Or.inl (mB (mt1 (List.mem_of_getElem? (i := 66) (by decide +kernel))) rfl), by decide, by decide⟩
theorem fl_54 : FLok (2, 15, 2, 1) := ⟨Or.inl (mB (mt1 (List.mem_of_getElem? (i := 70) (by decide +kernel))) rfl), by decide, by decide⟩
theorem fl_55 : FLok (2, 19, 2, 2) := ⟨Or.inl (mB (mt1 (List.mem_of_getElem? (i := 73) (by decide +kernel))) rfl), by decide, by decide⟩
theorem fl_56 : FLok (2, 22, 2, 3) := ⟨Or.inl (mB (mt1 (List.mem_of_getElem? (i := 76) (by decide +kernel))) rfl), by decide, by decide⟩
theorem fl_57 : FLok (2, 25, 2, 4) := ⟨Or.inl (mB (mt1 (List.mem_of_getElem? (i := 79) (by decide +kernel))) rfl), by decide, by decide⟩
theorem fl_58 : FLok (2, 28, 2, 5) := ⟨Or.inl (mB (mt1 (List.mem_of_getElem? (i := 82) (by decide +kernel))) rfl), by decide, by decide⟩
theorem fl_59 : FLok (2, 31, 2, 6) := ⟨Or.inl (mB (mt1 (List.mem_of_getElem? (i := 85) (by decide +kernel))) rfl), by decide, by decide⟩
theorem fl_60 : FLok (2, 34, 2, 7) := ⟨Or.inl (mB (mt1 (List.mem_of_getElem? (i := 88) (by decide +kernel))) rfl), by decide, by decide⟩
theorem fl_61 : FLok (2, 37, 2, 8) := ⟨Or.inl (mB (mt1 (List.mem_of_getElem? (i := 91) (by decide +kernel))) rfl), by decide, by decide⟩
theorem fl_62 : FLok (2, 40, 2, 9) := ⟨Or.inl (mB (mt1 (List.mem_of_getElem? (i := 93) (by decide +kernel))) rfl), by decide, by decide⟩
theorem fl_63 : FLok (2, 43, 2, 10) := ⟨Or.inl (mB (mt1 (List.mem_of_getElem? (i := 95) (by decide +kernel))) rfl), by decide, by decide⟩
theorem fl_64 : FLok (2, 46, 2, 11) := ⟨Or.inl (mB (mt1 (List.mem_of_getElem? (i := 97) (by decide +kernel))) rfl), by decide, by decide⟩
theorem fl_65 : FLok (2, 49, 2, 12) := ⟨Or.inl (mB (mt1 (List.mem_of_getElem? (i := 99) (by decide +kernel))) rfl), by decide, by decide⟩
theorem fl_66 : FLok (3, 9, 3, 0) := ⟨Or.inl (mB (mt1 (List.mem_of_getElem? (i := 134) (by decide +kernel))) rfl), by decide, by decide⟩
theorem fl_67 : FLok (3, 15, 3, 1) := ⟨Or.inl (mB (mt1 (List.mem_of_getElem? (i := 137) (by decide +kernel))) rfl), by decide, by decide⟩
theorem fl_68 : FLok (3, 24, 3, 2) := ⟨Or.inl (mB (mt1 (List.mem_of_getElem? (i := 140) (by decide +kernel))) rfl), by decide, by decide⟩
theorem fl_69 : FLok (3, 28, 3, 3) := ⟨Or.inl (mB (mt1 (List.mem_of_getElem? (i := 143) (by decide +kernel))) rfl), by decide, by decide⟩
theorem fl_70 : FLok (3, 31, 3, 4) := ⟨Or.inl (mB (mt1 (List.mem_of_getElem? (i := 146) (by decide +kernel))) rfl), by decide, by decide⟩
theorem fl_71 : FLok (3, 34, 3, 5) := ⟨Or.inl (mB (mt1 (List.mem_of_getElem? (i := 149) (by decide +kernel))) rfl), by decide, by decide⟩
theorem fl_72 : FLok (3, 37, 3, 6) := ⟨Or.inl (mB (mt1 (List.mem_of_getElem? (i := 152) (by decide +kernel))) rfl), by decide, by decide⟩
theorem fl_73 : FLok (3, 40, 3, 7) := ⟨Or.inl (mB (mt1 (List.mem_of_getElem? (i := 155) (by decide +kernel))) rfl), by decide, by decide⟩
theorem fl_74 : FLok (3, 43, 3, 8) := ⟨Or.inl (mB (mt1 (List.mem_of_getElem? (i := 158) (by decide +kernel))) rfl), by decide, by decide⟩
theorem fl_75 : FLok (4, 9, 4, 0) := ⟨Or.inl (mB (mt2 (List.mem_of_getElem? (i := 128) (by decide +kernel))) rfl), by decide, by decide⟩
theorem fl_76 : FLok (4, 15, 4, 1) := ⟨Or.inl (mB (mt2 (List.mem_of_getElem? (i := 130) (by decide +kernel))) rfl), by decide, by decide⟩
theorem fl_77 : FLok (5, 11, 5, 0) := ⟨Or.inl (mB (mt2 (List.mem_of_getElem? (i := 96) (by decide +kernel))) rfl), by decide, by decide⟩
theorem fl_78 : FLok (5, 18, 5, 2) := ⟨Or.inl (mB (mt2 (List.mem_of_getElem? (i := 99) (by decide +kernel))) rfl), by decide, by decide⟩
theorem fl_79 : FLok (5, 26, 5, 1) := ⟨Or.inl (mB (mt2 (List.mem_of_getElem? (i := 97) (by decide +kernel))) rfl), by decide, by decide⟩
theorem fl_80 : FLok (6, 9, 6, 0) := ⟨Or.inl (mB (mt1 (List.mem_of_getElem? (i := 185) (by decide +kernel))) rfl), by decide, by decide⟩
theorem fl_81 : FLok (6, 21, 6, 1) := ⟨Or.inl (mB (mt1 (List.mem_of_getElem? (i := 188) (by decide +kernel))) rfl), by decide, by decide⟩
theorem fl_82 : FLok (6, 25, 6, 2) := ⟨Or.inl (mB (mt1 (List.mem_of_getElem? (i := 192) (by decide +kernel))) rfl), by decide, by decide⟩
theorem fl_83 : FLok (6, 28, 6, 3) := ⟨Or.inl (mB (mt1 (List.mem_of_getElem? (i := 195) (by decide +kernel))) rfl), by decide, by decide⟩
theorem fl_84 : FLok (7, 9, 7, 0) := ⟨Or.inl (mB (mt2 (List.mem_of_getElem? (i := 113) (by decide +kernel))) rfl), by decide, by decide⟩
theorem fl_85 : FLok (7, 15, 7, 1) := ⟨Or.inl (mB (mt2 (List.mem_of_getElem? (i := 114) (by decide +kernel))) rfl), by decide, by decide⟩
theorem fl_86 : FLok (8, 11, 8, 0) := ⟨Or.inl (mB (mt1 (List.mem_of_getElem? (i := 207) (by decide +kernel))) rfl), by decide, by decide⟩
theorem fl_87 : FLok (8, 20, 8, 1) := ⟨Or.inl (mB (mt1 (List.mem_of_getElem? (i := 210) (by decide +kernel))) rfl), by decide, by decide⟩
theorem fl_88 : FLok (8, 27, 8, 2) := ⟨Or.inl (mB (mt1 (List.mem_of_getElem? (i := 213) (by decide +kernel))) rfl), by decide, by decide⟩
theorem fl_89 : FLok (8, 31, 8, 3) := ⟨Or.inl (mB (mt1 (List.mem_of_getElem? (i := 216) (by decide +kernel))) rfl), by decide, by decide⟩
theorem fl_90 : FLok (8, 35, 8, 4) := ⟨Or.inl (mB (mt1 (List.mem_of_getElem? (i := 219) (by decide +kernel))) rfl), by decide, by decide⟩
theorem fl_91 : FLok (8, 38, 8, 5) := ⟨Or.inl (mB (mt1 (List.mem_of_getElem? (i := 222) (by decide +kernel))) rfl), by decide, by decide⟩
theorem fl_92 : FLok (8, 41, 8, 11) := ⟨Or.inl (mB (mt2 (List.mem_of_getElem? (i := 0) (by decide +kernel))) rfl), by decide, by decide⟩
theorem fl_93 : FLok (8, 62, 8, 6) := ⟨Or.inl (mB (mt1 (List.mem_of_getElem? (i := 225) (by decide +kernel))) rfl), by decide, by decide⟩
theorem fl_94 : FLok (8, 65, 8, 7) := ⟨Or.inl (mB (mt1 (List.mem_of_getElem? (i := 228) (by decide +kernel))) rfl), by decide, by decide⟩
theorem fl_95 : FLok (8, 68, 8, 8) := ⟨Or.inl (mB (mt1 (List.mem_of_getElem? (i := 231) (by decide +kernel))) rfl), by decide, by decide⟩
theorem fl_96 : FLok (8, 71, 8, 9) := ⟨Or.inl (mB (mt1 (List.mem_of_getElem? (i := 234) (by decide +kernel))) rfl), by decide, by decide⟩
theorem fl_97 : FLok (8, 74, 8, 10) := ⟨Or.inl (mB (mt1 (List.mem_of_getElem? (i := 237) (by decide +kernel))) rfl), by decide, by decide⟩
theorem fl_98 : FLok (8, 77, 8, 12) := ⟨Or.inl (mB (mt2 (List.mem_of_getElem? (i := 2) (by decide +kernel))) rfl), by decide, by decide⟩
theorem fl_99 : FLok (8, 80, 2, 0) := ⟨Or.inr (mu1 (List.mem_of_getElem? (i := 67) (by decide +kernel))), by decide, by decide⟩
theorem fl_100 : FLok (8, 84, 6, 1) := ⟨Or.inr (mu1 (List.mem_of_getElem? (i := 189) (by decide +kernel))), by decide, by decide⟩
theorem fl_101 : FLok (9, 10, 9, 0) := ⟨Or.inl (mB (mt2 (List.mem_of_getElem? (i := 138) (by decide +kernel))) rfl), by decide, by decide⟩
theorem fl_102 : FLok (9, 16, 9, 1) := ⟨Or.inl (mB (mt2 (List.mem_of_getElem? (i := 139) (by decide +kernel))) rfl), by decide, by decide⟩
theorem fl_103 : FLok (9, 22, 9, 2) := ⟨Or.inl (mB (mt2 (List.mem_of_getElem? (i := 140) (by decide +kernel))) rfl), by decide, by decide⟩
theorem fl_104 : FLok (9, 29, 9, 3) := ⟨Or.inl (mB (mt2 (List.mem_of_getElem? (i := 141) (by decide +kernel))) rfl), by decide, by decide⟩
theorem fl_105 : FLok (9, 33, 9, 4) := ⟨Or.inl (mB (mt2 (List.mem_of_getElem? (i := 142) (by decide +kernel))) rfl), by decide, by decide⟩
theorem fl_106 : FLok (9, 37, 9, 5) := ⟨Or.inl (mB (mt2 (List.mem_of_getElem? (i := 143) (by decide +kernel))) rfl), by decide, by decide⟩
theorem fl_107 : FLok (9, 44, 9, 6) := ⟨Or.inl (mB (mt2 (List.mem_of_getElem? (i := 144) (by decide +kernel))) rfl), by decide, by decide⟩
theorem fl_108 : FLok (9, 51, 9, 7) := ⟨Or.inl (mB (mt2 (List.mem_of_getElem? (i := 145) (by decide +kernel))) rfl), by decide, by decide⟩
theorem fl_109 : FLok (9, 55, 9, 8) := ⟨Or.inl (mB (mt2 (List.mem_of_getElem? (i := 146) (by decide +kernel))) rfl), by decide, by decide⟩
theorem fl_110 : FLok (9, 63, 7, 1) := ⟨Or.inr (mu2 (List.mem_of_getElem? (i := 115) (by decide +kernel))), by decide, by decide⟩
theorem fl_111 : FLok (9, 86, 0, 1) := ⟨Or.inr (mu2 (List.mem_of_getElem? (i := 35) (by decide +kernel))), by decide, by decide⟩
theorem fl_112 : FLok (9, 89, 1, 0) := ⟨Or.inr (mu1 (List.mem_of_getElem? (i := 41) (by decide +kernel))), by decide, by decide⟩
theorem fl_113 : FLok (9, 95, 0, 0) := ⟨Or.inr (mu2 (List.mem_of_getElem? (i := 33) (by decide +kernel))), by decide, by decide⟩
theorem fl_114 : FLok (9, 112, 0, 3) := ⟨Or.inr (mu2 (List.mem_of_getElem? (i := 39) (by decide +kernel))), by decide, by decide⟩
theorem fl_115 : FLok (9, 146, 0, 2) := ⟨Or.inr (mu2 (List.mem_of_getElem? (i := 37) (by decide +kernel))), by decide, by decide⟩
theorem fl_116 : FLok (9, 150, 8, 7) := ⟨Or.inr (mu1 (List.mem_of_getElem? (i := 230) (by decide +kernel))), by decide, by decide⟩
theorem fl_117 : FLok (9, 155, 8, 8) := ⟨Or.inr (mu1 (List.mem_of_getElem? (i := 233) (by decide +kernel))), by decide, by decide⟩
theorem fl_118 : FLok (9, 162, 8, 11) := ⟨Or.inr (mu2 (List.mem_of_getElem? (i := 1) (by decide +kernel))), by decide, by decide⟩
theorem fl_119 : FLok (9, 165, 8, 12) := ⟨Or.inr (mu2 (List.mem_of_getElem? (i := 3) (by decide +kernel))), by decide, by decide⟩
theorem fl_120 : FLok (9, 168, 8, 6) := ⟨Or.inr (mu1 (List.mem_of_getElem? (i := 227) (by decide +kernel))), by decide, by decide⟩
theorem fl_121 : FLok (9, 174, 8, 0) := ⟨Or.inr (mu1 (List.mem_of_getElem? (i := 209) (by decide +kernel))), by decide, by decide⟩
theorem fl_122 : FLok (9, 178, 6, 1) := ⟨Or.inr (mu1 (List.mem_of_getElem? (i := 191) (by decide +kernel))), by decide, by decide⟩
theorem fl_123 : FLok (9, 183, 6, 3) := ⟨Or.inr (mu1 (List.mem_of_getElem? (i := 197) (by decide +kernel))), by decide, by decide⟩
theorem fl_124 : FLok (9, 186, 6, 2) := ⟨Or.inr (mu1 (List.mem_of_getElem? (i := 194) (by decide +kernel))), by decide, by decide⟩
theorem fl_125 : FLok (9, 193, 6, 0) := ⟨Or.inr (mu1 (List.mem_of_getElem? (i := 187) (by decide +kernel))), by decide, by decide⟩
theorem fl_126 : FLok (9, 196, 8, 1) := ⟨Or.inr (mu1 (List.mem_of_getElem? (i := 212) (by decide +kernel))), by decide, by decide⟩
theorem fl_127 : FLok (9, 200, 2, 0) := ⟨Or.inr (mu1 (List.mem_of_getElem? (i := 69) (by decide +kernel))), by decide, by decide⟩
theorem fl_128 : FLok (9, 206, 2, 1) := ⟨Or.inr (mu1 (List.mem_of_getElem? (i := 71) (by decide +kernel))), by decide, by decide⟩
theorem fl_129 : FLok (9, 209, 2, 2) := ⟨Or.inr (mu1 (List.mem_of_getElem? (i := 74) (by decide +kernel))), by decide, by decide⟩
theorem fl_130 : FLok (9, 212, 2, 3) := ⟨Or.inr (mu1 (List.mem_of_getElem? (i := 77) (by decide +kernel))), by decide, by decide⟩
theorem fl_131 : FLok (9, 214, 2, 4) := ⟨Or.inr (mu1 (List.mem_of_getElem? (i := 80) (by decide +kernel))), by decide, by decide⟩
theorem fl_132 : FLok (9, 217, 2, 5) := ⟨Or.inr (mu1 (List.mem_of_getElem? (i := 83) (by decide +kernel))), by decide, by decide⟩
theorem fl_133 : FLok (9, 220, 2, 6) := ⟨Or.inr (mu1 (List.mem_of_getElem? (i := 86) (by decide +kernel))), by decide, by decide⟩
theorem fl_134 : FLok (9, 223, 2, 7) := ⟨Or.inr (mu1 (List.mem_of_getElem? (i := 89) (by decide +kernel))), by decide, by decide⟩
theorem fl_135 : FLok (9, 226, 0, 4) := ⟨Or.inr (mu2 (List.mem_of_getElem? (i := 41) (by decide +kernel))), by decide, by decide⟩
theorem fl_136 : FLok (9, 229, 0, 6) := ⟨Or.inr (mu2 (List.mem_of_getElem? (i := 45) (by decide +kernel))), by decide, by decide⟩
theorem fl_137 : FLok (9, 232, 0, 7) := ⟨Or.inr (mu2 (List.mem_of_getElem? (i := 47) (by decide +kernel))), by decide, by decide⟩
theorem fl_138 : FLok (9, 239, 0, 5) := ⟨Or.inr (mu2 (List.mem_of_getElem? (i := 43) (by decide +kernel))), by decide, by decide⟩
theorem fl_139 : FLok (9, 242, 8, 10) := ⟨Or.inr (mu1 (List.mem_of_getElem? (i := 239) (by decide +kernel))), by decide, by decide⟩
theorem fl_140 : FLok (9, 245, 8, 9) := ⟨Or.inr (mu1 (List.mem_of_getElem? (i := 236) (by decide +kernel))), by decide, by decide⟩
theorem fl_141 : FLok (9, 251, 8, 5) := ⟨Or.inr (mu1 (List.mem_of_getElem? (i := 224) (by decide +kernel))), by decide, by decide⟩
theorem fl_142 : FLok (9, 254, 8, 3) := ⟨Or.inr (mu1 (List.mem_of_getElem? (i := 218) (by decide +kernel))), by decide, by decide⟩
theorem fl_143 : FLok (9, 257, 8, 4) := ⟨Or.inr (mu1 (List.mem_of_getElem? (i := 221) (by decide +kernel))), by decide, by decide⟩
theorem fl_144 : FLok (9, 269, 4, 1) := ⟨Or.inr (mu2 (List.mem_of_getElem? (i := 131) (by decide +kernel))), by decide, by decide⟩
theorem fl_145 : FLok (9, 270, 8, 2) := ⟨Or.inr (mu1 (List.mem_of_getElem? (i := 215) (by decide +kernel))), by decide, by decide⟩
theorem fl_146 : FLok (9, 274, 3, 0) := ⟨Or.inr (mu1 (List.mem_of_getElem? (i := 136) (by decide +kernel))), by decide, by decide⟩
theorem fl_147 : FLok (9, 279, 3, 3) := ⟨Or.inr (mu1 (List.mem_of_getElem? (i := 144) (by decide +kernel))), by decide, by decide⟩
theorem fl_148 : FLok (9, 282, 3, 4) := ⟨Or.inr (mu1 (List.mem_of_getElem? (i := 147) (by decide +kernel))), by decide, by decide⟩
theorem fl_149 : FLok (9, 285, 3, 5) := ⟨Or.inr (mu1 (List.mem_of_getElem? (i := 150) (by decide +kernel))), by decide, by decide⟩
theorem fl_150 : FLok (9, 288, 3, 2) := ⟨Or.inr (mu1 (List.mem_of_getElem? (i := 141) (by decide +kernel))), by decide, by decide⟩
theorem fl_151 : FLok (9, 294, 3, 1) := ⟨Or.inr (mu1 (List.mem_of_getElem? (i := 138) (by decide +kernel))), by decide, by decide⟩
theorem fl_152 : FLok (9, 297, 3, 6) := ⟨Or.inr (mu1 (List.mem_of_getElem? (i := 153) (by decide +kernel))), by decide, by decide⟩
theorem fl_153 : FLok (9, 300, 3, 7) := ⟨Or.inr (mu1 (List.mem_of_getElem? (i := 156) (by decide +kernel))), by decide, by decide⟩
theorem fl_154 : FLok (9, 303, 3, 8) := ⟨Or.inr (mu1 (List.mem_of_getElem? (i := 159) (by decide +kernel))), by decide, by decide⟩
theorem fl_155 : FLok (9, 309, 0, 10) := ⟨Or.inr (mu2 (List.mem_of_getElem? (i := 53) (by decide +kernel))), by decide, by decide⟩
theorem fl_156 : FLok (9, 312, 0, 11) := ⟨Or.inr (mu2 (List.mem_of_getElem? (i := 55) (by decide +kernel))), by decide, by decide⟩
theorem fl_157 : FLok (9, 315, 0, 9) := ⟨Or.inr (mu2 (List.mem_of_getElem? (i := 51) (by decide +kernel))), by decide, by decide⟩
theorem fl_158 : FLok (9, 331, 0, 8) := ⟨Or.inr (mu2 (List.mem_of_getElem? (i := 49) (by decide +kernel))), by decide, by decide⟩
theorem fl_159 : FLok (9, 350, 5, 1) := ⟨Or.inr (mu2 (List.mem_of_getElem? (i := 98) (by decide +kernel))), by decide, by decide⟩
theorem fl_160 : FLok (9, 357, 4, 0) := ⟨Or.inr (mu2 (List.mem_of_getElem? (i := 129) (by decide +kernel))), by decide, by decide⟩
theorem fl_161 : FLok (9, 368, 0, 12) := ⟨Or.inr (mu2 (List.mem_of_getElem? (i := 57) (by decide +kernel))), by decide, by decide⟩
theorem fl_162 : FLok (10, 9, 10, 0) := ⟨Or.inl (mB (mt5 (List.mem_of_getElem? (i := 18) (by decide +kernel))) rfl), by decide, by decide⟩
theorem fl_163 : FLok (10, 13, 10, 1) := ⟨Or.inl (mB (mt5 (List.mem_of_getElem? (i := 19) (by decide +kernel))) rfl), by decide, by decide⟩
theorem fl_164 : FLok (10, 17, 10, 3) := ⟨Or.inl (mB (mt5 (List.mem_of_getElem? (i := 21) (by decide +kernel))) rfl), by decide, by decide⟩
theorem fl_165 : FLok (10, 21, 10, 9) := ⟨Or.inl (mB (mt5 (List.mem_of_getElem? (i := 27) (by decide +kernel))) rfl), by decide, by decide⟩
theorem fl_166 : FLok (10, 24, 10, 10) := ⟨Or.inl (mB (mt5 (List.mem_of_getElem? (i := 28) (by decide +kernel))) rfl), by decide, by decide⟩
theorem fl_167 : FLok (10, 27, 10, 11) := ⟨Or.inl (mB (mt5 (List.mem_of_getElem? (i := 29) (by decide +kernel))) rfl), by decide, by decide⟩
theorem fl_168 : FLok (10, 30, 10, 13) := ⟨Or.inl (mB (mt5 (List.mem_of_getElem? (i := 31) (by decide +kernel))) rfl), by decide, by decide⟩
theorem fl_169 : FLok (10, 33, 10, 14) := ⟨Or.inl (mB (mt5 (List.mem_of_getElem? (i := 32) (by decide +kernel))) rfl), by decide, by decide⟩
theorem fl_170 : FLok (10, 36, 10, 15) := ⟨Or.inl (mB (mt5 (List.mem_of_getElem? (i := 33) (by decide +kernel))) rfl), by decide, by decide⟩
theorem fl_171 : FLok (10, 39, 10, 16) := ⟨Or.inl (mB (mt5 (List.mem_of_getElem? (i := 34) (by decide +kernel))) rfl), by decide, by decide⟩
theorem fl_172 : FLok (10, 42, 10, 19) := ⟨Or.inl (mB (mt5 (List.mem_of_getElem? (i := 37) (by decide +kernel))) rfl), by decide, by decide⟩
theorem fl_173 : FLok (10, 45, 10, 20) := ⟨Or.inl (mB (mt5 (List.mem_of_getElem? (i := 38) (by decide +kernel))) rfl), by decide, by decide⟩
theorem fl_174 : FLok (10, 52, 10, 5) := ⟨Or.inl (mB (mt5 (List.mem_of_getElem? (i := 23) (by decide +kernel))) rfl), by decide, by decide⟩
theorem fl_175 : FLok (10, 56, 10, 4) := ⟨Or.inl (mB (mt5 (List.mem_of_getElem? (i := 22) (by decide +kernel))) rfl), by decide, by decide⟩
theorem fl_176 : FLok (10, 71, 10, 2) := ⟨Or.inl (mB (mt5 (List.mem_of_getElem? (i := 20) (by decide +kernel))) rfl), by decide, by decide⟩
theorem fl_177 : FLok (10, 74, 10, 6) := ⟨Or.inl (mB (mt5 (List.mem_of_getElem? (i := 24) (by decide +kernel))) rfl), by decide, by decide⟩
theorem fl_178 : FLok (10, 77, 10, 7) := ⟨Or.inl (mB (mt5 (List.mem_of_getElem? (i := 25) (by decide +kernel))) rfl), by decide, by decide⟩
theorem fl_179 : FLok (10, 79, 10, 8) := ⟨Or.inl (mB (mt5 (List.mem_of_getElem? (i := 26) (by decide +kernel))) rfl), by decide, by decide⟩
theorem fl_180 : FLok (10, 186, 10, 12) := ⟨Or.inl (mB (mt5 (List.mem_of_getElem? (i := 30) (by decide +kernel))) rfl), by decide, by decide⟩
theorem fl_181 : FLok (10, 297, 10, 17) := ⟨Or.inl (mB (mt5 (List.mem_of_getElem? (i := 35) (by decide +kernel))) rfl), by decide, by decide⟩
theorem fl_182 : FLok (10, 300, 10, 18) := ⟨Or.inl (mB (mt5 (List.mem_of_getElem? (i := 36) (by decide +kernel))) rfl), by decide, by decide⟩
def FL : List (Nat × Nat × Nat × Nat) := [(0, 9, 0, 0), (0, 18, 0, 1), (0, 24, 0, 2), (0, 37, 1, 0), (0, 42, 0, 3), (0, 49, 0, 4), (0, 52, 0, 5), (0, 55, 0, 6), (0, 58, 0, 7), (0, 61, 0, 8), (0, 64, 0, 9), (0, 67, 0, 10), (0, 70, 0, 11), (0, 73, 0, 12), (0, 81, 8, 6), (0, 84, 8, 3), (0, 87, 8, 4), (0, 90, 8, 5), (0, 93, 8, 0), (0, 97, 6, 1), (0, 102, 6, 3), (0, 105, 6, 2), (0, 108, 8, 7), (0, 111, 8, 8), (0, 114, 8, 9), (0, 117, 8, 10), (0, 120, 8, 1), (0, 124, 2, 0), (0, 133, 8, 2), (0, 142, 3, 0), (0, 161, 6, 0), (0, 188, 2, 1), (0, 191, 2, 5), (0, 223, 2, 2), (0, 229, 2, 3), (0, 231, 2, 4), (0, 238, 2, 6), (0, 241, 2, 8), (0, 244, 2, 7), (0, 247, 2, 9), (0, 250, 2, 10), (0, 253, 2, 11), (0, 256, 2, 12), (0, 267, 8, 12), (0, 278, 3, 6), (0, 281, 3, 7), (0, 284, 3, 8), (0, 304, 3, 2), (0, 315, 3, 1), (0, 333, 3, 3), (0, 334, 3, 4), (0, 337, 3, 5), (1, 7, 1, 0), (2, 9, 2, 0), (2, 15, 2, 1), (2, 19, 2, 2), (2, 22, 2, 3), (2, 25, 2, 4), (2, 28, 2, 5), (2, 31, 2, 6), (2, 34, 2, 7), (2, 37, 2, 8), (2, 40, 2, 9), (2, 43, 2, 10), (2, 46, 2, 11), (2, 49, 2, 12), (3, 9, 3, 0), (3, 15, 3, 1), (3, 24, 3, 2), (3, 28, 3, 3), (3, 31, 3, 4), (3, 34, 3, 5), (3, 37, 3, 6), (3, 40, 3, 7), (3, 43, 3, 8), (4, 9, 4, 0), (4, 15, 4, 1), (5, 11, 5, 0), (5, 18, 5, 2), (5, 26, 5, 1), (6, 9, 6, 0), (6, 21, 6, 1), (6, 25, 6, 2), (6, 28, 6, 3), (7, 9, 7, 0), (7, 15, 7, 1), (8, 11, 8, 0), (8, 20, 8, 1), (8, 27, 8, 2), (8, 31, 8, 3), (8, 35, 8, 4), (8, 38, 8, 5), (8, 41, 8, 11), (8, 62, 8, 6), (8, 65, 8, 7), (8, 68, 8, 8), (8, 71, 8, 9), (8, 74, 8, 10), (8, 77, 8, 12), (8, 80, 2, 0), (8, 84, 6, 1), (9, 10, 9, 0), (9, 16, 9, 1), (9, 22, 9, 2), (9, 29, 9, 3), (9, 33, 9, 4), (9, 37, 9, 5), (9, 44, 9, 6), (9, 51, 9, 7), (9, 55, 9, 8), (9, 63, 7, 1), (9, 86, 0, 1), (9, 89, 1, 0), (9, 95, 0, 0), (9, 112, 0, 3), (9, 146, 0, 2), (9, 150, 8, 7), (9, 155, 8, 8), (9, 162, 8, 11), (9, 165, 8, 12), (9, 168, 8, 6), (9, 174, 8, 0), (9, 178, 6, 1), (9, 183, 6, 3), (9, 186, 6, 2), (9, 193, 6, 0), (9, 196, 8, 1), (9, 200, 2, 0), (9, 206, 2, 1), (9, 209, 2, 2), (9, 212, 2, 3), (9, 214, 2, 4), (9, 217, 2, 5), (9, 220, 2, 6), (9, 223, 2, 7), (9, 226, 0, 4), (9, 229, 0, 6), (9, 232, 0, 7), (9, 239, 0, 5), (9, 242, 8, 10), (9, 245, 8, 9), (9, 251, 8, 5), (9, 254, 8, 3), (9, 257, 8, 4), (9, 269, 4, 1), (9, 270, 8, 2), (9, 274, 3, 0), (9, 279, 3, 3), (9, 282, 3, 4), (9, 285, 3, 5), (9, 288, 3, 2), (9, 294, 3, 1), (9, 297, 3, 6), (9, 300, 3, 7), (9, 303, 3, 8), (9, 309, 0, 10), (9, 312, 0, 11), (9, 315, 0, 9), (9, 331, 0, 8), (9, 350, 5, 1), (9, 357, 4, 0), (9, 368, 0, 12), (10, 9, 10, 0), (10, 13, 10, 1), (10, 17, 10, 3), (10, 21, 10, 9), (10, 24, 10, 10), (10, 27, 10, 11), (10, 30, 10, 13), (10, 33, 10, 14), (10, 36, 10, 15), (10, 39, 10, 16), (10, 42, 10, 19), (10, 45, 10, 20), (10, 52, 10, 5), (10, 56, 10, 4), (10, 71, 10, 2), (10, 74, 10, 6), (10, 77, 10, 7), (10, 79, 10, 8), (10, 186, 10, 12), (10, 297, 10, 17), (10, 300, 10, 18)]
theorem FL_c0 : ∀ r ∈ ([(0, 9, 0, 0), (0, 18, 0, 1), (0, 24, 0, 2), (0, 37, 1, 0), (0, 42, 0, 3), (0, 49, 0, 4), (0, 52, 0, 5), (0, 55, 0, 6), (0, 58, 0, 7), (0, 61, 0, 8), (0, 64, 0, 9), (0, 67, 0, 10), (0, 70, 0, 11), (0, 73, 0, 12), (0, 81, 8, 6), (0, 84, 8, 3), (0, 87, 8, 4), (0, 90, 8, 5), (0, 93, 8, 0), (0, 97, 6, 1), (0, 102, 6, 3), (0, 105, 6, 2), (0, 108, 8, 7), (0, 111, 8, 8), (0, 114, 8, 9), (0, 117, 8, 10), (0, 120, 8, 1), (0, 124, 2, 0), (0, 133, 8, 2), (0, 142, 3, 0), (0, 161, 6, 0), (0, 188, 2, 1), (0, 191, 2, 5), (0, 223, 2, 2), (0, 229, 2, 3), (0, 231, 2, 4), (0, 238, 2, 6), (0, 241, 2, 8), (0, 244, 2, 7), (0, 247, 2, 9)] : List (Nat × Nat × Nat × Nat)), FLok r := List.forall_mem_cons.mpr ⟨fl_0, List.forall_mem_cons.mpr ⟨fl_1, List.forall_mem_cons.mpr ⟨fl_2, List.forall_mem_cons.mpr ⟨fl_3, List.forall_mem_cons.mpr ⟨fl_4, List.forall_mem_cons.mpr ⟨fl_5, List.forall_mem_cons.mpr ⟨fl_6, List.forall_mem_cons.mpr ⟨fl_7, List.forall_mem_cons.mpr ⟨fl_8, List.forall_mem_cons.mpr ⟨fl_9, List.forall_mem_cons.mpr ⟨fl_10, List.forall_mem_cons.mpr ⟨fl_11, List.forall_mem_cons.mpr ⟨fl_12, List.forall_mem_cons.mpr ⟨fl_13, List.forall_mem_cons.mpr ⟨fl_14, List.forall_mem_cons.mpr ⟨fl_15, List.forall_mem_cons.mpr ⟨fl_16, List.forall_mem_cons.mpr ⟨fl_17, List.forall_mem_cons.mpr ⟨fl_18, List.forall_mem_cons.mpr ⟨fl_19, List.forall_mem_cons.mpr ⟨fl_20, List.forall_mem_cons.mpr ⟨fl_21, List.forall_mem_cons.mpr ⟨fl_22, List.forall_mem_cons.mpr ⟨fl_23, List.forall_mem_cons.mpr ⟨fl_24, List.forall_mem_cons.mpr ⟨fl_25, List.forall_mem_cons.mpr ⟨fl_26, List.forall_mem_cons.mpr ⟨fl_27, List.forall_mem_cons.mpr ⟨fl_28, List.forall_mem_cons.mpr ⟨fl_29, List.forall_mem_cons.mpr ⟨fl_30, List.forall_mem_cons.mpr ⟨fl_31, List.forall_mem_cons.mpr ⟨fl_32, List.forall_mem_cons.mpr ⟨fl_33, List.forall_mem_cons.mpr ⟨fl_34, List.forall_mem_cons.mpr ⟨fl_35, List.forall_mem_cons.mpr ⟨fl_36, List.forall_mem_cons.mpr ⟨fl_37, List.forall_mem_cons.mpr ⟨fl_38, List.forall_mem_cons.mpr ⟨fl_39, fun _ h => absurd h List.not_mem_nil⟩⟩⟩⟩⟩⟩⟩⟩⟩⟩⟩⟩⟩⟩⟩⟩⟩⟩⟩⟩⟩⟩⟩⟩⟩⟩⟩⟩⟩⟩⟩⟩⟩⟩⟩⟩⟩⟩⟩⟩
theorem FL_c1 : ∀ r ∈ ([(0, 250, 2, 10), (0, 253, 2, 11), (0, 256, 2, 12), (0, 267, 8, 12), (0, 278, 3, 6), (0, 281, 3, 7), (0, 284, 3, 8), (0, 304, 3, 2), (0, 315, 3, 1), (0, 333, 3, 3), (0, 334, 3, 4), (0, 337, 3, 5), (1, 7, 1, 0), (2, 9, 2, 0), (2, 15, 2, 1), (2, 19, 2, 2), (2, 22, 2, 3), (2, 25, 2, 4), (2, 28, 2, 5), (2, 31, 2, 6), (2, 34, 2, 7), (2, 37, 2, 8), (2, 40, 2, 9), (2, 43, 2, 10), (2, 46, 2, 11), (2, 49, 2, 12), (3, 9, 3, 0), (3, 15, 3, 1), (3, 24, 3, 2), (3, 28, 3, 3), (3, 31, 3, 4), (3, 34, 3, 5), (3, 37, 3, 6), (3, 40, 3, 7), (3, 43, 3, 8), (4, 9, 4, 0), (4, 15, 4, 1), (5, 11, 5, 0), (5, 18, 5, 2), (5, 26, 5, 1)] : List (Nat × Nat × Nat × Nat)), FLok r := List.forall_mem_cons.mpr ⟨fl_40, List.forall_mem_cons.mpr ⟨fl_41, List.forall_mem_cons.mpr ⟨fl_42, List.forall_mem_cons.mpr ⟨fl_43, List.forall_mem_cons.mpr ⟨fl_44, List.forall_mem_cons.mpr ⟨fl_45, List.forall_mem_cons.mpr ⟨fl_46, List.forall_mem_cons.mpr ⟨fl_47, List.forall_mem_cons.mpr ⟨fl_48, List.forall_mem_cons.mpr ⟨fl_49, List.forall_mem_cons.mpr ⟨fl_50, List.forall_mem_cons.mpr ⟨fl_51, List.forall_mem_cons.mpr ⟨fl_52, List.forall_mem_cons.mpr ⟨fl_53, List.forall_mem_cons.mpr ⟨fl_54, List.forall_mem_cons.mpr ⟨fl_55, List.forall_mem_cons.mpr ⟨fl_56, List.forall_mem_cons.mpr ⟨fl_57, List.forall_mem_cons.mpr ⟨fl_58, List.forall_mem_cons.mpr ⟨fl_59, List.forall_mem_cons.mpr ⟨fl_60, List.forall_mem_cons.mpr ⟨fl_61, List.forall_mem_cons.mpr ⟨fl_62, List.forall_mem_cons.mpr ⟨fl_63, List.forall_mem_cons.mpr ⟨fl_64, List.forall_mem_cons.mpr ⟨fl_65, List.forall_mem_cons.mpr ⟨fl_66, List.forall_mem_cons.mpr ⟨fl_67, List.forall_mem_cons.mpr ⟨fl_68, List.forall_mem_cons.mpr ⟨fl_69, List.forall_mem_cons.mpr ⟨fl_70, List.forall_mem_cons.mpr ⟨fl_71, List.forall_mem_cons.mpr ⟨fl_72, List.forall_mem_cons.mpr ⟨fl_73, List.forall_mem_cons.mpr ⟨fl_74, List.forall_mem_cons.mpr ⟨fl_75, List.forall_mem_cons.mpr ⟨fl_76, List.forall_mem_cons.mpr ⟨fl_77, List.forall_mem_cons.mpr ⟨fl_78, List.forall_mem_cons.mpr ⟨fl_79, fun _ h => absurd h List.not_mem_nil⟩⟩⟩⟩⟩⟩⟩⟩⟩⟩⟩⟩⟩⟩⟩⟩⟩⟩⟩⟩⟩⟩⟩⟩⟩⟩⟩⟩⟩⟩⟩⟩⟩⟩⟩⟩⟩⟩⟩⟩
theorem FL_c2 : ∀ r ∈ ([(6, 9, 6, 0), (6, 21, 6, 1), (6, 25, 6, 2), (6, 28, 6, 3), (7, 9, 7, 0), (7, 15, 7, 1), (8, 11, 8, 0), (8, 20, 8, 1), (8, 27, 8, 2), (8, 31, 8, 3), (8, 35, 8, 4), (8, 38, 8, 5), (8, 41, 8, 11), (8, 62, 8, 6), (8, 65, 8, 7), (8, 68, 8, 8), (8, 71, 8, 9), (8, 74, 8, 10), (8, 77, 8, 12), (8, 80, 2, 0), (8, 84, 6, 1), (9, 10, 9, 0), (9, 16, 9, 1), (9, 22, 9, 2), (9, 29, 9, 3), (9, 33, 9, 4), (9, 37, 9, 5), (9, 44, 9, 6), (9, 51, 9, 7), (9, 55, 9, 8), (9, 63, 7, 1), (9, 86, 0, 1), (9, 89, 1, 0), (9, 95, 0, 0), (9, 112, 0, 3), (9, 146, 0, 2), (9, 150, 8, 7), (9, 155, 8, 8), (9, 162, 8, 11), (9, 165, 8, 12)] : List (Nat × Nat × Nat × Nat)), FLok r := List.forall_mem_cons.mpr ⟨fl_80, List.forall_mem_cons.mpr ⟨fl_81, List.forall_mem_cons.mpr ⟨fl_82, List.forall_mem_cons.mpr ⟨fl_83, List.forall_mem_cons.mpr ⟨fl_84, List.forall_mem_cons.mpr ⟨fl_85, List.forall_mem_cons.mpr ⟨fl_86, List.forall_mem_cons.mpr ⟨fl_87, List.forall_mem_cons.mpr ⟨fl_88, List.forall_mem_cons.mpr ⟨fl_89, List.forall_mem_cons.mpr ⟨fl_90, List.forall_mem_cons.mpr ⟨fl_91, List.forall_mem_cons.mpr ⟨fl_92, List.forall_mem_cons.mpr ⟨fl_93, List.forall_mem_cons.mpr ⟨fl_94, List.forall_mem_cons.mpr ⟨fl_95, List.forall_mem_cons.mpr ⟨fl_96, List.forall_mem_cons.mpr ⟨fl_97, List.forall_mem_cons.mpr ⟨fl_98, List.forall_mem_cons.mpr ⟨fl_99, List.forall_mem_cons.mpr ⟨fl_100, List.forall_mem_cons.mpr ⟨fl_101, List.forall_mem_cons.mpr ⟨fl_102, List.forall_mem_cons.mpr ⟨fl_103, List.forall_mem_cons.mpr ⟨fl_104, List.forall_mem_cons.mpr ⟨fl_105, List.forall_mem_cons.mpr ⟨fl_106, List.forall_mem_cons.mpr ⟨fl_107, List.forall_mem_cons.mpr ⟨fl_108, List.forall_mem_cons.mpr ⟨fl_109, List.forall_mem_cons.mpr ⟨fl_110, List.forall_mem_cons.mpr ⟨fl_111, List.forall_mem_cons.mpr ⟨fl_112, List.forall_mem_cons.mpr ⟨fl_113, List.forall_mem_cons.mpr ⟨fl_114, List.forall_mem_cons.mpr ⟨fl_115, List.forall_mem_cons.mpr ⟨fl_116, List.forall_mem_cons.mpr ⟨fl_117, List.forall_mem_cons.mpr ⟨fl_118, List.forall_mem_cons.mpr ⟨fl_119, fun _ h => absurd h List.not_mem_nil⟩⟩⟩⟩⟩⟩⟩⟩⟩⟩⟩⟩⟩⟩⟩⟩⟩⟩⟩⟩⟩⟩⟩⟩⟩⟩⟩⟩⟩⟩⟩⟩⟩⟩⟩⟩⟩⟩⟩⟩
theorem FL_c3 : ∀ r ∈ ([(9, 168, 8, 6), (9, 174, 8, 0), (9, 178, 6, 1), (9, 183, 6, 3), (9, 186, 6, 2), (9, 193, 6, 0), (9, 196, 8, 1), (9, 200, 2, 0), (9, 206, 2, 1), (9, 209, 2, 2), (9, 212, 2, 3), (9, 214, 2, 4), (9, 217, 2, 5), (9, 220, 2, 6), (9, 223, 2, 7), (9, 226, 0, 4), (9, 229, 0, 6), (9, 232, 0, 7), (9, 239, 0, 5), (9, 242, 8, 10), (9, 245, 8, 9), (9, 251, 8, 5), (9, 254, 8, 3), (9, 257, 8, 4), (9, 269, 4, 1), (9, 270, 8, 2), (9, 274, 3, 0), (9, 279, 3, 3), (9, 282, 3, 4), (9, 285, 3, 5), (9, 288, 3, 2), (9, 294, 3, 1), (9, 297, 3, 6), (9, 300, 3, 7), (9, 303, 3, 8), (9, 309, 0, 10), (9, 312, 0, 11), (9, 315, 0, 9), (9, 331, 0, 8), (9, 350, 5, 1)] : List (Nat × Nat × Nat × Nat)), FLok r := List.forall_mem_cons.mpr ⟨fl_120, List.forall_mem_cons.mpr ⟨fl_121, List.forall_mem_cons.mpr ⟨fl_122, List.forall_mem_cons.mpr ⟨fl_123, List.forall_mem_cons.mpr ⟨fl_124, List.forall_mem_cons.mpr ⟨fl_125, List.forall_mem_cons.mpr ⟨fl_126, List.forall_mem_cons.mpr ⟨fl_127, List.forall_mem_cons.mpr ⟨fl_128, List.forall_mem_cons.mpr ⟨fl_129, List.forall_mem_cons.mpr ⟨fl_130, List.forall_mem_cons.mpr ⟨fl_131, List.forall_mem_cons.mpr ⟨fl_132, List.forall_mem_cons.mpr ⟨fl_133, List.forall_mem_cons.mpr ⟨fl_134, List.forall_mem_cons.mpr ⟨fl_135, List.forall_mem_cons.mpr ⟨fl_136, List.forall_mem_cons.mpr ⟨fl_137, List.forall_mem_cons.mpr ⟨fl_138, List.forall_mem_cons.mpr ⟨fl_139, List.forall_mem_cons.mpr ⟨fl_140, List.forall_mem_cons.mpr ⟨fl_141, List.forall_mem_cons.mpr ⟨fl_142, List.forall_mem_cons.mpr ⟨fl_143, List.forall_mem_cons.mpr ⟨fl_144, List.forall_mem_cons.mpr ⟨fl_145, List.forall_mem_cons.mpr ⟨fl_146, List.forall_mem_cons.mpr ⟨fl_147, List.forall_mem_cons.mpr ⟨fl_148, List.forall_mem_cons.mpr ⟨fl_149, List.forall_mem_cons.mpr ⟨fl_150, List.forall_mem_cons.mpr ⟨fl_151, List.forall_mem_cons.mpr ⟨fl_152, List.forall_mem_cons.mpr ⟨fl_153, List.forall_mem_cons.mpr ⟨fl_154, List.forall_mem_cons.mpr ⟨fl_155, List.forall_mem_cons.mpr ⟨fl_156, List.forall_mem_cons.mpr ⟨fl_157, List.forall_mem_cons.mpr ⟨fl_158, List.forall_mem_cons.mpr ⟨fl_159, fun _ h => absurd h List.not_mem_nil⟩⟩⟩⟩⟩⟩⟩⟩⟩⟩⟩⟩⟩⟩⟩⟩⟩⟩⟩⟩⟩⟩⟩⟩⟩⟩⟩⟩⟩⟩⟩⟩⟩⟩⟩⟩⟩⟩⟩⟩
theorem FL_c4 : ∀ r ∈ ([(9, 357, 4, 0), (9, 368, 0, 12), (10, 9, 10, 0), (10, 13, 10, 1), (10, 17, 10, 3), (10, 21, 10, 9), (10, 24, 10, 10), (10, 27, 10, 11), (10, 30, 10, 13), (10, 33, 10, 14), (10, 36, 10, 15), (10, 39, 10, 16), (10, 42, 10, 19), (10, 45, 10, 20), (10, 52, 10, 5), (10, 56, 10, 4), (10, 71, 10, 2), (10, 74, 10, 6), (10, 77, 10, 7), (10, 79, 10, 8), (10, 186, 10, 12), (10, 297, 10, 17), (10, 300, 10, 18)] : List (Nat × Nat × Nat × Nat)), FLok r := List.forall_mem_cons.mpr ⟨fl_160, List.forall_mem_cons.mpr ⟨fl_161, List.forall_mem_cons.mpr ⟨fl_162, List.forall_mem_cons.mpr ⟨fl_163, List.forall_mem_cons.mpr ⟨fl_164, List.forall_mem_cons.mpr ⟨fl_165, List.forall_mem_cons.mpr ⟨fl_166, List.forall_mem_cons.mpr ⟨fl_167, List.forall_mem_cons.mpr ⟨fl_168, List.forall_mem_cons.mpr ⟨fl_169, List.forall_mem_cons.mpr ⟨fl_170, List.forall_mem_cons.mpr ⟨fl_171, List.forall_mem_cons.mpr ⟨fl_172, List.forall_mem_cons.mpr ⟨fl_173, List.forall_mem_cons.mpr ⟨fl_174, List.forall_mem_cons.mpr ⟨fl_175, List.forall_mem_cons.mpr ⟨fl_176, List.forall_mem_cons.mpr ⟨fl_177, List.forall_mem_cons.mpr ⟨fl_178, List.forall_mem_cons.mpr ⟨fl_179, List.forall_mem_cons.mpr ⟨fl_180, List.forall_mem_cons.mpr ⟨fl_181, List.forall_mem_cons.mpr ⟨fl_182, fun _ h => absurd h List.not_mem_nil⟩⟩⟩⟩⟩⟩⟩⟩⟩⟩⟩⟩⟩⟩⟩⟩⟩⟩⟩⟩⟩⟩⟩
theorem FL_ok : ∀ r ∈ FL, FLok r := by
  intro r h
  rw [show FL = [(0, 9, 0, 0), (0, 18, 0, 1), (0, 24, 0, 2), (0, 37, 1, 0), (0, 42, 0, 3), (0, 49, 0, 4), (0, 52, 0, 5), (0, 55, 0, 6), (0, 58, 0, 7), (0, 61, 0, 8), (0, 64, 0, 9), (0, 67, 0, 10), (0, 70, 0, 11), (0, 73, 0, 12), (0, 81, 8, 6), (0, 84, 8, 3), (0, 87, 8, 4), (0, 90, 8, 5), (0, 93, 8, 0), (0, 97, 6, 1), (0, 102, 6, 3), (0, 105, 6, 2), (0, 108, 8, 7), (0, 111, 8, 8), (0, 114, 8, 9), (0, 117, 8, 10), (0, 120, 8, 1), (0, 124, 2, 0), (0, 133, 8, 2), (0, 142, 3, 0), (0, 161, 6, 0), (0, 188, 2, 1), (0, 191, 2, 5), (0, 223, 2, 2), (0, 229, 2, 3), (0, 231, 2, 4), (0, 238, 2, 6), (0, 241, 2, 8), (0, 244, 2, 7), (0, 247, 2, 9)] ++ ([(0, 250, 2, 10), (0, 253, 2, 11), (0, 256, 2, 12), (0, 267, 8, 12), (0, 278, 3, 6), (0, 281, 3, 7), (0, 284, 3, 8), (0, 304, 3, 2), (0, 315, 3, 1), (0, 333, 3, 3), (0, 334, 3, 4), (0, 337, 3, 5), (1, 7, 1, 0), (2, 9, 2, 0), (2, 15, 2, 1), (2, 19, 2, 2), (2, 22, 2, 3), (2, 25, 2, 4), (2, 28, 2, 5), (2, 31, 2, 6), (2, 34, 2, 7), (2, 37, 2, 8), (2, 40, 2, 9), (2, 43, 2, 10), (2, 46, 2, 11), (2, 49, 2, 12), (3, 9, 3, 0), (3, 15, 3, 1), (3, 24, 3, 2), (3, 28, 3, 3), (3, 31, 3, 4), (3, 34, 3, 5), (3, 37, 3, 6), (3, 40, 3, 7), (3, 43, 3, 8), (4, 9, 4, 0), (4, 15, 4, 1), (5, 11, 5, 0), (5, 18, 5, 2), (5, 26, 5, 1)] ++ ([(6, 9, 6, 0), (6, 21, 6, 1), (6, 25, 6, 2), (6, 28, 6, 3), (7, 9, 7, 0), (7, 15, 7, 1), (8, 11, 8, 0), (8, 20, 8, 1), (8, 27, 8, 2), (8, 31, 8, 3), (8, 35, 8, 4), (8, 38, 8, 5), (8, 41, 8, 11), (8, 62, 8, 6), (8, 65, 8, 7), (8, 68, 8, 8), (8, 71, 8, 9), (8, 74, 8, 10), (8, 77, 8, 12), (8, 80, 2, 0), (8, 84, 6, 1), (9, 10, 9, 0), (9, 16, 9, 1), (9, 22, 9, 2), (9, 29, 9, 3), (9, 33, 9, 4), (9, 37, 9, 5), (9, 44, 9, 6), (9, 51, 9, 7), (9, 55, 9, 8), (9, 63, 7, 1), (9, 86, 0, 1), (9, 89, 1, 0), (9, 95, 0, 0), (9, 112, 0, 3), (9, 146, 0, 2), (9, 150, 8, 7), (9, 155, 8, 8), (9, 162, 8, 11), (9, 165, 8, 12)] ++ ([(9, 168, 8, 6), (9, 174, 8, 0), (9, 178, 6, 1), (9, 183, 6, 3), (9, 186, 6, 2), (9, 193, 6, 0), (9, 196, 8, 1), (9, 200, 2, 0), (9, 206, 2, 1), (9, 209, 2, 2), (9, 212, 2, 3), (9, 214, 2, 4), (9, 217, 2, 5), (9, 220, 2, 6), (9, 223, 2, 7), (9, 226, 0, 4), (9, 229, 0, 6), (9, 232, 0, 7), (9, 239, 0, 5), (9, 242, 8, 10), (9, 245, 8, 9), (9, 251, 8, 5), (9, 254, 8, 3), (9, 257, 8, 4), (9, 269, 4, 1), (9, 270, 8, 2), (9, 274, 3, 0), (9, 279, 3, 3), (9, 282, 3, 4), (9, 285, 3, 5), (9, 288, 3, 2), (9, 294, 3, 1), (9, 297, 3, 6), (9, 300, 3, 7), (9, 303, 3, 8), (9, 309, 0, 10), (9, 312, 0, 11), (9, 315, 0, 9), (9, 331, 0, 8), (9, 350, 5, 1)] ++ ([(9, 357, 4, 0), (9, 368, 0, 12), (10, 9, 10, 0), (10, 13, 10, 1), (10, 17, 10, 3), (10, 21, 10, 9), (10, 24, 10, 10), (10, 27, 10, 11), (10, 30, 10, 13), (10, 33, 10, 14), (10, 36, 10, 15), (10, 39, 10, 16), (10, 42, 10, 19), (10, 45, 10, 20), (10, 52, 10, 5), (10, 56, 10, 4), (10, 71, 10, 2), (10, 74, 10, 6), (10, 77, 10, 7), (10, 79, 10, 8), (10, 186, 10, 12), (10, 297, 10, 17), (10, 300, 10, 18)])))) from rfl] at h
  simp only [List.mem_append] at h
  rcases h with h | h | h | h | h
  · exact FL_c0 r h
  · exact FL_c1 r h
  · exact FL_c2 r h
  · exact FL_c3 r h
  · exact FL_c4 r h
def mtb : List (MethodName × ByteArray × Nat × Option FieldType × Nat × Nat × Nat) := [(yX0_become, cX0_become, 3, none, 0, 3, 103), (yX0_startAnew, cX0_startAnew, 4, none, 0, 2, 48), (yX0_startStation, cX0_startStation, 7, none, 0, 1, 22), (yX0_hear, cX0_hear, 3, (some .boolean), 0, 0, 0), (yX0_sumOf, cX0_sumOf, 4, (some .int), 0, 0, 0), (yX0_waiting, cX0_waiting, 3, (some .int), 0, 1, 22), (yX0_exchangesOn, cX0_exchangesOn, 3, (some .int), 0, 0, 0), (yX0_emptyQueues, cX0_emptyQueues, 3, none, 0, 0, 0), (yX0_whyNotOffer, cX0_whyNotOffer, 5, (some .int), 0, 1, 22), (yX0_takeFrame, cX0_takeFrame, 6, (some .int), 0, 1, 24), (yX0_markLast, cX0_markLast, 4, none, 0, 0, 0), (yX0_drawAll, cX0_drawAll, 5, (some .int), 0, 1, 21), (yX0_isReady, cX0_isReady, 4, (some .boolean), 0, 0, 0), (yX0_passSlot, cX0_passSlot, 3, none, 0, 4, 133), (yX0_runningSpans, cX0_runningSpans, 3, (some .int), 0, 0, 0), (yX0_beginOf, cX0_beginOf, 4, none, 0, 3, 110), (yX0_beginExchange, cX0_beginExchange, 7, none, 0, 2, 84), (yX0_placesOf, cX0_placesOf, 5, (some .int), 0, 1, 60), (yX0_senders, cX0_senders, 4, (some .int), 0, 1, 20), (yX0_sendsNow, cX0_sendsNow, 2, (some .boolean), 0, 0, 0), (yX0_isClear, cX0_isClear, 3, (some .boolean), 0, 1, 21), (yX0_clearOnes, cX0_clearOnes, 4, (some .int), 0, 1, 21), (yX0_noteSlot, cX0_noteSlot, 4, none, 0, 1, 22), (yX0_spread, cX0_spread, 7, none, 0, 2, 43), (yX0_goAsk, cX0_goAsk, 4, none, 0, 3, 69), (yX0_goGrant, cX0_goGrant, 5, none, 0, 3, 106), (yX0_goData, cX0_goData, 5, none, 0, 3, 106), (yX0_noteSpoilt, cX0_noteSpoilt, 3, none, 0, 0, 0), (yX0_goPlace, cX0_goPlace, 3, none, 0, 2, 84), (yX0_goAnswer, cX0_goAnswer, 6, none, 0, 3, 108), (yX0_deliver, cX0_deliver, 7, none, 0, 2, 82), (yX0_failExchange, cX0_failExchange, 4, none, 0, 2, 83), (yX0_failFirst, cX0_failFirst, 4, none, 0, 1, 60), (yX0_settle, cX0_settle, 6, none, 0, 1, 21), (yX1_draw, cX1_draw, 2, (some .int), 1, 0, 0), (yX2_become, cX2_become, 2, none, 2, 0, 0), (yX2_sends, cX2_sends, 1, (some .boolean), 2, 0, 0), (yX3_become, cX3_become, 2, none, 3, 1, 60), (yX3_startAnew, cX3_startAnew, 2, none, 3, 0, 0), (yX3_delivered, cX3_delivered, 3, none, 3, 1, 60), (yX4_forget, cX4_forget, 1, none, 4, 0, 0), (yX4_add, cX4_add, 3, none, 4, 0, 0), (yX4_tellOne, cX4_tellOne, 3, none, 4, 1, 22), (yX4_tellTwo, cX4_tellTwo, 5, none, 4, 2, 44), (yX4_tellThree, cX4_tellThree, 7, none, 4, 3, 68), (yX4_tellPart, cX4_tellPart, 12, none, 4, 3, 68), (yX5_push, cX5_push, 2, none, 5, 4, 125), (yX5_popInto, cX5_popInto, 2, (some .boolean), 5, 4, 125), (yX6_become, cX6_become, 2, none, 6, 1, 60), (yX6_fieldOf, cX6_fieldOf, 3, (some .int), 6, 0, 0), (yX6_addLast, cX6_addLast, 5, none, 6, 0, 0), (yX6_tryAgain, cX6_tryAgain, 2, (some .int), 6, 0, 0), (yX6_removeAt, cX6_removeAt, 3, none, 6, 0, 0), (yX6_alikeAtFirst, cX6_alikeAtFirst, 4, (some .int), 6, 1, 22), (yX7_addFour, cX7_addFour, 3, (some .boolean), 7, 0, 0), (yX7_cutTo, cX7_cutTo, 2, (some .boolean), 7, 0, 0), (yX7_at, cX7_at, 2, (some .int), 7, 0, 0), (yX7_digitAt, cX7_digitAt, 5, (some .int), 7, 1, 21), (yX7_letterAt, cX7_letterAt, 4, (some .int), 7, 1, 21), (yX8_become, cX8_become, 3, none, 8, 2, 81), (yX8_isFree, cX8_isFree, 1, (some .boolean), 8, 0, 0), (yX8_waiting, cX8_waiting, 3, (some .int), 8, 0, 0), (yX8_setOwing, cX8_setOwing, 3, none, 8, 0, 0), (yX8_pays, cX8_pays, 3, (some .boolean), 8, 1, 22), (yX8_listen, cX8_listen, 4, none, 8, 0, 0), (yX9_sign, cX9_sign, 2, (some .int), 9, 1, 22), (yX9_end, cX9_end, 2, (some .boolean), 9, 1, 21), (yX9_net, cX9_net, 4, (some .int), 9, 5, 146), (yX9_sets, cX9_sets, 4, (some .int), 9, 5, 146), (yX9_setting, cX9_setting, 2, (some .int), 9, 8, 150), (yX9_sheet, cX9_sheet, 8, (some .int), 9, 3, 73), (yX9_offers, cX9_offers, 6, (some .int), 9, 5, 146), (yX9_slots, cX9_slots, 7, (some .int), 9, 5, 155), (yX9_draws, cX9_draws, 1, (some .int), 9, 5, 146), (yX9_station, cX9_station, 4, (some .int), 9, 8, 150), (yX9_rank, cX9_rank, 5, (some .int), 9, 8, 150), (yX9_frame, cX9_frame, 6, (some .int), 9, 8, 150), (yX9_exchange, cX9_exchange, 4, (some .int), 9, 1, 21), (yX9_sent, cX9_sent, 1, (some .int), 9, 3, 68), (yX9_spanOf, cX9_spanOf, 3, (some .int), 9, 3, 68), (yX9_rate, cX9_rate, 4, (some .int), 9, 3, 68), (yX9_hidden, cX9_hidden, 4, (some .int), 9, 1, 22), (yX9_tally, cX9_tally, 3, (some .int), 9, 8, 150), (yX9_why, cX9_why, 3, (some .int), 9, 3, 68), (yX9_spoilt, cX9_spoilt, 4, (some .int), 9, 2, 44), (yX9_held, cX9_held, 3, (some .int), 9, 4, 94), (yX9_even, cX9_even, 8, (some .int), 9, 4, 99), (yX9_busy, cX9_busy, 1, (some .int), 9, 3, 68), (yX9_odds, cX9_odds, 3, (some .int), 9, 4, 99), (yX9_window, cX9_window, 4, (some .int), 9, 2, 48), (yX9_ahead, cX9_ahead, 4, (some .int), 9, 5, 155), (yX9_quiet, cX9_quiet, 2, (some .int), 9, 5, 155), (yX9_next, cX9_next, 2, (some .int), 9, 5, 155), (yX9_soonest, cX9_soonest, 6, (some .int), 9, 6, 178), (yX9_day, cX9_day, 6, (some .int), 9, 6, 181), (yX9_undo, cX9_undo, 1, (some .int), 9, 5, 146), (yX9_years, cX9_years, 6, (some .int), 9, 5, 155), (yX9_keep, cX9_keep, 2, (some .boolean), 9, 4, 125), (yX9_again, cX9_again, 2, (some .boolean), 9, 4, 125), (yX9_count, cX9_count, 2, (some .int), 9, 2, 44), (yX9_row, cX9_row, 2, (some .long), 9, 8, 150), (yX9_isStation, cX9_isStation, 2, (some .boolean), 9, 0, 0), (yX9_isRank, cX9_isRank, 1, (some .boolean), 9, 0, 0), (yX9_readPairs, cX9_readPairs, 6, (some .int), 9, 2, 45), (yX9_entryOf, cX9_entryOf, 2, (some .int), 9, 0, 0), (yX9_comesFromEntry, cX9_comesFromEntry, 5, (some .boolean), 9, 2, 49), (yX9_waysAlone, cX9_waysAlone, 5, (some .long), 9, 1, 24), (yX9_power, cX9_power, 5, (some .long), 9, 0, 0), (yX9_slotsTillDelivered, cX9_slotsTillDelivered, 4, (some .int), 9, 5, 155), (yX9_actLength, cX9_actLength, 3, (some .int), 9, 1, 21), (yX9_faultInDay, cX9_faultInDay, 4, (some .int), 9, 3, 67), (yX9_faultInAct, cX9_faultInAct, 3, (some .int), 9, 2, 45), (yX9_doAct, cX9_doAct, 7, (some .boolean), 9, 5, 155), (yX9_offerDrawn, cX9_offerDrawn, 5, none, 9, 2, 49), (yX10_thrown, cX10_thrown, 1, (some .int), 10, 0, 0), (yX10_in, cX10_in, 3, (some .boolean), 10, 0, 0), (yX10_has, cX10_has, 2, (some .boolean), 10, 0, 0), (yX10_lost, cX10_lost, 1, (some .int), 10, 0, 0), (yX10_tell, cX10_tell, 3, none, 10, 0, 0), (yX10_common, cX10_common, 5, (some .int), 10, 0, 0), (yX10_commonLong, cX10_commonLong, 10, (some .long), 10, 0, 0), (yX10_isStation, cX10_isStation, 2, (some .boolean), 10, 1, 22), (yX10_isRank, cX10_isRank, 1, (some .boolean), 10, 1, 22), (yX10_quality, cX10_quality, 3, (some .int), 10, 0, 0), (yX10_hears, cX10_hears, 3, (some .boolean), 10, 1, 22), (yX10_at, cX10_at, 2, (some .int), 10, 0, 0), (yX10_frameAt, cX10_frameAt, 3, (some .int), 10, 1, 21), (yX10_exchangeAt, cX10_exchangeAt, 1, (some .int), 10, 0, 0), (yX10_draw, cX10_draw, 2, (some .int), 10, 0, 0), (yX10_sign, cX10_sign, 3, (some .int), 10, 0, 0), (yX10_end, cX10_end, 2, (some .boolean), 10, 1, 22), (yX10_begin, cX10_begin, 1, none, 10, 0, 0), (yX10_here, cX10_here, 1, (some .int), 10, 0, 0), (yX10_fine, cX10_fine, 1, (some .boolean), 10, 0, 0), (yX10_fault, cX10_fault, 2, none, 10, 1, 20), (yX10_oneOf, cX10_oneOf, 3, (some .int), 10, 2, 41), (yX10_twoDigits, cX10_twoDigits, 2, (some .int), 10, 3, 63), (yX10_wasRight, cX10_wasRight, 1, (some .boolean), 10, 2, 41), (yX10_readPair, cX10_readPair, 5, (some .int), 10, 3, 63), (yX10_net, cX10_net, 5, (some .int), 10, 4, 87), (yX10_highOf, cX10_highOf, 1, (some .int), 10, 0, 0), (yX10_sets, cX10_sets, 4, (some .int), 10, 2, 42), (yX10_setting, cX10_setting, 2, (some .int), 10, 1, 22), (yX10_goesOn, cX10_goesOn, 2, (some .boolean), 10, 1, 20), (yX10_sheet, cX10_sheet, 11, (some .int), 10, 3, 69), (yX10_put, cX10_put, 7, none, 10, 2, 43), (yX10_leaves, cX10_leaves, 6, none, 10, 2, 43), (yX10_refusesOffer, cX10_refusesOffer, 5, (some .int), 10, 2, 44), (yX10_offers, cX10_offers, 6, (some .int), 10, 3, 69), (yX10_isFree, cX10_isFree, 2, (some .boolean), 10, 1, 20), (yX10_isReady, cX10_isReady, 3, (some .boolean), 10, 1, 21), (yX10_had, cX10_had, 4, none, 10, 0, 0), (yX10_drawsCount, cX10_drawsCount, 3, none, 10, 1, 21), (yX10_isLost, cX10_isLost, 4, none, 10, 3, 68), (yX10_fails, cX10_fails, 5, none, 10, 4, 91), (yX10_roundedUp, cX10_roundedUp, 2, (some .int), 10, 0, 0), (yX10_begins, cX10_begins, 8, none, 10, 2, 43), (yX10_stepBegin, cX10_stepBegin, 4, none, 10, 5, 115), (yX10_stepSend, cX10_stepSend, 5, none, 10, 4, 89), (yX10_hearsOthers, cX10_hearsOthers, 4, (some .boolean), 10, 2, 44), (yX10_isClear, cX10_isClear, 3, (some .boolean), 10, 3, 67), (yX10_spans, cX10_spans, 6, none, 10, 4, 89), (yX10_owes, cX10_owes, 4, none, 10, 0, 0), (yX10_sendsIt, cX10_sendsIt, 4, (some .boolean), 10, 4, 89), (yX10_failsBy, cX10_failsBy, 6, none, 10, 5, 115), (yX10_stepData, cX10_stepData, 6, none, 10, 5, 114), (yX10_delivers, cX10_delivers, 8, none, 10, 4, 91), (yX10_stepSender, cX10_stepSender, 4, none, 10, 6, 140), (yX10_stepEnd, cX10_stepEnd, 4, none, 10, 3, 67), (yX10_stepHeld, cX10_stepHeld, 2, none, 10, 3, 67), (yX10_slot, cX10_slot, 2, none, 10, 7, 163), (yX10_goSlots, cX10_goSlots, 3, none, 10, 8, 184), (yX10_slots, cX10_slots, 6, (some .int), 10, 9, 206), (yX10_drawAll, cX10_drawAll, 4, (some .int), 10, 2, 43), (yX10_draws, cX10_draws, 1, (some .int), 10, 3, 66), (yX10_waiting, cX10_waiting, 4, (some .int), 10, 1, 21), (yX10_allWaiting, cX10_allWaiting, 3, (some .int), 10, 2, 44), (yX10_heardBy, cX10_heardBy, 4, (some .int), 10, 2, 44), (yX10_station, cX10_station, 3, (some .int), 10, 3, 67), (yX10_rank, cX10_rank, 4, (some .int), 10, 2, 43), (yX10_frame, cX10_frame, 5, (some .int), 10, 2, 43), (yX10_exchange, cX10_exchange, 4, (some .int), 10, 2, 43), (yX10_placesOf, cX10_placesOf, 4, (some .int), 10, 0, 0), (yX10_sent, cX10_sent, 1, (some .int), 10, 1, 22), (yX10_spanOf, cX10_spanOf, 2, (some .int), 10, 2, 43), (yX10_rate, cX10_rate, 3, (some .int), 10, 2, 44), (yX10_hidden, cX10_hidden, 3, (some .int), 10, 3, 67), (yX10_tally, cX10_tally, 3, (some .int), 10, 2, 43), (yX10_held, cX10_held, 4, (some .int), 10, 2, 43), (yX10_why, cX10_why, 2, (some .int), 10, 2, 43), (yX10_spoilt, cX10_spoilt, 3, (some .int), 10, 2, 43), (yX10_even, cX10_even, 8, (some .int), 10, 1, 29), (yX10_busy, cX10_busy, 1, (some .int), 10, 1, 22), (yX10_power, cX10_power, 4, (some .int), 10, 0, 0), (yX10_waysAlone, cX10_waysAlone, 4, (some .int), 10, 1, 23), (yX10_odds, cX10_odds, 6, (some .int), 10, 2, 46), (yX10_window, cX10_window, 4, (some .int), 10, 2, 46), (yX10_layAside, cX10_layAside, 2, none, 10, 0, 0), (yX10_comesBack, cX10_comesBack, 2, none, 10, 0, 0), (yX10_ahead, cX10_ahead, 4, (some .int), 10, 9, 206), (yX10_isQuiet, cX10_isQuiet, 1, (some .boolean), 10, 3, 66), (yX10_quiet, cX10_quiet, 4, (some .int), 10, 8, 184), (yX10_next, cX10_next, 3, (some .int), 10, 8, 184), (yX10_takes, cX10_takes, 5, (some .int), 10, 8, 184), (yX10_soonest, cX10_soonest, 6, (some .int), 10, 9, 208), (yX10_readAct, cX10_readAct, 3, none, 10, 4, 84), (yX10_act, cX10_act, 2, (some .boolean), 10, 9, 206), (yX10_day, cX10_day, 4, (some .int), 10, 10, 227), (yX10_change, cX10_change, 2, none, 10, 1, 21), (yX10_note, cX10_note, 2, none, 10, 0, 0), (yX10_undo, cX10_undo, 2, (some .int), 10, 0, 0), (yX10_drawBeside, cX10_drawBeside, 2, (some .int), 10, 0, 0), (yX10_years, cX10_years, 8, (some .int), 10, 9, 206), (yX10_keep, cX10_keep, 3, (some .boolean), 10, 1, 22), (yX10_again, cX10_again, 3, (some .boolean), 10, 1, 22), (yX10_exchanges, cX10_exchanges, 3, (some .int), 10, 1, 20), (yX10_count, cX10_count, 2, (some .int), 10, 3, 66), (yX10_row, cX10_row, 2, (some .long), 10, 1, 22), (yJ6_bitCount_0f7a4, cJ6_bitCount_0f7a4, 1, (some .int), 12, 0, 0), (yL_setting, cL_setting, 4, (some .int), 11, 9, 171), (yL_station, cL_station, 5, (some .int), 11, 9, 173), (yL_rank, cL_rank, 6, (some .int), 11, 9, 174), (yL_frame, cL_frame, 7, (some .int), 11, 9, 175), (yL_tally, cL_tally, 5, (some .int), 11, 9, 172), (yL_row, cL_row, 4, (some .int), 11, 9, 171), (yL_law, cL_law, 8, (some .boolean), 11, 11, 250)]
def mrow (j : Nat) : MethodName × ByteArray × Nat × Option FieldType × Nat × Nat × Nat := mtb.getD j (yX9_end, cX9_end, 0, none, 0, 0, 0)
def MOk (j : Nat) : Prop := Cond.code (mrow j).1 (mrow j).2.1 (mrow j).2.2.1 (mrow j).2.2.2.1 ∈ mBig
theorem mo_0 : MOk 0 := mB (mt2 (List.mem_of_getElem? (i := 209) rfl)) rfl
theorem mo_1 : MOk 1 := mB (mt2 (List.mem_of_getElem? (i := 232) rfl)) rfl
theorem mo_2 : MOk 2 := mB (mt2 (List.mem_of_getElem? (i := 236) rfl)) rfl
theorem mo_3 : MOk 3 := mB (mt3 (List.mem_of_getElem? (i := 36) rfl)) rfl
theorem mo_4 : MOk 4 := mB (mt3 (List.mem_of_getElem? (i := 62) rfl)) rfl
theorem mo_5 : MOk 5 := mB (mt4 (List.mem_of_getElem? (i := 72) rfl)) rfl
theorem mo_6 : MOk 6 := mB (mt3 (List.mem_of_getElem? (i := 21) rfl)) rfl
theorem mo_7 : MOk 7 := mB (mt3 (List.mem_of_getElem? (i := 25) rfl)) rfl
theorem mo_8 : MOk 8 := mB (mt3 (List.mem_of_getElem? (i := 52) rfl)) rfl
theorem mo_9 : MOk 9 := mB (mt3 (List.mem_of_getElem? (i := 40) rfl)) rfl
theorem mo_10 : MOk 10 := mB (mt4 (List.mem_of_getElem? (i := 92) rfl)) rfl
theorem mo_11 : MOk 11 := mB (mt3 (List.mem_of_getElem? (i := 235) rfl)) rfl
theorem mo_12 : MOk 12 := mB (mt3 (List.mem_of_getElem? (i := 82) rfl)) rfl
theorem mo_13 : MOk 13 := mB (mt3 (List.mem_of_getElem? (i := 66) rfl)) rfl
theorem mo_14 : MOk 14 := mB (mt3 (List.mem_of_getElem? (i := 70) rfl)) rfl
theorem mo_15 : MOk 15 := mB (mt3 (List.mem_of_getElem? (i := 78) rfl)) rfl
theorem mo_16 : MOk 16 := mB (mt3 (List.mem_of_getElem? (i := 86) rfl)) rfl
theorem mo_17 : MOk 17 := mB (mt3 (List.mem_of_getElem? (i := 98) rfl)) rfl
theorem mo_18 : MOk 18 := mB (mt3 (List.mem_of_getElem? (i := 125) rfl)) rfl
theorem mo_19 : MOk 19 := mB (mt3 (List.mem_of_getElem? (i := 143) rfl)) rfl
theorem mo_20 : MOk 20 := mB (mt3 (List.mem_of_getElem? (i := 159) rfl)) rfl
theorem mo_21 : MOk 21 := mB (mt3 (List.mem_of_getElem? (i := 133) rfl)) rfl
theorem mo_22 : MOk 22 := mB (mt3 (List.mem_of_getElem? (i := 147) rfl)) rfl
theorem mo_23 : MOk 23 := mB (mt3 (List.mem_of_getElem? (i := 163) rfl)) rfl
theorem mo_24 : MOk 24 := mB (mt3 (List.mem_of_getElem? (i := 155) rfl)) rfl
theorem mo_25 : MOk 25 := mB (mt3 (List.mem_of_getElem? (i := 171) rfl)) rfl
theorem mo_26 : MOk 26 := mB (mt3 (List.mem_of_getElem? (i := 184) rfl)) rfl
theorem mo_27 : MOk 27 := mB (mt3 (List.mem_of_getElem? (i := 187) rfl)) rfl
theorem mo_28 : MOk 28 := mB (mt3 (List.mem_of_getElem? (i := 190) rfl)) rfl
theorem mo_29 : MOk 29 := mB (mt3 (List.mem_of_getElem? (i := 194) rfl)) rfl
theorem mo_30 : MOk 30 := mB (mt3 (List.mem_of_getElem? (i := 198) rfl)) rfl
theorem mo_31 : MOk 31 := mB (mt3 (List.mem_of_getElem? (i := 180) rfl)) rfl
theorem mo_32 : MOk 32 := mB (mt3 (List.mem_of_getElem? (i := 105) rfl)) rfl
theorem mo_33 : MOk 33 := mB (mt3 (List.mem_of_getElem? (i := 207) rfl)) rfl
theorem mo_34 : MOk 34 := mB (mt3 (List.mem_of_getElem? (i := 120) rfl)) rfl
theorem mo_35 : MOk 35 := mB (mt2 (List.mem_of_getElem? (i := 222) rfl)) rfl
theorem mo_36 : MOk 36 := mB (mt3 (List.mem_of_getElem? (i := 129) rfl)) rfl
theorem mo_37 : MOk 37 := mB (mt2 (List.mem_of_getElem? (i := 226) rfl)) rfl
theorem mo_38 : MOk 38 := mB (mt3 (List.mem_of_getElem? (i := 4) rfl)) rfl
theorem mo_39 : MOk 39 := mB (mt3 (List.mem_of_getElem? (i := 202) rfl)) rfl
theorem mo_40 : MOk 40 := mB (mt3 (List.mem_of_getElem? (i := 223) rfl)) rfl
theorem mo_41 : MOk 41 := mB (mt3 (List.mem_of_getElem? (i := 227) rfl)) rfl
theorem mo_42 : MOk 42 := mB (mt3 (List.mem_of_getElem? (i := 219) rfl)) rfl
theorem mo_43 : MOk 43 := mB (mt3 (List.mem_of_getElem? (i := 215) rfl)) rfl
theorem mo_44 : MOk 44 := mB (mt3 (List.mem_of_getElem? (i := 211) rfl)) rfl
theorem mo_45 : MOk 45 := mB (mt4 (List.mem_of_getElem? (i := 44) rfl)) rfl
theorem mo_46 : MOk 46 := mB (mt2 (List.mem_of_getElem? (i := 205) rfl)) rfl
theorem mo_47 : MOk 47 := mB (mt4 (List.mem_of_getElem? (i := 121) rfl)) rfl
theorem mo_48 : MOk 48 := mB (mt2 (List.mem_of_getElem? (i := 217) rfl)) rfl
theorem mo_49 : MOk 49 := mB (mt3 (List.mem_of_getElem? (i := 90) rfl)) rfl
theorem mo_50 : MOk 50 := mB (mt3 (List.mem_of_getElem? (i := 44) rfl)) rfl
theorem mo_51 : MOk 51 := mB (mt3 (List.mem_of_getElem? (i := 109) rfl)) rfl
theorem mo_52 : MOk 52 := mB (mt3 (List.mem_of_getElem? (i := 113) rfl)) rfl
theorem mo_53 : MOk 53 := mB (mt3 (List.mem_of_getElem? (i := 94) rfl)) rfl
theorem mo_54 : MOk 54 := mB (mt2 (List.mem_of_getElem? (i := 173) rfl)) rfl
theorem mo_55 : MOk 55 := mB (mt2 (List.mem_of_getElem? (i := 181) rfl)) rfl
theorem mo_56 : MOk 56 := mB (mt2 (List.mem_of_getElem? (i := 193) rfl)) rfl
theorem mo_57 : MOk 57 := mB (mt2 (List.mem_of_getElem? (i := 189) rfl)) rfl
theorem mo_58 : MOk 58 := mB (mt2 (List.mem_of_getElem? (i := 201) rfl)) rfl
theorem mo_59 : MOk 59 := mB (mt2 (List.mem_of_getElem? (i := 213) rfl)) rfl
theorem mo_60 : MOk 60 := mB (mt3 (List.mem_of_getElem? (i := 74) rfl)) rfl
theorem mo_61 : MOk 61 := mB (mt3 (List.mem_of_getElem? (i := 151) rfl)) rfl
theorem mo_62 : MOk 62 := mB (mt3 (List.mem_of_getElem? (i := 0) rfl)) rfl
theorem mo_63 : MOk 63 := mB (mt3 (List.mem_of_getElem? (i := 175) rfl)) rfl
theorem mo_64 : MOk 64 := mB (mt3 (List.mem_of_getElem? (i := 167) rfl)) rfl
theorem mo_65 : MOk 65 := mB (mt2 (List.mem_of_getElem? (i := 169) rfl)) rfl
theorem mo_66 : MOk 66 := mB (mt2 (List.mem_of_getElem? (i := 177) rfl)) rfl
theorem mo_67 : MOk 67 := mB (mt2 (List.mem_of_getElem? (i := 185) rfl)) rfl
theorem mo_68 : MOk 68 := mB (mt3 (List.mem_of_getElem? (i := 8) rfl)) rfl
theorem mo_69 : MOk 69 := mB (mt4 (List.mem_of_getElem? (i := 150) rfl)) rfl
theorem mo_70 : MOk 70 := mB (mt3 (List.mem_of_getElem? (i := 14) rfl)) rfl
theorem mo_71 : MOk 71 := mB (mt3 (List.mem_of_getElem? (i := 48) rfl)) rfl
theorem mo_72 : MOk 72 := mB (mt3 (List.mem_of_getElem? (i := 58) rfl)) rfl
theorem mo_73 : MOk 73 := mB (mt3 (List.mem_of_getElem? (i := 231) rfl)) rfl
theorem mo_74 : MOk 74 := mB (mt4 (List.mem_of_getElem? (i := 218) rfl)) rfl
theorem mo_75 : MOk 75 := mB (mt4 (List.mem_of_getElem? (i := 227) rfl)) rfl
theorem mo_76 : MOk 76 := mB (mt4 (List.mem_of_getElem? (i := 235) rfl)) rfl
theorem mo_77 : MOk 77 := mB (mt3 (List.mem_of_getElem? (i := 239) rfl)) rfl
theorem mo_78 : MOk 78 := mB (mt4 (List.mem_of_getElem? (i := 7) rfl)) rfl
theorem mo_79 : MOk 79 := mB (mt4 (List.mem_of_getElem? (i := 12) rfl)) rfl
theorem mo_80 : MOk 80 := mB (mt4 (List.mem_of_getElem? (i := 16) rfl)) rfl
theorem mo_81 : MOk 81 := mB (mt4 (List.mem_of_getElem? (i := 20) rfl)) rfl
theorem mo_82 : MOk 82 := mB (mt5 (List.mem_of_getElem? (i := 2) rfl)) rfl
theorem mo_83 : MOk 83 := mB (mt4 (List.mem_of_getElem? (i := 27) rfl)) rfl
theorem mo_84 : MOk 84 := mB (mt4 (List.mem_of_getElem? (i := 31) rfl)) rfl
theorem mo_85 : MOk 85 := mB (mt4 (List.mem_of_getElem? (i := 36) rfl)) rfl
theorem mo_86 : MOk 86 := mB (mt4 (List.mem_of_getElem? (i := 40) rfl)) rfl
theorem mo_87 : MOk 87 := mB (mt4 (List.mem_of_getElem? (i := 48) rfl)) rfl
theorem mo_88 : MOk 88 := mB (mt4 (List.mem_of_getElem? (i := 52) rfl)) rfl
theorem mo_89 : MOk 89 := mB (mt4 (List.mem_of_getElem? (i := 62) rfl)) rfl
theorem mo_90 : MOk 90 := mB (mt4 (List.mem_of_getElem? (i := 67) rfl)) rfl
theorem mo_91 : MOk 91 := mB (mt4 (List.mem_of_getElem? (i := 76) rfl)) rfl
theorem mo_92 : MOk 92 := mB (mt4 (List.mem_of_getElem? (i := 80) rfl)) rfl
theorem mo_93 : MOk 93 := mB (mt4 (List.mem_of_getElem? (i := 84) rfl)) rfl
theorem mo_94 : MOk 94 := mB (mt4 (List.mem_of_getElem? (i := 96) rfl)) rfl
theorem mo_95 : MOk 95 := mB (mt4 (List.mem_of_getElem? (i := 117) rfl)) rfl
theorem mo_96 : MOk 96 := mB (mt4 (List.mem_of_getElem? (i := 125) rfl)) rfl
theorem mo_97 : MOk 97 := mB (mt4 (List.mem_of_getElem? (i := 134) rfl)) rfl
theorem mo_98 : MOk 98 := mB (mt4 (List.mem_of_getElem? (i := 138) rfl)) rfl
theorem mo_99 : MOk 99 := mB (mt4 (List.mem_of_getElem? (i := 142) rfl)) rfl
theorem mo_100 : MOk 100 := mB (mt5 (List.mem_of_getElem? (i := 9) rfl)) rfl
theorem mo_101 : MOk 101 := mB (mt4 (List.mem_of_getElem? (i := 3) rfl)) rfl
theorem mo_102 : MOk 102 := mB (mt3 (List.mem_of_getElem? (i := 17) rfl)) rfl
theorem mo_103 : MOk 103 := mB (mt2 (List.mem_of_getElem? (i := 197) rfl)) rfl
theorem mo_104 : MOk 104 := mB (mt3 (List.mem_of_getElem? (i := 28) rfl)) rfl
theorem mo_105 : MOk 105 := mB (mt3 (List.mem_of_getElem? (i := 32) rfl)) rfl
theorem mo_106 : MOk 106 := mB (mt4 (List.mem_of_getElem? (i := 55) rfl)) rfl
theorem mo_107 : MOk 107 := mB (mt4 (List.mem_of_getElem? (i := 58) rfl)) rfl
theorem mo_108 : MOk 108 := mB (mt4 (List.mem_of_getElem? (i := 88) rfl)) rfl
theorem mo_109 : MOk 109 := mB (mt4 (List.mem_of_getElem? (i := 109) rfl)) rfl
theorem mo_110 : MOk 110 := mB (mt4 (List.mem_of_getElem? (i := 100) rfl)) rfl
theorem mo_111 : MOk 111 := mB (mt4 (List.mem_of_getElem? (i := 104) rfl)) rfl
theorem mo_112 : MOk 112 := mB (mt4 (List.mem_of_getElem? (i := 113) rfl)) rfl
theorem mo_113 : MOk 113 := mB (mt4 (List.mem_of_getElem? (i := 130) rfl)) rfl
theorem mo_114 : MOk 114 := mB (mt5 (List.mem_of_getElem? (i := 86) rfl)) rfl
theorem mo_115 : MOk 115 := mB (mt5 (List.mem_of_getElem? (i := 97) rfl)) rfl
theorem mo_116 : MOk 116 := mB (mt5 (List.mem_of_getElem? (i := 219) rfl)) rfl
theorem mo_117 : MOk 117 := mB (mt5 (List.mem_of_getElem? (i := 155) rfl)) rfl
theorem mo_118 : MOk 118 := mB (mt6 (List.mem_of_getElem? (i := 73) rfl)) rfl
theorem mo_119 : MOk 119 := mB (mt6 (List.mem_of_getElem? (i := 161) rfl)) rfl
theorem mo_120 : MOk 120 := mB (mt6 (List.mem_of_getElem? (i := 144) rfl)) rfl
theorem mo_121 : MOk 121 := mB (mt5 (List.mem_of_getElem? (i := 196) rfl)) rfl
theorem mo_122 : MOk 122 := mB (mt5 (List.mem_of_getElem? (i := 162) rfl)) rfl
theorem mo_123 : MOk 123 := mB (mt5 (List.mem_of_getElem? (i := 177) rfl)) rfl
theorem mo_124 : MOk 124 := mB (mt5 (List.mem_of_getElem? (i := 173) rfl)) rfl
theorem mo_125 : MOk 125 := mB (mt5 (List.mem_of_getElem? (i := 140) rfl)) rfl
theorem mo_126 : MOk 126 := mB (mt5 (List.mem_of_getElem? (i := 184) rfl)) rfl
theorem mo_127 : MOk 127 := mB (mt5 (List.mem_of_getElem? (i := 169) rfl)) rfl
theorem mo_128 : MOk 128 := mB (mt6 (List.mem_of_getElem? (i := 15) rfl)) rfl
theorem mo_129 : MOk 129 := mB (mt5 (List.mem_of_getElem? (i := 90) rfl)) rfl
theorem mo_130 : MOk 130 := mB (mt5 (List.mem_of_getElem? (i := 94) rfl)) rfl
theorem mo_131 : MOk 131 := mB (mt5 (List.mem_of_getElem? (i := 105) rfl)) rfl
theorem mo_132 : MOk 132 := mB (mt5 (List.mem_of_getElem? (i := 117) rfl)) rfl
theorem mo_133 : MOk 133 := mB (mt5 (List.mem_of_getElem? (i := 113) rfl)) rfl
theorem mo_134 : MOk 134 := mB (mt5 (List.mem_of_getElem? (i := 121) rfl)) rfl
theorem mo_135 : MOk 135 := mB (mt5 (List.mem_of_getElem? (i := 109) rfl)) rfl
theorem mo_136 : MOk 136 := mB (mt6 (List.mem_of_getElem? (i := 214) rfl)) rfl
theorem mo_137 : MOk 137 := mB (mt5 (List.mem_of_getElem? (i := 129) rfl)) rfl
theorem mo_138 : MOk 138 := mB (mt5 (List.mem_of_getElem? (i := 125) rfl)) rfl
theorem mo_139 : MOk 139 := mB (mt5 (List.mem_of_getElem? (i := 101) rfl)) rfl
theorem mo_140 : MOk 140 := mB (mt5 (List.mem_of_getElem? (i := 147) rfl)) rfl
theorem mo_141 : MOk 141 := mB (mt5 (List.mem_of_getElem? (i := 144) rfl)) rfl
theorem mo_142 : MOk 142 := mB (mt5 (List.mem_of_getElem? (i := 151) rfl)) rfl
theorem mo_143 : MOk 143 := mB (mt5 (List.mem_of_getElem? (i := 166) rfl)) rfl
theorem mo_144 : MOk 144 := mB (mt5 (List.mem_of_getElem? (i := 159) rfl)) rfl
theorem mo_145 : MOk 145 := mB (mt5 (List.mem_of_getElem? (i := 181) rfl)) rfl
theorem mo_146 : MOk 146 := mB (mt6 (List.mem_of_getElem? (i := 6) rfl)) rfl
theorem mo_147 : MOk 147 := mB (mt5 (List.mem_of_getElem? (i := 192) rfl)) rfl
theorem mo_148 : MOk 148 := mB (mt5 (List.mem_of_getElem? (i := 188) rfl)) rfl
theorem mo_149 : MOk 149 := mB (mt5 (List.mem_of_getElem? (i := 216) rfl)) rfl
theorem mo_150 : MOk 150 := mB (mt5 (List.mem_of_getElem? (i := 223) rfl)) rfl
theorem mo_151 : MOk 151 := mB (mt5 (List.mem_of_getElem? (i := 234) rfl)) rfl
theorem mo_152 : MOk 152 := mB (mt6 (List.mem_of_getElem? (i := 11) rfl)) rfl
theorem mo_153 : MOk 153 := mB (mt6 (List.mem_of_getElem? (i := 2) rfl)) rfl
theorem mo_154 : MOk 154 := mB (mt5 (List.mem_of_getElem? (i := 238) rfl)) rfl
theorem mo_155 : MOk 155 := mB (mt5 (List.mem_of_getElem? (i := 230) rfl)) rfl
theorem mo_156 : MOk 156 := mB (mt5 (List.mem_of_getElem? (i := 227) rfl)) rfl
theorem mo_157 : MOk 157 := mB (mt5 (List.mem_of_getElem? (i := 212) rfl)) rfl
theorem mo_158 : MOk 158 := mB (mt6 (List.mem_of_getElem? (i := 20) rfl)) rfl
theorem mo_159 : MOk 159 := mB (mt6 (List.mem_of_getElem? (i := 28) rfl)) rfl
theorem mo_160 : MOk 160 := mB (mt6 (List.mem_of_getElem? (i := 24) rfl)) rfl
theorem mo_161 : MOk 161 := mB (mt6 (List.mem_of_getElem? (i := 48) rfl)) rfl
theorem mo_162 : MOk 162 := mB (mt6 (List.mem_of_getElem? (i := 44) rfl)) rfl
theorem mo_163 : MOk 163 := mB (mt6 (List.mem_of_getElem? (i := 52) rfl)) rfl
theorem mo_164 : MOk 164 := mB (mt6 (List.mem_of_getElem? (i := 56) rfl)) rfl
theorem mo_165 : MOk 165 := mB (mt6 (List.mem_of_getElem? (i := 61) rfl)) rfl
theorem mo_166 : MOk 166 := mB (mt6 (List.mem_of_getElem? (i := 65) rfl)) rfl
theorem mo_167 : MOk 167 := mB (mt6 (List.mem_of_getElem? (i := 40) rfl)) rfl
theorem mo_168 : MOk 168 := mB (mt6 (List.mem_of_getElem? (i := 69) rfl)) rfl
theorem mo_169 : MOk 169 := mB (mt6 (List.mem_of_getElem? (i := 32) rfl)) rfl
theorem mo_170 : MOk 170 := mB (mt5 (List.mem_of_getElem? (i := 208) rfl)) rfl
theorem mo_171 : MOk 171 := mB (mt5 (List.mem_of_getElem? (i := 204) rfl)) rfl
theorem mo_172 : MOk 172 := mB (mt5 (List.mem_of_getElem? (i := 200) rfl)) rfl
theorem mo_173 : MOk 173 := mB (mt6 (List.mem_of_getElem? (i := 81) rfl)) rfl
theorem mo_174 : MOk 174 := mB (mt6 (List.mem_of_getElem? (i := 77) rfl)) rfl
theorem mo_175 : MOk 175 := mB (mt6 (List.mem_of_getElem? (i := 36) rfl)) rfl
theorem mo_176 : MOk 176 := mB (mt6 (List.mem_of_getElem? (i := 178) rfl)) rfl
theorem mo_177 : MOk 177 := mB (mt6 (List.mem_of_getElem? (i := 89) rfl)) rfl
theorem mo_178 : MOk 178 := mB (mt6 (List.mem_of_getElem? (i := 85) rfl)) rfl
theorem mo_179 : MOk 179 := mB (mt6 (List.mem_of_getElem? (i := 93) rfl)) rfl
theorem mo_180 : MOk 180 := mB (mt6 (List.mem_of_getElem? (i := 97) rfl)) rfl
theorem mo_181 : MOk 181 := mB (mt6 (List.mem_of_getElem? (i := 101) rfl)) rfl
theorem mo_182 : MOk 182 := mB (mt6 (List.mem_of_getElem? (i := 105) rfl)) rfl
theorem mo_183 : MOk 183 := mB (mt6 (List.mem_of_getElem? (i := 109) rfl)) rfl
theorem mo_184 : MOk 184 := mB (mt6 (List.mem_of_getElem? (i := 113) rfl)) rfl
theorem mo_185 : MOk 185 := mB (mt6 (List.mem_of_getElem? (i := 117) rfl)) rfl
theorem mo_186 : MOk 186 := mB (mt6 (List.mem_of_getElem? (i := 121) rfl)) rfl
theorem mo_187 : MOk 187 := mB (mt6 (List.mem_of_getElem? (i := 125) rfl)) rfl
theorem mo_188 : MOk 188 := mB (mt6 (List.mem_of_getElem? (i := 129) rfl)) rfl
theorem mo_189 : MOk 189 := mB (mt6 (List.mem_of_getElem? (i := 133) rfl)) rfl
theorem mo_190 : MOk 190 := mB (mt6 (List.mem_of_getElem? (i := 137) rfl)) rfl
theorem mo_191 : MOk 191 := mB (mt6 (List.mem_of_getElem? (i := 141) rfl)) rfl
theorem mo_192 : MOk 192 := mB (mt6 (List.mem_of_getElem? (i := 148) rfl)) rfl
theorem mo_193 : MOk 193 := mB (mt6 (List.mem_of_getElem? (i := 158) rfl)) rfl
theorem mo_194 : MOk 194 := mB (mt6 (List.mem_of_getElem? (i := 155) rfl)) rfl
theorem mo_195 : MOk 195 := mB (mt6 (List.mem_of_getElem? (i := 152) rfl)) rfl
theorem mo_196 : MOk 196 := mB (mt6 (List.mem_of_getElem? (i := 165) rfl)) rfl
theorem mo_197 : MOk 197 := mB (mt6 (List.mem_of_getElem? (i := 174) rfl)) rfl
theorem mo_198 : MOk 198 := mB (mt6 (List.mem_of_getElem? (i := 182) rfl)) rfl
theorem mo_199 : MOk 199 := mB (mt6 (List.mem_of_getElem? (i := 170) rfl)) rfl
theorem mo_200 : MOk 200 := mB (mt6 (List.mem_of_getElem? (i := 190) rfl)) rfl
theorem mo_201 : MOk 201 := mB (mt6 (List.mem_of_getElem? (i := 186) rfl)) rfl
theorem mo_202 : MOk 202 := mB (mt6 (List.mem_of_getElem? (i := 194) rfl)) rfl
theorem mo_203 : MOk 203 := mB (mt6 (List.mem_of_getElem? (i := 202) rfl)) rfl
theorem mo_204 : MOk 204 := mB (mt6 (List.mem_of_getElem? (i := 198) rfl)) rfl
theorem mo_205 : MOk 205 := mB (mt6 (List.mem_of_getElem? (i := 210) rfl)) rfl
theorem mo_206 : MOk 206 := mB (mt6 (List.mem_of_getElem? (i := 218) rfl)) rfl
theorem mo_207 : MOk 207 := mB (mt6 (List.mem_of_getElem? (i := 206) rfl)) rfl
theorem mo_208 : MOk 208 := mB (mt5 (List.mem_of_getElem? (i := 133) rfl)) rfl
theorem mo_209 : MOk 209 := mB (mt5 (List.mem_of_getElem? (i := 137) rfl)) rfl
theorem mo_210 : MOk 210 := mB (mt6 (List.mem_of_getElem? (i := 222) rfl)) rfl
theorem mo_211 : MOk 211 := mB (mt6 (List.mem_of_getElem? (i := 230) rfl)) rfl
theorem mo_212 : MOk 212 := mB (mt6 (List.mem_of_getElem? (i := 226) rfl)) rfl
theorem mo_213 : MOk 213 := mB (mt6 (List.mem_of_getElem? (i := 234) rfl)) rfl
theorem mo_214 : MOk 214 := mB (mt6 (List.mem_of_getElem? (i := 238) rfl)) rfl
theorem mo_215 : MOk 215 := mB (mt7 (List.mem_of_getElem? (i := 6) rfl)) rfl
theorem mo_216 : MOk 216 := mB (mt7 (List.mem_of_getElem? (i := 2) rfl)) rfl
theorem mo_217 : MOk 217 := mB (mt7 (List.mem_of_getElem? (i := 10) rfl)) rfl
theorem mo_218 : MOk 218 := mB (mt3 (List.mem_of_getElem? (i := 136) rfl)) rfl
def PLs : List Nat := [0, 1, 2, 3, 4, 5, 6, 7, 8, 9, 10, 11, 12, 13, 14, 15, 16, 17, 18, 19, 20, 21, 22, 23, 24, 25, 26, 27, 28, 29, 30, 31, 32, 33, 34, 35, 36, 37, 38, 39, 40, 41, 42, 43, 44, 45, 46, 47, 48, 49, 50, 51, 52, 53, 54, 55, 56, 57, 58, 59, 60, 61, 62, 63, 64, 65, 66, 67, 68, 69, 70, 71, 72, 73, 74, 75, 76, 77, 78, 79, 80, 81, 82, 83, 84, 85, 86, 87, 88, 89, 90, 91, 92, 93, 94, 95, 96, 97, 98, 99, 100, 101, 102, 103, 104, 105, 106, 107, 108, 109, 110, 111, 112, 113, 114, 115, 116, 117, 118, 119, 120, 121, 122, 123, 124, 125, 126, 127, 128, 129, 130, 131, 132, 133, 134, 135, 136, 137, 138, 139, 140, 141, 142, 143, 144, 145, 146, 147, 148, 149, 150, 151, 152, 153, 154, 155, 156, 157, 158, 159, 160, 161, 162, 163, 164, 165, 166, 167, 168, 169, 170, 171, 172, 173, 174, 175, 176, 177, 178, 179, 180, 181, 182, 183, 184, 185, 186, 187, 188, 189, 190, 191, 192, 193, 194, 195, 196, 197, 198, 199, 200, 201, 202, 203, 204, 205, 206, 207, 208, 209, 210, 211, 212, 213, 214, 215, 216, 217, 218]
def MLok (r : Nat × Nat × Nat × Nat × Nat) : Prop := match r.2.2.2.1 with
  | 0 => Cond.methodLink (cn r.1) r.2.1 (mrow r.2.2.1).1 ∈ mBig ∧ Cond.instanceMethod (mrow r.2.2.1).1 ∈ mBig ∧ Cond.selects (mrow r.2.2.1).1.cls (mrow r.2.2.1).1 (mrow r.2.2.1).1 ∈ mBig ∧ Cond.initialized (mrow r.2.2.1).1.cls ∈ mBig ∧ ((mrow r.2.2.1).1.cls ≠ "java/lang/invoke/MethodHandle" ∧ (mrow r.2.2.1).1.cls ≠ "java/lang/invoke/VarHandle" ∧ (parseMethodDescriptor (mrow r.2.2.1).1.desc).map (fun d => d.parameters.length + 1) = some r.2.2.2.2) ∧ MOk r.2.2.1 ∧ (mrow r.2.2.1).1.cls = cn (mrow r.2.2.1).2.2.2.2.1
  | _ => (Cond.methodLink (cn r.1) r.2.1 (mrow r.2.2.1).1 ∈ mBig ∨ Cond.methodLinkNest (cn r.1) r.2.1 (mrow r.2.2.1).1 "SharedAir" ∈ tables_1) ∧ Cond.static (mrow r.2.2.1).1 ∈ mBig ∧ Cond.initialized (mrow r.2.2.1).1.cls ∈ mBig ∧ ((mrow r.2.2.1).1.cls ≠ "java/lang/invoke/MethodHandle" ∧ (mrow r.2.2.1).1.cls ≠ "java/lang/invoke/VarHandle" ∧ (parseMethodDescriptor (mrow r.2.2.1).1.desc).map (fun d => d.parameters.length) = some r.2.2.2.2) ∧ MOk r.2.2.1 ∧ (mrow r.2.2.1).1.cls = cn (mrow r.2.2.1).2.2.2.2.1
theorem ml_0 : MLok (0, 45, 59, 0, 2) := ⟨mB (mt2 (List.mem_of_getElem? (i := 210) (by decide +kernel))) rfl, mB (mt2 (List.mem_of_getElem? (i := 211) (by decide +kernel))) rfl, mB (mt2 (List.mem_of_getElem? (i := 212) (by decide +kernel))) rfl, mB (mt1 (List.mem_of_getElem? (i := 5) (by decide +kernel))) rfl, ⟨by decide +kernel, by decide +kernel, by decide +kernel⟩, mo_59, rfl⟩
theorem ml_1 : MLok (0, 77, 2, 0, 3) := ⟨mB (mt2 (List.mem_of_getElem? (i := 233) (by decide +kernel))) rfl, mB (mt2 (List.mem_of_getElem? (i := 235) (by decide +kernel))) rfl, mB (List.mem_append_left _ (List.mem_of_getElem? (i := 1) (by decide +kernel))) rfl, mB (mt1 (List.mem_of_getElem? (i := 2) (by decide +kernel))) rfl, ⟨by decide +kernel, by decide +kernel, by decide +kernel⟩, mo_2, rfl⟩
theorem ml_2 : MLok (0, 129, 62, 0, 3) := ⟨mB (mt2 (List.mem_of_getElem? (i := 237) (by decide +kernel))) rfl, mB (mt2 (List.mem_of_getElem? (i := 238) (by decide +kernel))) rfl, mB (mt2 (List.mem_of_getElem? (i := 239) (by decide +kernel))) rfl, mB (mt1 (List.mem_of_getElem? (i := 5) (by decide +kernel))) rfl, ⟨by decide +kernel, by decide +kernel, by decide +kernel⟩, mo_62, rfl⟩
theorem ml_3 : MLok (0, 137, 38, 0, 1) := ⟨mB (mt3 (List.mem_of_getElem? (i := 1) (by decide +kernel))) rfl, mB (mt3 (List.mem_of_getElem? (i := 2) (by decide +kernel))) rfl, mB (mt3 (List.mem_of_getElem? (i := 3) (by decide +kernel))) rfl, mB (mt1 (List.mem_of_getElem? (i := 7) (by decide +kernel))) rfl, ⟨by decide +kernel, by decide +kernel, by decide +kernel⟩, mo_38, rfl⟩
theorem ml_4 : MLok (0, 145, 61, 0, 1) := ⟨mB (mt3 (List.mem_of_getElem? (i := 148) (by decide +kernel))) rfl, mB (mt3 (List.mem_of_getElem? (i := 149) (by decide +kernel))) rfl, mB (mt3 (List.mem_of_getElem? (i := 150) (by decide +kernel))) rfl, mB (mt1 (List.mem_of_getElem? (i := 5) (by decide +kernel))) rfl, ⟨by decide +kernel, by decide +kernel, by decide +kernel⟩, mo_61, rfl⟩
theorem ml_5 : MLok (0, 149, 102, 1, 1) := ⟨Or.inr (mu3 (List.mem_of_getElem? (i := 53) (by decide +kernel))), mB (mt3 (List.mem_of_getElem? (i := 16) (by decide +kernel))) rfl, mB (mt1 (List.mem_of_getElem? (i := 1) (by decide +kernel))) rfl, ⟨by decide +kernel, by decide +kernel, by decide +kernel⟩, mo_102, rfl⟩
theorem ml_6 : MLok (0, 153, 3, 0, 3) := ⟨mB (mt3 (List.mem_of_getElem? (i := 54) (by decide +kernel))) rfl, mB (mt3 (List.mem_of_getElem? (i := 34) (by decide +kernel))) rfl, mB (mt3 (List.mem_of_getElem? (i := 35) (by decide +kernel))) rfl, mB (mt1 (List.mem_of_getElem? (i := 2) (by decide +kernel))) rfl, ⟨by decide +kernel, by decide +kernel, by decide +kernel⟩, mo_3, rfl⟩
theorem ml_7 : MLok (0, 157, 50, 0, 4) := ⟨mB (mt3 (List.mem_of_getElem? (i := 41) (by decide +kernel))) rfl, mB (mt3 (List.mem_of_getElem? (i := 42) (by decide +kernel))) rfl, mB (mt3 (List.mem_of_getElem? (i := 43) (by decide +kernel))) rfl, mB (mt1 (List.mem_of_getElem? (i := 8) (by decide +kernel))) rfl, ⟨by decide +kernel, by decide +kernel, by decide +kernel⟩, mo_50, rfl⟩
theorem ml_8 : MLok (0, 164, 34, 0, 2) := ⟨mB (mt3 (List.mem_of_getElem? (i := 117) (by decide +kernel))) rfl, mB (mt3 (List.mem_of_getElem? (i := 118) (by decide +kernel))) rfl, mB (mt3 (List.mem_of_getElem? (i := 119) (by decide +kernel))) rfl, mB (mt1 (List.mem_of_getElem? (i := 3) (by decide +kernel))) rfl, ⟨by decide +kernel, by decide +kernel, by decide +kernel⟩, mo_34, rfl⟩
theorem ml_9 : MLok (0, 168, 14, 0, 1) := ⟨mB (mt3 (List.mem_of_getElem? (i := 67) (by decide +kernel))) rfl, mB (mt3 (List.mem_of_getElem? (i := 69) (by decide +kernel))) rfl, mB (List.mem_append_left _ (List.mem_of_getElem? (i := 3) (by decide +kernel))) rfl, mB (mt1 (List.mem_of_getElem? (i := 2) (by decide +kernel))) rfl, ⟨by decide +kernel, by decide +kernel, by decide +kernel⟩, mo_14, rfl⟩
theorem ml_10 : MLok (0, 171, 60, 0, 1) := ⟨mB (mt3 (List.mem_of_getElem? (i := 71) (by decide +kernel))) rfl, mB (mt3 (List.mem_of_getElem? (i := 72) (by decide +kernel))) rfl, mB (mt3 (List.mem_of_getElem? (i := 73) (by decide +kernel))) rfl, mB (mt1 (List.mem_of_getElem? (i := 5) (by decide +kernel))) rfl, ⟨by decide +kernel, by decide +kernel, by decide +kernel⟩, mo_60, rfl⟩
theorem ml_11 : MLok (0, 175, 15, 0, 2) := ⟨mB (mt3 (List.mem_of_getElem? (i := 75) (by decide +kernel))) rfl, mB (mt3 (List.mem_of_getElem? (i := 77) (by decide +kernel))) rfl, mB (List.mem_append_left _ (List.mem_of_getElem? (i := 4) (by decide +kernel))) rfl, mB (mt1 (List.mem_of_getElem? (i := 2) (by decide +kernel))) rfl, ⟨by decide +kernel, by decide +kernel, by decide +kernel⟩, mo_15, rfl⟩
theorem ml_12 : MLok (0, 179, 18, 0, 1) := ⟨mB (mt3 (List.mem_of_getElem? (i := 122) (by decide +kernel))) rfl, mB (mt3 (List.mem_of_getElem? (i := 124) (by decide +kernel))) rfl, mB (List.mem_append_left _ (List.mem_of_getElem? (i := 7) (by decide +kernel))) rfl, mB (mt1 (List.mem_of_getElem? (i := 2) (by decide +kernel))) rfl, ⟨by decide +kernel, by decide +kernel, by decide +kernel⟩, mo_18, rfl⟩
theorem ml_13 : MLok (0, 182, 21, 0, 1) := ⟨mB (mt3 (List.mem_of_getElem? (i := 130) (by decide +kernel))) rfl, mB (mt3 (List.mem_of_getElem? (i := 132) (by decide +kernel))) rfl, mB (List.mem_append_left _ (List.mem_of_getElem? (i := 8) (by decide +kernel))) rfl, mB (mt1 (List.mem_of_getElem? (i := 2) (by decide +kernel))) rfl, ⟨by decide +kernel, by decide +kernel, by decide +kernel⟩, mo_21, rfl⟩
theorem ml_14 : MLok (0, 185, 22, 0, 1) := ⟨mB (mt3 (List.mem_of_getElem? (i := 144) (by decide +kernel))) rfl, mB (mt3 (List.mem_of_getElem? (i := 146) (by decide +kernel))) rfl, mB (List.mem_append_left _ (List.mem_of_getElem? (i := 10) (by decide +kernel))) rfl, mB (mt1 (List.mem_of_getElem? (i := 2) (by decide +kernel))) rfl, ⟨by decide +kernel, by decide +kernel, by decide +kernel⟩, mo_22, rfl⟩
theorem ml_15 : MLok (0, 194, 24, 0, 4) := ⟨mB (mt3 (List.mem_of_getElem? (i := 152) (by decide +kernel))) rfl, mB (mt3 (List.mem_of_getElem? (i := 154) (by decide +kernel))) rfl, mB (List.mem_append_left _ (List.mem_of_getElem? (i := 11) (by decide +kernel))) rfl, mB (mt1 (List.mem_of_getElem? (i := 2) (by decide +kernel))) rfl, ⟨by decide +kernel, by decide +kernel, by decide +kernel⟩, mo_24, rfl⟩
theorem ml_16 : MLok (0, 198, 25, 0, 4) := ⟨mB (mt3 (List.mem_of_getElem? (i := 168) (by decide +kernel))) rfl, mB (mt3 (List.mem_of_getElem? (i := 170) (by decide +kernel))) rfl, mB (List.mem_append_left _ (List.mem_of_getElem? (i := 14) (by decide +kernel))) rfl, mB (mt1 (List.mem_of_getElem? (i := 2) (by decide +kernel))) rfl, ⟨by decide +kernel, by decide +kernel, by decide +kernel⟩, mo_25, rfl⟩
theorem ml_17 : MLok (0, 201, 26, 0, 4) := ⟨mB (mt3 (List.mem_of_getElem? (i := 181) (by decide +kernel))) rfl, mB (mt3 (List.mem_of_getElem? (i := 183) (by decide +kernel))) rfl, mB (List.mem_append_left _ (List.mem_of_getElem? (i := 16) (by decide +kernel))) rfl, mB (mt1 (List.mem_of_getElem? (i := 2) (by decide +kernel))) rfl, ⟨by decide +kernel, by decide +kernel, by decide +kernel⟩, mo_26, rfl⟩
theorem ml_18 : MLok (0, 204, 29, 0, 4) := ⟨mB (mt3 (List.mem_of_getElem? (i := 191) (by decide +kernel))) rfl, mB (mt3 (List.mem_of_getElem? (i := 193) (by decide +kernel))) rfl, mB (List.mem_append_left _ (List.mem_of_getElem? (i := 17) (by decide +kernel))) rfl, mB (mt1 (List.mem_of_getElem? (i := 2) (by decide +kernel))) rfl, ⟨by decide +kernel, by decide +kernel, by decide +kernel⟩, mo_29, rfl⟩
theorem ml_19 : MLok (0, 207, 33, 0, 2) := ⟨mB (mt3 (List.mem_of_getElem? (i := 204) (by decide +kernel))) rfl, mB (mt3 (List.mem_of_getElem? (i := 206) (by decide +kernel))) rfl, mB (List.mem_append_left _ (List.mem_of_getElem? (i := 19) (by decide +kernel))) rfl, mB (mt1 (List.mem_of_getElem? (i := 2) (by decide +kernel))) rfl, ⟨by decide +kernel, by decide +kernel, by decide +kernel⟩, mo_33, rfl⟩
theorem ml_20 : MLok (0, 210, 12, 0, 3) := ⟨mB (mt3 (List.mem_of_getElem? (i := 79) (by decide +kernel))) rfl, mB (mt3 (List.mem_of_getElem? (i := 80) (by decide +kernel))) rfl, mB (mt3 (List.mem_of_getElem? (i := 81) (by decide +kernel))) rfl, mB (mt1 (List.mem_of_getElem? (i := 2) (by decide +kernel))) rfl, ⟨by decide +kernel, by decide +kernel, by decide +kernel⟩, mo_12, rfl⟩
theorem ml_21 : MLok (0, 213, 16, 0, 3) := ⟨mB (mt3 (List.mem_of_getElem? (i := 83) (by decide +kernel))) rfl, mB (mt3 (List.mem_of_getElem? (i := 85) (by decide +kernel))) rfl, mB (List.mem_append_left _ (List.mem_of_getElem? (i := 5) (by decide +kernel))) rfl, mB (mt1 (List.mem_of_getElem? (i := 2) (by decide +kernel))) rfl, ⟨by decide +kernel, by decide +kernel, by decide +kernel⟩, mo_16, rfl⟩
theorem ml_22 : MLok (0, 216, 32, 0, 3) := ⟨mB (mt3 (List.mem_of_getElem? (i := 102) (by decide +kernel))) rfl, mB (mt3 (List.mem_of_getElem? (i := 104) (by decide +kernel))) rfl, mB (List.mem_append_left _ (List.mem_of_getElem? (i := 6) (by decide +kernel))) rfl, mB (mt1 (List.mem_of_getElem? (i := 2) (by decide +kernel))) rfl, ⟨by decide +kernel, by decide +kernel, by decide +kernel⟩, mo_32, rfl⟩
theorem ml_23 : MLok (0, 219, 49, 0, 3) := ⟨mB (mt3 (List.mem_of_getElem? (i := 87) (by decide +kernel))) rfl, mB (mt3 (List.mem_of_getElem? (i := 88) (by decide +kernel))) rfl, mB (mt3 (List.mem_of_getElem? (i := 89) (by decide +kernel))) rfl, mB (mt1 (List.mem_of_getElem? (i := 8) (by decide +kernel))) rfl, ⟨by decide +kernel, by decide +kernel, by decide +kernel⟩, mo_49, rfl⟩
theorem ml_24 : MLok (0, 226, 53, 0, 2) := ⟨mB (mt3 (List.mem_of_getElem? (i := 91) (by decide +kernel))) rfl, mB (mt3 (List.mem_of_getElem? (i := 92) (by decide +kernel))) rfl, mB (mt3 (List.mem_of_getElem? (i := 93) (by decide +kernel))) rfl, mB (mt1 (List.mem_of_getElem? (i := 8) (by decide +kernel))) rfl, ⟨by decide +kernel, by decide +kernel, by decide +kernel⟩, mo_53, rfl⟩
theorem ml_25 : MLok (0, 234, 17, 1, 2) := ⟨Or.inl (mB (mt3 (List.mem_of_getElem? (i := 96) (by decide +kernel))) rfl), mB (mt3 (List.mem_of_getElem? (i := 97) (by decide +kernel))) rfl, mB (mt1 (List.mem_of_getElem? (i := 2) (by decide +kernel))) rfl, ⟨by decide +kernel, by decide +kernel, by decide +kernel⟩, mo_17, rfl⟩
theorem ml_26 : MLok (0, 264, 36, 0, 1) := ⟨mB (mt3 (List.mem_of_getElem? (i := 126) (by decide +kernel))) rfl, mB (mt3 (List.mem_of_getElem? (i := 127) (by decide +kernel))) rfl, mB (mt3 (List.mem_of_getElem? (i := 128) (by decide +kernel))) rfl, mB (mt1 (List.mem_of_getElem? (i := 6) (by decide +kernel))) rfl, ⟨by decide +kernel, by decide +kernel, by decide +kernel⟩, mo_36, rfl⟩
theorem ml_27 : MLok (0, 270, 19, 0, 2) := ⟨mB (mt3 (List.mem_of_getElem? (i := 140) (by decide +kernel))) rfl, mB (mt3 (List.mem_of_getElem? (i := 142) (by decide +kernel))) rfl, mB (List.mem_append_left _ (List.mem_of_getElem? (i := 9) (by decide +kernel))) rfl, mB (mt1 (List.mem_of_getElem? (i := 2) (by decide +kernel))) rfl, ⟨by decide +kernel, by decide +kernel, by decide +kernel⟩, mo_19, rfl⟩
theorem ml_28 : MLok (0, 273, 218, 1, 1) := ⟨Or.inl (mB (mt3 (List.mem_of_getElem? (i := 134) (by decide +kernel))) rfl), mB (mt3 (List.mem_of_getElem? (i := 135) (by decide +kernel))) rfl, mB (mt1 (List.mem_of_getElem? (i := 18) (by decide +kernel))) rfl, ⟨by decide +kernel, by decide +kernel, by decide +kernel⟩, mo_218, rfl⟩
theorem ml_29 : MLok (0, 287, 20, 0, 3) := ⟨mB (mt3 (List.mem_of_getElem? (i := 156) (by decide +kernel))) rfl, mB (mt3 (List.mem_of_getElem? (i := 158) (by decide +kernel))) rfl, mB (List.mem_append_left _ (List.mem_of_getElem? (i := 12) (by decide +kernel))) rfl, mB (mt1 (List.mem_of_getElem? (i := 2) (by decide +kernel))) rfl, ⟨by decide +kernel, by decide +kernel, by decide +kernel⟩, mo_20, rfl⟩
theorem ml_30 : MLok (0, 290, 64, 0, 4) := ⟨mB (mt3 (List.mem_of_getElem? (i := 164) (by decide +kernel))) rfl, mB (mt3 (List.mem_of_getElem? (i := 165) (by decide +kernel))) rfl, mB (mt3 (List.mem_of_getElem? (i := 166) (by decide +kernel))) rfl, mB (mt1 (List.mem_of_getElem? (i := 5) (by decide +kernel))) rfl, ⟨by decide +kernel, by decide +kernel, by decide +kernel⟩, mo_64, rfl⟩
theorem ml_31 : MLok (0, 293, 23, 0, 6) := ⟨mB (mt3 (List.mem_of_getElem? (i := 160) (by decide +kernel))) rfl, mB (mt3 (List.mem_of_getElem? (i := 162) (by decide +kernel))) rfl, mB (List.mem_append_left _ (List.mem_of_getElem? (i := 13) (by decide +kernel))) rfl, mB (mt1 (List.mem_of_getElem? (i := 2) (by decide +kernel))) rfl, ⟨by decide +kernel, by decide +kernel, by decide +kernel⟩, mo_23, rfl⟩
theorem ml_32 : MLok (0, 297, 63, 0, 3) := ⟨mB (mt3 (List.mem_of_getElem? (i := 172) (by decide +kernel))) rfl, mB (mt3 (List.mem_of_getElem? (i := 173) (by decide +kernel))) rfl, mB (mt3 (List.mem_of_getElem? (i := 174) (by decide +kernel))) rfl, mB (mt1 (List.mem_of_getElem? (i := 5) (by decide +kernel))) rfl, ⟨by decide +kernel, by decide +kernel, by decide +kernel⟩, mo_63, rfl⟩
theorem ml_33 : MLok (0, 300, 31, 0, 3) := ⟨mB (mt3 (List.mem_of_getElem? (i := 177) (by decide +kernel))) rfl, mB (mt3 (List.mem_of_getElem? (i := 179) (by decide +kernel))) rfl, mB (List.mem_append_left _ (List.mem_of_getElem? (i := 15) (by decide +kernel))) rfl, mB (mt1 (List.mem_of_getElem? (i := 2) (by decide +kernel))) rfl, ⟨by decide +kernel, by decide +kernel, by decide +kernel⟩, mo_31, rfl⟩
theorem ml_34 : MLok (0, 307, 27, 1, 2) := ⟨Or.inl (mB (mt3 (List.mem_of_getElem? (i := 185) (by decide +kernel))) rfl), mB (mt3 (List.mem_of_getElem? (i := 186) (by decide +kernel))) rfl, mB (mt1 (List.mem_of_getElem? (i := 2) (by decide +kernel))) rfl, ⟨by decide +kernel, by decide +kernel, by decide +kernel⟩, mo_27, rfl⟩
theorem ml_35 : MLok (0, 311, 28, 1, 2) := ⟨Or.inl (mB (mt3 (List.mem_of_getElem? (i := 188) (by decide +kernel))) rfl), mB (mt3 (List.mem_of_getElem? (i := 189) (by decide +kernel))) rfl, mB (mt1 (List.mem_of_getElem? (i := 2) (by decide +kernel))) rfl, ⟨by decide +kernel, by decide +kernel, by decide +kernel⟩, mo_28, rfl⟩
theorem ml_36 : MLok (0, 318, 30, 0, 3) := ⟨mB (mt3 (List.mem_of_getElem? (i := 195) (by decide +kernel))) rfl, mB (mt3 (List.mem_of_getElem? (i := 197) (by decide +kernel))) rfl, mB (List.mem_append_left _ (List.mem_of_getElem? (i := 18) (by decide +kernel))) rfl, mB (mt1 (List.mem_of_getElem? (i := 2) (by decide +kernel))) rfl, ⟨by decide +kernel, by decide +kernel, by decide +kernel⟩, mo_30, rfl⟩
theorem ml_37 : MLok (0, 324, 39, 0, 3) := ⟨mB (mt3 (List.mem_of_getElem? (i := 199) (by decide +kernel))) rfl, mB (mt3 (List.mem_of_getElem? (i := 200) (by decide +kernel))) rfl, mB (mt3 (List.mem_of_getElem? (i := 201) (by decide +kernel))) rfl, mB (mt1 (List.mem_of_getElem? (i := 7) (by decide +kernel))) rfl, ⟨by decide +kernel, by decide +kernel, by decide +kernel⟩, mo_39, rfl⟩
theorem ml_38 : MLok (0, 327, 52, 0, 2) := ⟨mB (mt3 (List.mem_of_getElem? (i := 110) (by decide +kernel))) rfl, mB (mt3 (List.mem_of_getElem? (i := 111) (by decide +kernel))) rfl, mB (mt3 (List.mem_of_getElem? (i := 112) (by decide +kernel))) rfl, mB (mt1 (List.mem_of_getElem? (i := 8) (by decide +kernel))) rfl, ⟨by decide +kernel, by decide +kernel, by decide +kernel⟩, mo_52, rfl⟩
theorem ml_39 : MLok (0, 330, 51, 0, 2) := ⟨mB (mt3 (List.mem_of_getElem? (i := 106) (by decide +kernel))) rfl, mB (mt3 (List.mem_of_getElem? (i := 107) (by decide +kernel))) rfl, mB (mt3 (List.mem_of_getElem? (i := 108) (by decide +kernel))) rfl, mB (mt1 (List.mem_of_getElem? (i := 8) (by decide +kernel))) rfl, ⟨by decide +kernel, by decide +kernel, by decide +kernel⟩, mo_51, rfl⟩
theorem ml_40 : MLok (4, 19, 40, 0, 1) := ⟨mB (mt3 (List.mem_of_getElem? (i := 220) (by decide +kernel))) rfl, mB (mt3 (List.mem_of_getElem? (i := 221) (by decide +kernel))) rfl, mB (mt3 (List.mem_of_getElem? (i := 222) (by decide +kernel))) rfl, mB (mt1 (List.mem_of_getElem? (i := 11) (by decide +kernel))) rfl, ⟨by decide +kernel, by decide +kernel, by decide +kernel⟩, mo_40, rfl⟩
theorem ml_41 : MLok (4, 22, 41, 0, 2) := ⟨mB (mt3 (List.mem_of_getElem? (i := 224) (by decide +kernel))) rfl, mB (mt3 (List.mem_of_getElem? (i := 225) (by decide +kernel))) rfl, mB (mt3 (List.mem_of_getElem? (i := 226) (by decide +kernel))) rfl, mB (mt1 (List.mem_of_getElem? (i := 11) (by decide +kernel))) rfl, ⟨by decide +kernel, by decide +kernel, by decide +kernel⟩, mo_41, rfl⟩
theorem ml_42 : MLok (4, 26, 42, 0, 2) := ⟨mB (mt3 (List.mem_of_getElem? (i := 216) (by decide +kernel))) rfl, mB (mt3 (List.mem_of_getElem? (i := 217) (by decide +kernel))) rfl, mB (mt3 (List.mem_of_getElem? (i := 218) (by decide +kernel))) rfl, mB (mt1 (List.mem_of_getElem? (i := 11) (by decide +kernel))) rfl, ⟨by decide +kernel, by decide +kernel, by decide +kernel⟩, mo_42, rfl⟩
theorem ml_43 : MLok (4, 29, 43, 0, 3) := ⟨mB (mt3 (List.mem_of_getElem? (i := 212) (by decide +kernel))) rfl, mB (mt3 (List.mem_of_getElem? (i := 213) (by decide +kernel))) rfl, mB (mt3 (List.mem_of_getElem? (i := 214) (by decide +kernel))) rfl, mB (mt1 (List.mem_of_getElem? (i := 11) (by decide +kernel))) rfl, ⟨by decide +kernel, by decide +kernel, by decide +kernel⟩, mo_43, rfl⟩
theorem ml_44 : MLok (5, 22, 0, 0, 2) := ⟨mB (mt2 (List.mem_of_getElem? (i := 206) (by decide +kernel))) rfl, mB (mt2 (List.mem_of_getElem? (i := 207) (by decide +kernel))) rfl, mB (mt2 (List.mem_of_getElem? (i := 208) (by decide +kernel))) rfl, mB (mt1 (List.mem_of_getElem? (i := 2) (by decide +kernel))) rfl, ⟨by decide +kernel, by decide +kernel, by decide +kernel⟩, mo_0, rfl⟩
theorem ml_45 : MLok (6, 31, 49, 0, 3) := ⟨mB (mt3 (List.mem_of_getElem? (i := 95) (by decide +kernel))) rfl, mB (mt3 (List.mem_of_getElem? (i := 88) (by decide +kernel))) rfl, mB (mt3 (List.mem_of_getElem? (i := 89) (by decide +kernel))) rfl, mB (mt1 (List.mem_of_getElem? (i := 8) (by decide +kernel))) rfl, ⟨by decide +kernel, by decide +kernel, by decide +kernel⟩, mo_49, rfl⟩
theorem ml_46 : MLok (7, 19, 56, 0, 2) := ⟨mB (mt2 (List.mem_of_getElem? (i := 190) (by decide +kernel))) rfl, mB (mt2 (List.mem_of_getElem? (i := 191) (by decide +kernel))) rfl, mB (mt2 (List.mem_of_getElem? (i := 192) (by decide +kernel))) rfl, mB (mt1 (List.mem_of_getElem? (i := 10) (by decide +kernel))) rfl, ⟨by decide +kernel, by decide +kernel, by decide +kernel⟩, mo_56, rfl⟩
theorem ml_47 : MLok (8, 46, 48, 0, 2) := ⟨mB (mt2 (List.mem_of_getElem? (i := 214) (by decide +kernel))) rfl, mB (mt2 (List.mem_of_getElem? (i := 215) (by decide +kernel))) rfl, mB (mt2 (List.mem_of_getElem? (i := 216) (by decide +kernel))) rfl, mB (mt1 (List.mem_of_getElem? (i := 8) (by decide +kernel))) rfl, ⟨by decide +kernel, by decide +kernel, by decide +kernel⟩, mo_48, rfl⟩
theorem ml_48 : MLok (8, 50, 35, 0, 2) := ⟨mB (mt2 (List.mem_of_getElem? (i := 219) (by decide +kernel))) rfl, mB (mt2 (List.mem_of_getElem? (i := 220) (by decide +kernel))) rfl, mB (mt2 (List.mem_of_getElem? (i := 221) (by decide +kernel))) rfl, mB (mt1 (List.mem_of_getElem? (i := 6) (by decide +kernel))) rfl, ⟨by decide +kernel, by decide +kernel, by decide +kernel⟩, mo_35, rfl⟩
theorem ml_49 : MLok (8, 53, 37, 0, 2) := ⟨mB (mt2 (List.mem_of_getElem? (i := 223) (by decide +kernel))) rfl, mB (mt2 (List.mem_of_getElem? (i := 224) (by decide +kernel))) rfl, mB (mt2 (List.mem_of_getElem? (i := 225) (by decide +kernel))) rfl, mB (mt1 (List.mem_of_getElem? (i := 7) (by decide +kernel))) rfl, ⟨by decide +kernel, by decide +kernel, by decide +kernel⟩, mo_37, rfl⟩
theorem ml_50 : MLok (8, 87, 62, 0, 3) := ⟨mB (mt3 (List.mem_of_getElem? (i := 176) (by decide +kernel))) rfl, mB (mt2 (List.mem_of_getElem? (i := 238) (by decide +kernel))) rfl, mB (mt2 (List.mem_of_getElem? (i := 239) (by decide +kernel))) rfl, mB (mt1 (List.mem_of_getElem? (i := 5) (by decide +kernel))) rfl, ⟨by decide +kernel, by decide +kernel, by decide +kernel⟩, mo_62, rfl⟩
theorem ml_51 : MLok (9, 59, 54, 0, 2) := ⟨mB (mt2 (List.mem_of_getElem? (i := 170) (by decide +kernel))) rfl, mB (mt2 (List.mem_of_getElem? (i := 171) (by decide +kernel))) rfl, mB (mt2 (List.mem_of_getElem? (i := 172) (by decide +kernel))) rfl, mB (mt1 (List.mem_of_getElem? (i := 10) (by decide +kernel))) rfl, ⟨by decide +kernel, by decide +kernel, by decide +kernel⟩, mo_54, rfl⟩
theorem ml_52 : MLok (9, 67, 55, 0, 2) := ⟨mB (mt2 (List.mem_of_getElem? (i := 178) (by decide +kernel))) rfl, mB (mt2 (List.mem_of_getElem? (i := 179) (by decide +kernel))) rfl, mB (mt2 (List.mem_of_getElem? (i := 180) (by decide +kernel))) rfl, mB (mt1 (List.mem_of_getElem? (i := 10) (by decide +kernel))) rfl, ⟨by decide +kernel, by decide +kernel, by decide +kernel⟩, mo_55, rfl⟩
theorem ml_53 : MLok (9, 70, 57, 0, 4) := ⟨mB (mt2 (List.mem_of_getElem? (i := 186) (by decide +kernel))) rfl, mB (mt2 (List.mem_of_getElem? (i := 187) (by decide +kernel))) rfl, mB (mt2 (List.mem_of_getElem? (i := 188) (by decide +kernel))) rfl, mB (mt1 (List.mem_of_getElem? (i := 10) (by decide +kernel))) rfl, ⟨by decide +kernel, by decide +kernel, by decide +kernel⟩, mo_57, rfl⟩
theorem ml_54 : MLok (9, 74, 103, 0, 2) := ⟨mB (mt2 (List.mem_of_getElem? (i := 194) (by decide +kernel))) rfl, mB (mt2 (List.mem_of_getElem? (i := 196) (by decide +kernel))) rfl, mB (List.mem_append_left _ (List.mem_of_getElem? (i := 0) (by decide +kernel))) rfl, mB (mt1 (List.mem_of_getElem? (i := 1) (by decide +kernel))) rfl, ⟨by decide +kernel, by decide +kernel, by decide +kernel⟩, mo_103, rfl⟩
theorem ml_55 : MLok (9, 78, 46, 0, 2) := ⟨mB (mt2 (List.mem_of_getElem? (i := 202) (by decide +kernel))) rfl, mB (mt2 (List.mem_of_getElem? (i := 203) (by decide +kernel))) rfl, mB (mt2 (List.mem_of_getElem? (i := 204) (by decide +kernel))) rfl, mB (mt1 (List.mem_of_getElem? (i := 9) (by decide +kernel))) rfl, ⟨by decide +kernel, by decide +kernel, by decide +kernel⟩, mo_46, rfl⟩
theorem ml_56 : MLok (9, 82, 1, 0, 3) := ⟨mB (mt2 (List.mem_of_getElem? (i := 229) (by decide +kernel))) rfl, mB (mt2 (List.mem_of_getElem? (i := 230) (by decide +kernel))) rfl, mB (mt2 (List.mem_of_getElem? (i := 231) (by decide +kernel))) rfl, mB (mt1 (List.mem_of_getElem? (i := 2) (by decide +kernel))) rfl, ⟨by decide +kernel, by decide +kernel, by decide +kernel⟩, mo_1, rfl⟩
theorem ml_57 : MLok (9, 101, 102, 1, 1) := ⟨Or.inl (mB (mt3 (List.mem_of_getElem? (i := 15) (by decide +kernel))) rfl), mB (mt3 (List.mem_of_getElem? (i := 16) (by decide +kernel))) rfl, mB (mt1 (List.mem_of_getElem? (i := 1) (by decide +kernel))) rfl, ⟨by decide +kernel, by decide +kernel, by decide +kernel⟩, mo_102, rfl⟩
theorem ml_58 : MLok (9, 104, 6, 0, 1) := ⟨mB (mt3 (List.mem_of_getElem? (i := 18) (by decide +kernel))) rfl, mB (mt3 (List.mem_of_getElem? (i := 19) (by decide +kernel))) rfl, mB (mt3 (List.mem_of_getElem? (i := 20) (by decide +kernel))) rfl, mB (mt1 (List.mem_of_getElem? (i := 2) (by decide +kernel))) rfl, ⟨by decide +kernel, by decide +kernel, by decide +kernel⟩, mo_6, rfl⟩
theorem ml_59 : MLok (9, 108, 7, 0, 2) := ⟨mB (mt3 (List.mem_of_getElem? (i := 22) (by decide +kernel))) rfl, mB (mt3 (List.mem_of_getElem? (i := 23) (by decide +kernel))) rfl, mB (mt3 (List.mem_of_getElem? (i := 24) (by decide +kernel))) rfl, mB (mt1 (List.mem_of_getElem? (i := 2) (by decide +kernel))) rfl, ⟨by decide +kernel, by decide +kernel, by decide +kernel⟩, mo_7, rfl⟩
theorem ml_60 : MLok (9, 115, 104, 1, 2) := ⟨Or.inl (mB (mt3 (List.mem_of_getElem? (i := 26) (by decide +kernel))) rfl), mB (mt3 (List.mem_of_getElem? (i := 27) (by decide +kernel))) rfl, mB (mt1 (List.mem_of_getElem? (i := 1) (by decide +kernel))) rfl, ⟨by decide +kernel, by decide +kernel, by decide +kernel⟩, mo_104, rfl⟩
theorem ml_61 : MLok (9, 119, 105, 0, 4) := ⟨mB (mt3 (List.mem_of_getElem? (i := 29) (by decide +kernel))) rfl, mB (mt3 (List.mem_of_getElem? (i := 31) (by decide +kernel))) rfl, mB (List.mem_append_left _ (List.mem_of_getElem? (i := 2) (by decide +kernel))) rfl, mB (mt1 (List.mem_of_getElem? (i := 1) (by decide +kernel))) rfl, ⟨by decide +kernel, by decide +kernel, by decide +kernel⟩, mo_105, rfl⟩
theorem ml_62 : MLok (9, 123, 8, 0, 5) := ⟨mB (mt3 (List.mem_of_getElem? (i := 49) (by decide +kernel))) rfl, mB (mt3 (List.mem_of_getElem? (i := 50) (by decide +kernel))) rfl, mB (mt3 (List.mem_of_getElem? (i := 51) (by decide +kernel))) rfl, mB (mt1 (List.mem_of_getElem? (i := 2) (by decide +kernel))) rfl, ⟨by decide +kernel, by decide +kernel, by decide +kernel⟩, mo_8, rfl⟩
theorem ml_63 : MLok (9, 127, 9, 0, 5) := ⟨mB (mt3 (List.mem_of_getElem? (i := 37) (by decide +kernel))) rfl, mB (mt3 (List.mem_of_getElem? (i := 38) (by decide +kernel))) rfl, mB (mt3 (List.mem_of_getElem? (i := 39) (by decide +kernel))) rfl, mB (mt1 (List.mem_of_getElem? (i := 2) (by decide +kernel))) rfl, ⟨by decide +kernel, by decide +kernel, by decide +kernel⟩, mo_9, rfl⟩
theorem ml_64 : MLok (9, 130, 4, 0, 2) := ⟨mB (mt3 (List.mem_of_getElem? (i := 59) (by decide +kernel))) rfl, mB (mt3 (List.mem_of_getElem? (i := 60) (by decide +kernel))) rfl, mB (mt3 (List.mem_of_getElem? (i := 61) (by decide +kernel))) rfl, mB (mt1 (List.mem_of_getElem? (i := 2) (by decide +kernel))) rfl, ⟨by decide +kernel, by decide +kernel, by decide +kernel⟩, mo_4, rfl⟩
theorem ml_65 : MLok (9, 133, 13, 0, 1) := ⟨mB (mt3 (List.mem_of_getElem? (i := 63) (by decide +kernel))) rfl, mB (mt3 (List.mem_of_getElem? (i := 64) (by decide +kernel))) rfl, mB (mt3 (List.mem_of_getElem? (i := 65) (by decide +kernel))) rfl, mB (mt1 (List.mem_of_getElem? (i := 2) (by decide +kernel))) rfl, ⟨by decide +kernel, by decide +kernel, by decide +kernel⟩, mo_13, rfl⟩
theorem ml_66 : MLok (9, 136, 44, 0, 4) := ⟨mB (mt3 (List.mem_of_getElem? (i := 208) (by decide +kernel))) rfl, mB (mt3 (List.mem_of_getElem? (i := 209) (by decide +kernel))) rfl, mB (mt3 (List.mem_of_getElem? (i := 210) (by decide +kernel))) rfl, mB (mt1 (List.mem_of_getElem? (i := 11) (by decide +kernel))) rfl, ⟨by decide +kernel, by decide +kernel, by decide +kernel⟩, mo_44, rfl⟩
theorem ml_67 : MLok (9, 140, 11, 0, 1) := ⟨mB (mt3 (List.mem_of_getElem? (i := 232) (by decide +kernel))) rfl, mB (mt3 (List.mem_of_getElem? (i := 233) (by decide +kernel))) rfl, mB (mt3 (List.mem_of_getElem? (i := 234) (by decide +kernel))) rfl, mB (mt1 (List.mem_of_getElem? (i := 2) (by decide +kernel))) rfl, ⟨by decide +kernel, by decide +kernel, by decide +kernel⟩, mo_11, rfl⟩
theorem ml_68 : MLok (9, 143, 101, 0, 2) := ⟨mB (mt4 (List.mem_of_getElem? (i := 0) (by decide +kernel))) rfl, mB (mt4 (List.mem_of_getElem? (i := 2) (by decide +kernel))) rfl, mB (List.mem_append_left _ (List.mem_of_getElem? (i := 20) (by decide +kernel))) rfl, mB (mt1 (List.mem_of_getElem? (i := 1) (by decide +kernel))) rfl, ⟨by decide +kernel, by decide +kernel, by decide +kernel⟩, mo_101, rfl⟩
theorem ml_69 : MLok (9, 158, 60, 0, 1) := ⟨mB (mt4 (List.mem_of_getElem? (i := 219) (by decide +kernel))) rfl, mB (mt3 (List.mem_of_getElem? (i := 72) (by decide +kernel))) rfl, mB (mt3 (List.mem_of_getElem? (i := 73) (by decide +kernel))) rfl, mB (mt1 (List.mem_of_getElem? (i := 5) (by decide +kernel))) rfl, ⟨by decide +kernel, by decide +kernel, by decide +kernel⟩, mo_60, rfl⟩
theorem ml_70 : MLok (9, 171, 61, 0, 1) := ⟨mB (mt4 (List.mem_of_getElem? (i := 220) (by decide +kernel))) rfl, mB (mt3 (List.mem_of_getElem? (i := 149) (by decide +kernel))) rfl, mB (mt3 (List.mem_of_getElem? (i := 150) (by decide +kernel))) rfl, mB (mt1 (List.mem_of_getElem? (i := 5) (by decide +kernel))) rfl, ⟨by decide +kernel, by decide +kernel, by decide +kernel⟩, mo_61, rfl⟩
theorem ml_71 : MLok (9, 189, 12, 0, 3) := ⟨mB (mt4 (List.mem_of_getElem? (i := 228) (by decide +kernel))) rfl, mB (mt3 (List.mem_of_getElem? (i := 80) (by decide +kernel))) rfl, mB (mt3 (List.mem_of_getElem? (i := 81) (by decide +kernel))) rfl, mB (mt1 (List.mem_of_getElem? (i := 2) (by decide +kernel))) rfl, ⟨by decide +kernel, by decide +kernel, by decide +kernel⟩, mo_12, rfl⟩
theorem ml_72 : MLok (9, 235, 43, 0, 3) := ⟨mB (mt4 (List.mem_of_getElem? (i := 8) (by decide +kernel))) rfl, mB (mt3 (List.mem_of_getElem? (i := 213) (by decide +kernel))) rfl, mB (mt3 (List.mem_of_getElem? (i := 214) (by decide +kernel))) rfl, mB (mt1 (List.mem_of_getElem? (i := 11) (by decide +kernel))) rfl, ⟨by decide +kernel, by decide +kernel, by decide +kernel⟩, mo_43, rfl⟩
theorem ml_73 : MLok (9, 248, 3, 0, 3) := ⟨mB (mt3 (List.mem_of_getElem? (i := 33) (by decide +kernel))) rfl, mB (mt3 (List.mem_of_getElem? (i := 34) (by decide +kernel))) rfl, mB (mt3 (List.mem_of_getElem? (i := 35) (by decide +kernel))) rfl, mB (mt1 (List.mem_of_getElem? (i := 2) (by decide +kernel))) rfl, ⟨by decide +kernel, by decide +kernel, by decide +kernel⟩, mo_3, rfl⟩
theorem ml_74 : MLok (9, 260, 40, 0, 1) := ⟨mB (mt4 (List.mem_of_getElem? (i := 21) (by decide +kernel))) rfl, mB (mt3 (List.mem_of_getElem? (i := 221) (by decide +kernel))) rfl, mB (mt3 (List.mem_of_getElem? (i := 222) (by decide +kernel))) rfl, mB (mt1 (List.mem_of_getElem? (i := 11) (by decide +kernel))) rfl, ⟨by decide +kernel, by decide +kernel, by decide +kernel⟩, mo_40, rfl⟩
theorem ml_75 : MLok (9, 265, 41, 0, 2) := ⟨mB (mt4 (List.mem_of_getElem? (i := 23) (by decide +kernel))) rfl, mB (mt3 (List.mem_of_getElem? (i := 225) (by decide +kernel))) rfl, mB (mt3 (List.mem_of_getElem? (i := 226) (by decide +kernel))) rfl, mB (mt1 (List.mem_of_getElem? (i := 11) (by decide +kernel))) rfl, ⟨by decide +kernel, by decide +kernel, by decide +kernel⟩, mo_41, rfl⟩
theorem ml_76 : MLok (9, 291, 42, 0, 2) := ⟨mB (mt4 (List.mem_of_getElem? (i := 32) (by decide +kernel))) rfl, mB (mt3 (List.mem_of_getElem? (i := 217) (by decide +kernel))) rfl, mB (mt3 (List.mem_of_getElem? (i := 218) (by decide +kernel))) rfl, mB (mt1 (List.mem_of_getElem? (i := 11) (by decide +kernel))) rfl, ⟨by decide +kernel, by decide +kernel, by decide +kernel⟩, mo_42, rfl⟩
theorem ml_77 : MLok (9, 306, 45, 0, 3) := ⟨mB (mt4 (List.mem_of_getElem? (i := 41) (by decide +kernel))) rfl, mB (mt4 (List.mem_of_getElem? (i := 42) (by decide +kernel))) rfl, mB (mt4 (List.mem_of_getElem? (i := 43) (by decide +kernel))) rfl, mB (mt1 (List.mem_of_getElem? (i := 11) (by decide +kernel))) rfl, ⟨by decide +kernel, by decide +kernel, by decide +kernel⟩, mo_45, rfl⟩
theorem ml_78 : MLok (9, 318, 106, 1, 2) := ⟨Or.inl (mB (mt4 (List.mem_of_getElem? (i := 53) (by decide +kernel))) rfl), mB (mt4 (List.mem_of_getElem? (i := 54) (by decide +kernel))) rfl, mB (mt1 (List.mem_of_getElem? (i := 1) (by decide +kernel))) rfl, ⟨by decide +kernel, by decide +kernel, by decide +kernel⟩, mo_106, rfl⟩
theorem ml_79 : MLok (9, 322, 107, 1, 2) := ⟨Or.inl (mB (mt4 (List.mem_of_getElem? (i := 56) (by decide +kernel))) rfl), mB (mt4 (List.mem_of_getElem? (i := 57) (by decide +kernel))) rfl, mB (mt1 (List.mem_of_getElem? (i := 1) (by decide +kernel))) rfl, ⟨by decide +kernel, by decide +kernel, by decide +kernel⟩, mo_107, rfl⟩
theorem ml_80 : MLok (9, 327, 0, 0, 2) := ⟨mB (mt4 (List.mem_of_getElem? (i := 68) (by decide +kernel))) rfl, mB (mt2 (List.mem_of_getElem? (i := 207) (by decide +kernel))) rfl, mB (mt2 (List.mem_of_getElem? (i := 208) (by decide +kernel))) rfl, mB (mt1 (List.mem_of_getElem? (i := 2) (by decide +kernel))) rfl, ⟨by decide +kernel, by decide +kernel, by decide +kernel⟩, mo_0, rfl⟩
theorem ml_81 : MLok (9, 330, 5, 0, 1) := ⟨mB (mt4 (List.mem_of_getElem? (i := 69) (by decide +kernel))) rfl, mB (mt4 (List.mem_of_getElem? (i := 70) (by decide +kernel))) rfl, mB (mt4 (List.mem_of_getElem? (i := 71) (by decide +kernel))) rfl, mB (mt1 (List.mem_of_getElem? (i := 2) (by decide +kernel))) rfl, ⟨by decide +kernel, by decide +kernel, by decide +kernel⟩, mo_5, rfl⟩
theorem ml_82 : MLok (9, 334, 108, 0, 3) := ⟨mB (mt4 (List.mem_of_getElem? (i := 85) (by decide +kernel))) rfl, mB (mt4 (List.mem_of_getElem? (i := 87) (by decide +kernel))) rfl, mB (List.mem_append_left _ (List.mem_of_getElem? (i := 21) (by decide +kernel))) rfl, mB (mt1 (List.mem_of_getElem? (i := 1) (by decide +kernel))) rfl, ⟨by decide +kernel, by decide +kernel, by decide +kernel⟩, mo_108, rfl⟩
theorem ml_83 : MLok (9, 337, 110, 0, 1) := ⟨mB (mt4 (List.mem_of_getElem? (i := 97) (by decide +kernel))) rfl, mB (mt4 (List.mem_of_getElem? (i := 99) (by decide +kernel))) rfl, mB (List.mem_append_left _ (List.mem_of_getElem? (i := 22) (by decide +kernel))) rfl, mB (mt1 (List.mem_of_getElem? (i := 1) (by decide +kernel))) rfl, ⟨by decide +kernel, by decide +kernel, by decide +kernel⟩, mo_110, rfl⟩
theorem ml_84 : MLok (9, 340, 112, 0, 2) := ⟨mB (mt4 (List.mem_of_getElem? (i := 110) (by decide +kernel))) rfl, mB (mt4 (List.mem_of_getElem? (i := 112) (by decide +kernel))) rfl, mB (List.mem_append_left _ (List.mem_of_getElem? (i := 25) (by decide +kernel))) rfl, mB (mt1 (List.mem_of_getElem? (i := 1) (by decide +kernel))) rfl, ⟨by decide +kernel, by decide +kernel, by decide +kernel⟩, mo_112, rfl⟩
theorem ml_85 : MLok (9, 343, 109, 0, 2) := ⟨mB (mt4 (List.mem_of_getElem? (i := 106) (by decide +kernel))) rfl, mB (mt4 (List.mem_of_getElem? (i := 108) (by decide +kernel))) rfl, mB (List.mem_append_left _ (List.mem_of_getElem? (i := 24) (by decide +kernel))) rfl, mB (mt1 (List.mem_of_getElem? (i := 1) (by decide +kernel))) rfl, ⟨by decide +kernel, by decide +kernel, by decide +kernel⟩, mo_109, rfl⟩
theorem ml_86 : MLok (9, 346, 47, 0, 2) := ⟨mB (mt4 (List.mem_of_getElem? (i := 118) (by decide +kernel))) rfl, mB (mt4 (List.mem_of_getElem? (i := 119) (by decide +kernel))) rfl, mB (mt4 (List.mem_of_getElem? (i := 120) (by decide +kernel))) rfl, mB (mt1 (List.mem_of_getElem? (i := 9) (by decide +kernel))) rfl, ⟨by decide +kernel, by decide +kernel, by decide +kernel⟩, mo_47, rfl⟩
theorem ml_87 : MLok (9, 351, 34, 0, 2) := ⟨mB (mt4 (List.mem_of_getElem? (i := 126) (by decide +kernel))) rfl, mB (mt3 (List.mem_of_getElem? (i := 118) (by decide +kernel))) rfl, mB (mt3 (List.mem_of_getElem? (i := 119) (by decide +kernel))) rfl, mB (mt1 (List.mem_of_getElem? (i := 3) (by decide +kernel))) rfl, ⟨by decide +kernel, by decide +kernel, by decide +kernel⟩, mo_34, rfl⟩
theorem ml_88 : MLok (9, 354, 113, 0, 1) := ⟨mB (mt4 (List.mem_of_getElem? (i := 127) (by decide +kernel))) rfl, mB (mt4 (List.mem_of_getElem? (i := 129) (by decide +kernel))) rfl, mB (List.mem_append_left _ (List.mem_of_getElem? (i := 26) (by decide +kernel))) rfl, mB (mt1 (List.mem_of_getElem? (i := 1) (by decide +kernel))) rfl, ⟨by decide +kernel, by decide +kernel, by decide +kernel⟩, mo_113, rfl⟩
theorem ml_89 : MLok (9, 361, 58, 0, 3) := ⟨mB (mt2 (List.mem_of_getElem? (i := 198) (by decide +kernel))) rfl, mB (mt2 (List.mem_of_getElem? (i := 199) (by decide +kernel))) rfl, mB (mt2 (List.mem_of_getElem? (i := 200) (by decide +kernel))) rfl, mB (mt1 (List.mem_of_getElem? (i := 10) (by decide +kernel))) rfl, ⟨by decide +kernel, by decide +kernel, by decide +kernel⟩, mo_58, rfl⟩
theorem ml_90 : MLok (9, 364, 10, 0, 3) := ⟨mB (mt4 (List.mem_of_getElem? (i := 89) (by decide +kernel))) rfl, mB (mt4 (List.mem_of_getElem? (i := 90) (by decide +kernel))) rfl, mB (mt4 (List.mem_of_getElem? (i := 91) (by decide +kernel))) rfl, mB (mt1 (List.mem_of_getElem? (i := 2) (by decide +kernel))) rfl, ⟨by decide +kernel, by decide +kernel, by decide +kernel⟩, mo_10, rfl⟩
theorem ml_91 : MLok (9, 371, 56, 0, 2) := ⟨mB (mt4 (List.mem_of_getElem? (i := 105) (by decide +kernel))) rfl, mB (mt2 (List.mem_of_getElem? (i := 191) (by decide +kernel))) rfl, mB (mt2 (List.mem_of_getElem? (i := 192) (by decide +kernel))) rfl, mB (mt1 (List.mem_of_getElem? (i := 10) (by decide +kernel))) rfl, ⟨by decide +kernel, by decide +kernel, by decide +kernel⟩, mo_56, rfl⟩
theorem ml_92 : MLok (9, 374, 111, 0, 2) := ⟨mB (mt4 (List.mem_of_getElem? (i := 101) (by decide +kernel))) rfl, mB (mt4 (List.mem_of_getElem? (i := 103) (by decide +kernel))) rfl, mB (List.mem_append_left _ (List.mem_of_getElem? (i := 23) (by decide +kernel))) rfl, mB (mt1 (List.mem_of_getElem? (i := 1) (by decide +kernel))) rfl, ⟨by decide +kernel, by decide +kernel, by decide +kernel⟩, mo_111, rfl⟩
theorem ml_93 : MLok (10, 59, 115, 1, 3) := ⟨Or.inl (mB (mt5 (List.mem_of_getElem? (i := 95) (by decide +kernel))) rfl), mB (mt5 (List.mem_of_getElem? (i := 96) (by decide +kernel))) rfl, mB (mt1 (List.mem_of_getElem? (i := 12) (by decide +kernel))) rfl, ⟨by decide +kernel, by decide +kernel, by decide +kernel⟩, mo_115, rfl⟩
theorem ml_94 : MLok (10, 63, 123, 0, 3) := ⟨mB (mt5 (List.mem_of_getElem? (i := 174) (by decide +kernel))) rfl, mB (mt5 (List.mem_of_getElem? (i := 176) (by decide +kernel))) rfl, mB (List.mem_append_left _ (List.mem_of_getElem? (i := 40) (by decide +kernel))) rfl, mB (mt1 (List.mem_of_getElem? (i := 12) (by decide +kernel))) rfl, ⟨by decide +kernel, by decide +kernel, by decide +kernel⟩, mo_123, rfl⟩
theorem ml_95 : MLok (10, 67, 125, 1, 2) := ⟨Or.inl (mB (mt5 (List.mem_of_getElem? (i := 138) (by decide +kernel))) rfl), mB (mt5 (List.mem_of_getElem? (i := 139) (by decide +kernel))) rfl, mB (mt1 (List.mem_of_getElem? (i := 12) (by decide +kernel))) rfl, ⟨by decide +kernel, by decide +kernel, by decide +kernel⟩, mo_125, rfl⟩
theorem ml_96 : MLok (10, 82, 133, 0, 1) := ⟨mB (mt5 (List.mem_of_getElem? (i := 110) (by decide +kernel))) rfl, mB (mt5 (List.mem_of_getElem? (i := 112) (by decide +kernel))) rfl, mB (List.mem_append_left _ (List.mem_of_getElem? (i := 30) (by decide +kernel))) rfl, mB (mt1 (List.mem_of_getElem? (i := 12) (by decide +kernel))) rfl, ⟨by decide +kernel, by decide +kernel, by decide +kernel⟩, mo_133, rfl⟩
theorem ml_97 : MLok (10, 86, 132, 0, 1) := ⟨mB (mt5 (List.mem_of_getElem? (i := 114) (by decide +kernel))) rfl, mB (mt5 (List.mem_of_getElem? (i := 116) (by decide +kernel))) rfl, mB (List.mem_append_left _ (List.mem_of_getElem? (i := 31) (by decide +kernel))) rfl, mB (mt1 (List.mem_of_getElem? (i := 12) (by decide +kernel))) rfl, ⟨by decide +kernel, by decide +kernel, by decide +kernel⟩, mo_132, rfl⟩
theorem ml_98 : MLok (10, 90, 134, 0, 2) := ⟨mB (mt5 (List.mem_of_getElem? (i := 118) (by decide +kernel))) rfl, mB (mt5 (List.mem_of_getElem? (i := 120) (by decide +kernel))) rfl, mB (List.mem_append_left _ (List.mem_of_getElem? (i := 32) (by decide +kernel))) rfl, mB (mt1 (List.mem_of_getElem? (i := 12) (by decide +kernel))) rfl, ⟨by decide +kernel, by decide +kernel, by decide +kernel⟩, mo_134, rfl⟩
theorem ml_99 : MLok (10, 94, 135, 0, 3) := ⟨mB (mt5 (List.mem_of_getElem? (i := 106) (by decide +kernel))) rfl, mB (mt5 (List.mem_of_getElem? (i := 108) (by decide +kernel))) rfl, mB (List.mem_append_left _ (List.mem_of_getElem? (i := 29) (by decide +kernel))) rfl, mB (mt1 (List.mem_of_getElem? (i := 12) (by decide +kernel))) rfl, ⟨by decide +kernel, by decide +kernel, by decide +kernel⟩, mo_135, rfl⟩
theorem ml_100 : MLok (10, 98, 131, 0, 1) := ⟨mB (mt5 (List.mem_of_getElem? (i := 102) (by decide +kernel))) rfl, mB (mt5 (List.mem_of_getElem? (i := 104) (by decide +kernel))) rfl, mB (List.mem_append_left _ (List.mem_of_getElem? (i := 28) (by decide +kernel))) rfl, mB (mt1 (List.mem_of_getElem? (i := 12) (by decide +kernel))) rfl, ⟨by decide +kernel, by decide +kernel, by decide +kernel⟩, mo_131, rfl⟩
theorem ml_101 : MLok (10, 101, 138, 0, 2) := ⟨mB (mt5 (List.mem_of_getElem? (i := 122) (by decide +kernel))) rfl, mB (mt5 (List.mem_of_getElem? (i := 124) (by decide +kernel))) rfl, mB (List.mem_append_left _ (List.mem_of_getElem? (i := 33) (by decide +kernel))) rfl, mB (mt1 (List.mem_of_getElem? (i := 12) (by decide +kernel))) rfl, ⟨by decide +kernel, by decide +kernel, by decide +kernel⟩, mo_138, rfl⟩
theorem ml_102 : MLok (10, 105, 137, 0, 1) := ⟨mB (mt5 (List.mem_of_getElem? (i := 126) (by decide +kernel))) rfl, mB (mt5 (List.mem_of_getElem? (i := 128) (by decide +kernel))) rfl, mB (List.mem_append_left _ (List.mem_of_getElem? (i := 34) (by decide +kernel))) rfl, mB (mt1 (List.mem_of_getElem? (i := 12) (by decide +kernel))) rfl, ⟨by decide +kernel, by decide +kernel, by decide +kernel⟩, mo_137, rfl⟩
theorem ml_103 : MLok (10, 108, 208, 0, 1) := ⟨mB (mt5 (List.mem_of_getElem? (i := 130) (by decide +kernel))) rfl, mB (mt5 (List.mem_of_getElem? (i := 132) (by decide +kernel))) rfl, mB (List.mem_append_left _ (List.mem_of_getElem? (i := 35) (by decide +kernel))) rfl, mB (mt1 (List.mem_of_getElem? (i := 12) (by decide +kernel))) rfl, ⟨by decide +kernel, by decide +kernel, by decide +kernel⟩, mo_208, rfl⟩
theorem ml_104 : MLok (10, 111, 140, 1, 1) := ⟨Or.inl (mB (mt5 (List.mem_of_getElem? (i := 145) (by decide +kernel))) rfl), mB (mt5 (List.mem_of_getElem? (i := 146) (by decide +kernel))) rfl, mB (mt1 (List.mem_of_getElem? (i := 12) (by decide +kernel))) rfl, ⟨by decide +kernel, by decide +kernel, by decide +kernel⟩, mo_140, rfl⟩
theorem ml_105 : MLok (10, 114, 117, 0, 1) := ⟨mB (mt5 (List.mem_of_getElem? (i := 152) (by decide +kernel))) rfl, mB (mt5 (List.mem_of_getElem? (i := 154) (by decide +kernel))) rfl, mB (List.mem_append_left _ (List.mem_of_getElem? (i := 37) (by decide +kernel))) rfl, mB (mt1 (List.mem_of_getElem? (i := 12) (by decide +kernel))) rfl, ⟨by decide +kernel, by decide +kernel, by decide +kernel⟩, mo_117, rfl⟩
theorem ml_106 : MLok (10, 117, 127, 1, 1) := ⟨Or.inl (mB (mt5 (List.mem_of_getElem? (i := 167) (by decide +kernel))) rfl), mB (mt5 (List.mem_of_getElem? (i := 168) (by decide +kernel))) rfl, mB (mt1 (List.mem_of_getElem? (i := 12) (by decide +kernel))) rfl, ⟨by decide +kernel, by decide +kernel, by decide +kernel⟩, mo_127, rfl⟩
theorem ml_107 : MLok (10, 120, 122, 1, 1) := ⟨Or.inl (mB (mt5 (List.mem_of_getElem? (i := 160) (by decide +kernel))) rfl), mB (mt5 (List.mem_of_getElem? (i := 161) (by decide +kernel))) rfl, mB (mt1 (List.mem_of_getElem? (i := 12) (by decide +kernel))) rfl, ⟨by decide +kernel, by decide +kernel, by decide +kernel⟩, mo_122, rfl⟩
theorem ml_108 : MLok (10, 124, 143, 0, 1) := ⟨mB (mt5 (List.mem_of_getElem? (i := 163) (by decide +kernel))) rfl, mB (mt5 (List.mem_of_getElem? (i := 165) (by decide +kernel))) rfl, mB (List.mem_append_left _ (List.mem_of_getElem? (i := 38) (by decide +kernel))) rfl, mB (mt1 (List.mem_of_getElem? (i := 12) (by decide +kernel))) rfl, ⟨by decide +kernel, by decide +kernel, by decide +kernel⟩, mo_143, rfl⟩
theorem ml_109 : MLok (10, 127, 124, 0, 3) := ⟨mB (mt5 (List.mem_of_getElem? (i := 170) (by decide +kernel))) rfl, mB (mt5 (List.mem_of_getElem? (i := 172) (by decide +kernel))) rfl, mB (List.mem_append_left _ (List.mem_of_getElem? (i := 39) (by decide +kernel))) rfl, mB (mt1 (List.mem_of_getElem? (i := 12) (by decide +kernel))) rfl, ⟨by decide +kernel, by decide +kernel, by decide +kernel⟩, mo_124, rfl⟩
theorem ml_110 : MLok (10, 131, 145, 0, 6) := ⟨mB (mt5 (List.mem_of_getElem? (i := 178) (by decide +kernel))) rfl, mB (mt5 (List.mem_of_getElem? (i := 180) (by decide +kernel))) rfl, mB (List.mem_append_left _ (List.mem_of_getElem? (i := 41) (by decide +kernel))) rfl, mB (mt1 (List.mem_of_getElem? (i := 12) (by decide +kernel))) rfl, ⟨by decide +kernel, by decide +kernel, by decide +kernel⟩, mo_145, rfl⟩
theorem ml_111 : MLok (10, 135, 126, 1, 3) := ⟨Or.inl (mB (mt5 (List.mem_of_getElem? (i := 182) (by decide +kernel))) rfl), mB (mt5 (List.mem_of_getElem? (i := 183) (by decide +kernel))) rfl, mB (mt1 (List.mem_of_getElem? (i := 12) (by decide +kernel))) rfl, ⟨by decide +kernel, by decide +kernel, by decide +kernel⟩, mo_126, rfl⟩
theorem ml_112 : MLok (10, 139, 121, 0, 2) := ⟨mB (mt5 (List.mem_of_getElem? (i := 193) (by decide +kernel))) rfl, mB (mt5 (List.mem_of_getElem? (i := 195) (by decide +kernel))) rfl, mB (List.mem_append_left _ (List.mem_of_getElem? (i := 43) (by decide +kernel))) rfl, mB (mt1 (List.mem_of_getElem? (i := 12) (by decide +kernel))) rfl, ⟨by decide +kernel, by decide +kernel, by decide +kernel⟩, mo_121, rfl⟩
theorem ml_113 : MLok (10, 142, 147, 0, 5) := ⟨mB (mt5 (List.mem_of_getElem? (i := 189) (by decide +kernel))) rfl, mB (mt5 (List.mem_of_getElem? (i := 191) (by decide +kernel))) rfl, mB (List.mem_append_left _ (List.mem_of_getElem? (i := 42) (by decide +kernel))) rfl, mB (mt1 (List.mem_of_getElem? (i := 12) (by decide +kernel))) rfl, ⟨by decide +kernel, by decide +kernel, by decide +kernel⟩, mo_147, rfl⟩
theorem ml_114 : MLok (10, 146, 128, 0, 2) := ⟨mB (mt6 (List.mem_of_getElem? (i := 12) (by decide +kernel))) rfl, mB (mt6 (List.mem_of_getElem? (i := 14) (by decide +kernel))) rfl, mB (List.mem_append_left _ (List.mem_of_getElem? (i := 55) (by decide +kernel))) rfl, mB (mt1 (List.mem_of_getElem? (i := 12) (by decide +kernel))) rfl, ⟨by decide +kernel, by decide +kernel, by decide +kernel⟩, mo_128, rfl⟩
theorem ml_115 : MLok (10, 149, 146, 0, 4) := ⟨mB (mt6 (List.mem_of_getElem? (i := 3) (by decide +kernel))) rfl, mB (mt6 (List.mem_of_getElem? (i := 5) (by decide +kernel))) rfl, mB (List.mem_append_left _ (List.mem_of_getElem? (i := 53) (by decide +kernel))) rfl, mB (mt1 (List.mem_of_getElem? (i := 12) (by decide +kernel))) rfl, ⟨by decide +kernel, by decide +kernel, by decide +kernel⟩, mo_146, rfl⟩
theorem ml_116 : MLok (10, 153, 151, 0, 4) := ⟨mB (mt5 (List.mem_of_getElem? (i := 231) (by decide +kernel))) rfl, mB (mt5 (List.mem_of_getElem? (i := 233) (by decide +kernel))) rfl, mB (List.mem_append_left _ (List.mem_of_getElem? (i := 50) (by decide +kernel))) rfl, mB (mt1 (List.mem_of_getElem? (i := 12) (by decide +kernel))) rfl, ⟨by decide +kernel, by decide +kernel, by decide +kernel⟩, mo_151, rfl⟩
theorem ml_117 : MLok (10, 156, 153, 0, 4) := ⟨mB (mt5 (List.mem_of_getElem? (i := 239) (by decide +kernel))) rfl, mB (mt6 (List.mem_of_getElem? (i := 1) (by decide +kernel))) rfl, mB (List.mem_append_left _ (List.mem_of_getElem? (i := 52) (by decide +kernel))) rfl, mB (mt1 (List.mem_of_getElem? (i := 12) (by decide +kernel))) rfl, ⟨by decide +kernel, by decide +kernel, by decide +kernel⟩, mo_153, rfl⟩
theorem ml_118 : MLok (10, 164, 152, 0, 3) := ⟨mB (mt6 (List.mem_of_getElem? (i := 8) (by decide +kernel))) rfl, mB (mt6 (List.mem_of_getElem? (i := 10) (by decide +kernel))) rfl, mB (List.mem_append_left _ (List.mem_of_getElem? (i := 54) (by decide +kernel))) rfl, mB (mt1 (List.mem_of_getElem? (i := 12) (by decide +kernel))) rfl, ⟨by decide +kernel, by decide +kernel, by decide +kernel⟩, mo_152, rfl⟩
theorem ml_119 : MLok (10, 168, 155, 1, 2) := ⟨Or.inl (mB (mt5 (List.mem_of_getElem? (i := 228) (by decide +kernel))) rfl), mB (mt5 (List.mem_of_getElem? (i := 229) (by decide +kernel))) rfl, mB (mt1 (List.mem_of_getElem? (i := 12) (by decide +kernel))) rfl, ⟨by decide +kernel, by decide +kernel, by decide +kernel⟩, mo_155, rfl⟩
theorem ml_120 : MLok (10, 171, 149, 0, 2) := ⟨mB (mt5 (List.mem_of_getElem? (i := 213) (by decide +kernel))) rfl, mB (mt5 (List.mem_of_getElem? (i := 215) (by decide +kernel))) rfl, mB (List.mem_append_left _ (List.mem_of_getElem? (i := 47) (by decide +kernel))) rfl, mB (mt1 (List.mem_of_getElem? (i := 12) (by decide +kernel))) rfl, ⟨by decide +kernel, by decide +kernel, by decide +kernel⟩, mo_149, rfl⟩
theorem ml_121 : MLok (10, 174, 116, 1, 2) := ⟨Or.inl (mB (mt5 (List.mem_of_getElem? (i := 217) (by decide +kernel))) rfl), mB (mt5 (List.mem_of_getElem? (i := 218) (by decide +kernel))) rfl, mB (mt1 (List.mem_of_getElem? (i := 12) (by decide +kernel))) rfl, ⟨by decide +kernel, by decide +kernel, by decide +kernel⟩, mo_116, rfl⟩
theorem ml_122 : MLok (10, 177, 150, 0, 3) := ⟨mB (mt5 (List.mem_of_getElem? (i := 220) (by decide +kernel))) rfl, mB (mt5 (List.mem_of_getElem? (i := 222) (by decide +kernel))) rfl, mB (List.mem_append_left _ (List.mem_of_getElem? (i := 48) (by decide +kernel))) rfl, mB (mt1 (List.mem_of_getElem? (i := 12) (by decide +kernel))) rfl, ⟨by decide +kernel, by decide +kernel, by decide +kernel⟩, mo_150, rfl⟩
theorem ml_123 : MLok (10, 180, 156, 0, 3) := ⟨mB (mt5 (List.mem_of_getElem? (i := 224) (by decide +kernel))) rfl, mB (mt5 (List.mem_of_getElem? (i := 226) (by decide +kernel))) rfl, mB (List.mem_append_left _ (List.mem_of_getElem? (i := 49) (by decide +kernel))) rfl, mB (mt1 (List.mem_of_getElem? (i := 12) (by decide +kernel))) rfl, ⟨by decide +kernel, by decide +kernel, by decide +kernel⟩, mo_156, rfl⟩
theorem ml_124 : MLok (10, 183, 154, 0, 3) := ⟨mB (mt5 (List.mem_of_getElem? (i := 235) (by decide +kernel))) rfl, mB (mt5 (List.mem_of_getElem? (i := 237) (by decide +kernel))) rfl, mB (List.mem_append_left _ (List.mem_of_getElem? (i := 51) (by decide +kernel))) rfl, mB (mt1 (List.mem_of_getElem? (i := 12) (by decide +kernel))) rfl, ⟨by decide +kernel, by decide +kernel, by decide +kernel⟩, mo_154, rfl⟩
theorem ml_125 : MLok (10, 189, 160, 0, 3) := ⟨mB (mt6 (List.mem_of_getElem? (i := 21) (by decide +kernel))) rfl, mB (mt6 (List.mem_of_getElem? (i := 23) (by decide +kernel))) rfl, mB (List.mem_append_left _ (List.mem_of_getElem? (i := 57) (by decide +kernel))) rfl, mB (mt1 (List.mem_of_getElem? (i := 12) (by decide +kernel))) rfl, ⟨by decide +kernel, by decide +kernel, by decide +kernel⟩, mo_160, rfl⟩
theorem ml_126 : MLok (10, 192, 159, 0, 3) := ⟨mB (mt6 (List.mem_of_getElem? (i := 25) (by decide +kernel))) rfl, mB (mt6 (List.mem_of_getElem? (i := 27) (by decide +kernel))) rfl, mB (List.mem_append_left _ (List.mem_of_getElem? (i := 58) (by decide +kernel))) rfl, mB (mt1 (List.mem_of_getElem? (i := 12) (by decide +kernel))) rfl, ⟨by decide +kernel, by decide +kernel, by decide +kernel⟩, mo_159, rfl⟩
theorem ml_127 : MLok (10, 198, 161, 0, 5) := ⟨mB (mt6 (List.mem_of_getElem? (i := 45) (by decide +kernel))) rfl, mB (mt6 (List.mem_of_getElem? (i := 47) (by decide +kernel))) rfl, mB (List.mem_append_left _ (List.mem_of_getElem? (i := 63) (by decide +kernel))) rfl, mB (mt1 (List.mem_of_getElem? (i := 12) (by decide +kernel))) rfl, ⟨by decide +kernel, by decide +kernel, by decide +kernel⟩, mo_161, rfl⟩
theorem ml_128 : MLok (10, 202, 162, 0, 4) := ⟨mB (mt6 (List.mem_of_getElem? (i := 41) (by decide +kernel))) rfl, mB (mt6 (List.mem_of_getElem? (i := 43) (by decide +kernel))) rfl, mB (List.mem_append_left _ (List.mem_of_getElem? (i := 62) (by decide +kernel))) rfl, mB (mt1 (List.mem_of_getElem? (i := 12) (by decide +kernel))) rfl, ⟨by decide +kernel, by decide +kernel, by decide +kernel⟩, mo_162, rfl⟩
theorem ml_129 : MLok (10, 205, 163, 0, 4) := ⟨mB (mt6 (List.mem_of_getElem? (i := 49) (by decide +kernel))) rfl, mB (mt6 (List.mem_of_getElem? (i := 51) (by decide +kernel))) rfl, mB (List.mem_append_left _ (List.mem_of_getElem? (i := 64) (by decide +kernel))) rfl, mB (mt1 (List.mem_of_getElem? (i := 12) (by decide +kernel))) rfl, ⟨by decide +kernel, by decide +kernel, by decide +kernel⟩, mo_163, rfl⟩
theorem ml_130 : MLok (10, 208, 164, 0, 3) := ⟨mB (mt6 (List.mem_of_getElem? (i := 53) (by decide +kernel))) rfl, mB (mt6 (List.mem_of_getElem? (i := 55) (by decide +kernel))) rfl, mB (List.mem_append_left _ (List.mem_of_getElem? (i := 65) (by decide +kernel))) rfl, mB (mt1 (List.mem_of_getElem? (i := 12) (by decide +kernel))) rfl, ⟨by decide +kernel, by decide +kernel, by decide +kernel⟩, mo_164, rfl⟩
theorem ml_131 : MLok (10, 212, 165, 0, 2) := ⟨mB (mt6 (List.mem_of_getElem? (i := 58) (by decide +kernel))) rfl, mB (mt6 (List.mem_of_getElem? (i := 60) (by decide +kernel))) rfl, mB (List.mem_append_left _ (List.mem_of_getElem? (i := 66) (by decide +kernel))) rfl, mB (mt1 (List.mem_of_getElem? (i := 12) (by decide +kernel))) rfl, ⟨by decide +kernel, by decide +kernel, by decide +kernel⟩, mo_165, rfl⟩
theorem ml_132 : MLok (10, 215, 166, 0, 2) := ⟨mB (mt6 (List.mem_of_getElem? (i := 62) (by decide +kernel))) rfl, mB (mt6 (List.mem_of_getElem? (i := 64) (by decide +kernel))) rfl, mB (List.mem_append_left _ (List.mem_of_getElem? (i := 67) (by decide +kernel))) rfl, mB (mt1 (List.mem_of_getElem? (i := 12) (by decide +kernel))) rfl, ⟨by decide +kernel, by decide +kernel, by decide +kernel⟩, mo_166, rfl⟩
theorem ml_133 : MLok (10, 218, 175, 0, 2) := ⟨mB (mt6 (List.mem_of_getElem? (i := 33) (by decide +kernel))) rfl, mB (mt6 (List.mem_of_getElem? (i := 35) (by decide +kernel))) rfl, mB (List.mem_append_left _ (List.mem_of_getElem? (i := 60) (by decide +kernel))) rfl, mB (mt1 (List.mem_of_getElem? (i := 12) (by decide +kernel))) rfl, ⟨by decide +kernel, by decide +kernel, by decide +kernel⟩, mo_175, rfl⟩
theorem ml_134 : MLok (10, 221, 157, 0, 1) := ⟨mB (mt5 (List.mem_of_getElem? (i := 209) (by decide +kernel))) rfl, mB (mt5 (List.mem_of_getElem? (i := 211) (by decide +kernel))) rfl, mB (List.mem_append_left _ (List.mem_of_getElem? (i := 46) (by decide +kernel))) rfl, mB (mt1 (List.mem_of_getElem? (i := 12) (by decide +kernel))) rfl, ⟨by decide +kernel, by decide +kernel, by decide +kernel⟩, mo_157, rfl⟩
theorem ml_135 : MLok (10, 224, 158, 0, 1) := ⟨mB (mt6 (List.mem_of_getElem? (i := 17) (by decide +kernel))) rfl, mB (mt6 (List.mem_of_getElem? (i := 19) (by decide +kernel))) rfl, mB (List.mem_append_left _ (List.mem_of_getElem? (i := 56) (by decide +kernel))) rfl, mB (mt1 (List.mem_of_getElem? (i := 12) (by decide +kernel))) rfl, ⟨by decide +kernel, by decide +kernel, by decide +kernel⟩, mo_158, rfl⟩
theorem ml_136 : MLok (10, 227, 169, 0, 1) := ⟨mB (mt6 (List.mem_of_getElem? (i := 29) (by decide +kernel))) rfl, mB (mt6 (List.mem_of_getElem? (i := 31) (by decide +kernel))) rfl, mB (List.mem_append_left _ (List.mem_of_getElem? (i := 59) (by decide +kernel))) rfl, mB (mt1 (List.mem_of_getElem? (i := 12) (by decide +kernel))) rfl, ⟨by decide +kernel, by decide +kernel, by decide +kernel⟩, mo_169, rfl⟩
theorem ml_137 : MLok (10, 230, 167, 0, 2) := ⟨mB (mt6 (List.mem_of_getElem? (i := 37) (by decide +kernel))) rfl, mB (mt6 (List.mem_of_getElem? (i := 39) (by decide +kernel))) rfl, mB (List.mem_append_left _ (List.mem_of_getElem? (i := 61) (by decide +kernel))) rfl, mB (mt1 (List.mem_of_getElem? (i := 12) (by decide +kernel))) rfl, ⟨by decide +kernel, by decide +kernel, by decide +kernel⟩, mo_167, rfl⟩
theorem ml_138 : MLok (10, 233, 168, 0, 1) := ⟨mB (mt6 (List.mem_of_getElem? (i := 66) (by decide +kernel))) rfl, mB (mt6 (List.mem_of_getElem? (i := 68) (by decide +kernel))) rfl, mB (List.mem_append_left _ (List.mem_of_getElem? (i := 68) (by decide +kernel))) rfl, mB (mt1 (List.mem_of_getElem? (i := 12) (by decide +kernel))) rfl, ⟨by decide +kernel, by decide +kernel, by decide +kernel⟩, mo_168, rfl⟩
theorem ml_139 : MLok (10, 236, 170, 0, 1) := ⟨mB (mt5 (List.mem_of_getElem? (i := 205) (by decide +kernel))) rfl, mB (mt5 (List.mem_of_getElem? (i := 207) (by decide +kernel))) rfl, mB (List.mem_append_left _ (List.mem_of_getElem? (i := 45) (by decide +kernel))) rfl, mB (mt1 (List.mem_of_getElem? (i := 12) (by decide +kernel))) rfl, ⟨by decide +kernel, by decide +kernel, by decide +kernel⟩, mo_170, rfl⟩
theorem ml_140 : MLok (10, 239, 171, 0, 2) := ⟨mB (mt5 (List.mem_of_getElem? (i := 201) (by decide +kernel))) rfl, mB (mt5 (List.mem_of_getElem? (i := 203) (by decide +kernel))) rfl, mB (List.mem_append_left _ (List.mem_of_getElem? (i := 44) (by decide +kernel))) rfl, mB (mt1 (List.mem_of_getElem? (i := 12) (by decide +kernel))) rfl, ⟨by decide +kernel, by decide +kernel, by decide +kernel⟩, mo_171, rfl⟩
theorem ml_141 : MLok (10, 242, 118, 0, 2) := ⟨mB (mt6 (List.mem_of_getElem? (i := 70) (by decide +kernel))) rfl, mB (mt6 (List.mem_of_getElem? (i := 72) (by decide +kernel))) rfl, mB (List.mem_append_left _ (List.mem_of_getElem? (i := 69) (by decide +kernel))) rfl, mB (mt1 (List.mem_of_getElem? (i := 12) (by decide +kernel))) rfl, ⟨by decide +kernel, by decide +kernel, by decide +kernel⟩, mo_118, rfl⟩
theorem ml_142 : MLok (10, 246, 173, 0, 1) := ⟨mB (mt6 (List.mem_of_getElem? (i := 78) (by decide +kernel))) rfl, mB (mt6 (List.mem_of_getElem? (i := 80) (by decide +kernel))) rfl, mB (List.mem_append_left _ (List.mem_of_getElem? (i := 70) (by decide +kernel))) rfl, mB (mt1 (List.mem_of_getElem? (i := 12) (by decide +kernel))) rfl, ⟨by decide +kernel, by decide +kernel, by decide +kernel⟩, mo_173, rfl⟩
theorem ml_143 : MLok (10, 249, 177, 0, 2) := ⟨mB (mt6 (List.mem_of_getElem? (i := 86) (by decide +kernel))) rfl, mB (mt6 (List.mem_of_getElem? (i := 88) (by decide +kernel))) rfl, mB (List.mem_append_left _ (List.mem_of_getElem? (i := 71) (by decide +kernel))) rfl, mB (mt1 (List.mem_of_getElem? (i := 12) (by decide +kernel))) rfl, ⟨by decide +kernel, by decide +kernel, by decide +kernel⟩, mo_177, rfl⟩
theorem ml_144 : MLok (10, 252, 182, 0, 2) := ⟨mB (mt6 (List.mem_of_getElem? (i := 102) (by decide +kernel))) rfl, mB (mt6 (List.mem_of_getElem? (i := 104) (by decide +kernel))) rfl, mB (List.mem_append_left _ (List.mem_of_getElem? (i := 72) (by decide +kernel))) rfl, mB (mt1 (List.mem_of_getElem? (i := 12) (by decide +kernel))) rfl, ⟨by decide +kernel, by decide +kernel, by decide +kernel⟩, mo_182, rfl⟩
theorem ml_145 : MLok (10, 255, 120, 1, 2) := ⟨Or.inl (mB (mt6 (List.mem_of_getElem? (i := 142) (by decide +kernel))) rfl), mB (mt6 (List.mem_of_getElem? (i := 143) (by decide +kernel))) rfl, mB (mt1 (List.mem_of_getElem? (i := 12) (by decide +kernel))) rfl, ⟨by decide +kernel, by decide +kernel, by decide +kernel⟩, mo_120, rfl⟩
theorem ml_146 : MLok (10, 259, 193, 1, 2) := ⟨Or.inl (mB (mt6 (List.mem_of_getElem? (i := 156) (by decide +kernel))) rfl), mB (mt6 (List.mem_of_getElem? (i := 157) (by decide +kernel))) rfl, mB (mt1 (List.mem_of_getElem? (i := 12) (by decide +kernel))) rfl, ⟨by decide +kernel, by decide +kernel, by decide +kernel⟩, mo_193, rfl⟩
theorem ml_147 : MLok (10, 262, 194, 1, 2) := ⟨Or.inl (mB (mt6 (List.mem_of_getElem? (i := 153) (by decide +kernel))) rfl), mB (mt6 (List.mem_of_getElem? (i := 154) (by decide +kernel))) rfl, mB (mt1 (List.mem_of_getElem? (i := 12) (by decide +kernel))) rfl, ⟨by decide +kernel, by decide +kernel, by decide +kernel⟩, mo_194, rfl⟩
theorem ml_148 : MLok (10, 265, 119, 1, 2) := ⟨Or.inl (mB (mt6 (List.mem_of_getElem? (i := 159) (by decide +kernel))) rfl), mB (mt6 (List.mem_of_getElem? (i := 160) (by decide +kernel))) rfl, mB (mt1 (List.mem_of_getElem? (i := 12) (by decide +kernel))) rfl, ⟨by decide +kernel, by decide +kernel, by decide +kernel⟩, mo_119, rfl⟩
theorem ml_149 : MLok (10, 270, 197, 0, 1) := ⟨mB (mt6 (List.mem_of_getElem? (i := 171) (by decide +kernel))) rfl, mB (mt6 (List.mem_of_getElem? (i := 173) (by decide +kernel))) rfl, mB (List.mem_append_left _ (List.mem_of_getElem? (i := 73) (by decide +kernel))) rfl, mB (mt1 (List.mem_of_getElem? (i := 12) (by decide +kernel))) rfl, ⟨by decide +kernel, by decide +kernel, by decide +kernel⟩, mo_197, rfl⟩
theorem ml_150 : MLok (10, 273, 176, 0, 1) := ⟨mB (mt6 (List.mem_of_getElem? (i := 175) (by decide +kernel))) rfl, mB (mt6 (List.mem_of_getElem? (i := 177) (by decide +kernel))) rfl, mB (List.mem_append_left _ (List.mem_of_getElem? (i := 74) (by decide +kernel))) rfl, mB (mt1 (List.mem_of_getElem? (i := 12) (by decide +kernel))) rfl, ⟨by decide +kernel, by decide +kernel, by decide +kernel⟩, mo_176, rfl⟩
theorem ml_151 : MLok (10, 276, 198, 0, 1) := ⟨mB (mt6 (List.mem_of_getElem? (i := 179) (by decide +kernel))) rfl, mB (mt6 (List.mem_of_getElem? (i := 181) (by decide +kernel))) rfl, mB (List.mem_append_left _ (List.mem_of_getElem? (i := 75) (by decide +kernel))) rfl, mB (mt1 (List.mem_of_getElem? (i := 12) (by decide +kernel))) rfl, ⟨by decide +kernel, by decide +kernel, by decide +kernel⟩, mo_198, rfl⟩
theorem ml_152 : MLok (10, 279, 200, 0, 1) := ⟨mB (mt6 (List.mem_of_getElem? (i := 187) (by decide +kernel))) rfl, mB (mt6 (List.mem_of_getElem? (i := 189) (by decide +kernel))) rfl, mB (List.mem_append_left _ (List.mem_of_getElem? (i := 76) (by decide +kernel))) rfl, mB (mt1 (List.mem_of_getElem? (i := 12) (by decide +kernel))) rfl, ⟨by decide +kernel, by decide +kernel, by decide +kernel⟩, mo_200, rfl⟩
theorem ml_153 : MLok (10, 282, 203, 0, 3) := ⟨mB (mt6 (List.mem_of_getElem? (i := 199) (by decide +kernel))) rfl, mB (mt6 (List.mem_of_getElem? (i := 201) (by decide +kernel))) rfl, mB (List.mem_append_left _ (List.mem_of_getElem? (i := 77) (by decide +kernel))) rfl, mB (mt1 (List.mem_of_getElem? (i := 12) (by decide +kernel))) rfl, ⟨by decide +kernel, by decide +kernel, by decide +kernel⟩, mo_203, rfl⟩
theorem ml_154 : MLok (10, 285, 136, 0, 1) := ⟨mB (mt6 (List.mem_of_getElem? (i := 211) (by decide +kernel))) rfl, mB (mt6 (List.mem_of_getElem? (i := 213) (by decide +kernel))) rfl, mB (List.mem_append_left _ (List.mem_of_getElem? (i := 79) (by decide +kernel))) rfl, mB (mt1 (List.mem_of_getElem? (i := 12) (by decide +kernel))) rfl, ⟨by decide +kernel, by decide +kernel, by decide +kernel⟩, mo_136, rfl⟩
theorem ml_155 : MLok (10, 288, 205, 0, 2) := ⟨mB (mt6 (List.mem_of_getElem? (i := 207) (by decide +kernel))) rfl, mB (mt6 (List.mem_of_getElem? (i := 209) (by decide +kernel))) rfl, mB (List.mem_append_left _ (List.mem_of_getElem? (i := 78) (by decide +kernel))) rfl, mB (mt1 (List.mem_of_getElem? (i := 12) (by decide +kernel))) rfl, ⟨by decide +kernel, by decide +kernel, by decide +kernel⟩, mo_205, rfl⟩
theorem ml_156 : MLok (10, 291, 206, 0, 2) := ⟨mB (mt6 (List.mem_of_getElem? (i := 215) (by decide +kernel))) rfl, mB (mt6 (List.mem_of_getElem? (i := 217) (by decide +kernel))) rfl, mB (List.mem_append_left _ (List.mem_of_getElem? (i := 80) (by decide +kernel))) rfl, mB (mt1 (List.mem_of_getElem? (i := 12) (by decide +kernel))) rfl, ⟨by decide +kernel, by decide +kernel, by decide +kernel⟩, mo_206, rfl⟩
theorem ml_157 : MLok (10, 294, 209, 0, 1) := ⟨mB (mt5 (List.mem_of_getElem? (i := 134) (by decide +kernel))) rfl, mB (mt5 (List.mem_of_getElem? (i := 136) (by decide +kernel))) rfl, mB (List.mem_append_left _ (List.mem_of_getElem? (i := 36) (by decide +kernel))) rfl, mB (mt1 (List.mem_of_getElem? (i := 12) (by decide +kernel))) rfl, ⟨by decide +kernel, by decide +kernel, by decide +kernel⟩, mo_209, rfl⟩
theorem ml_158 : MLok (10, 303, 211, 0, 2) := ⟨mB (mt6 (List.mem_of_getElem? (i := 227) (by decide +kernel))) rfl, mB (mt6 (List.mem_of_getElem? (i := 229) (by decide +kernel))) rfl, mB (List.mem_append_left _ (List.mem_of_getElem? (i := 81) (by decide +kernel))) rfl, mB (mt1 (List.mem_of_getElem? (i := 12) (by decide +kernel))) rfl, ⟨by decide +kernel, by decide +kernel, by decide +kernel⟩, mo_211, rfl⟩
theorem ml_159 : MLok (10, 306, 215, 0, 1) := ⟨mB (mt7 (List.mem_of_getElem? (i := 3) (by decide +kernel))) rfl, mB (mt7 (List.mem_of_getElem? (i := 5) (by decide +kernel))) rfl, mB (List.mem_append_left _ (List.mem_of_getElem? (i := 82) (by decide +kernel))) rfl, mB (mt1 (List.mem_of_getElem? (i := 12) (by decide +kernel))) rfl, ⟨by decide +kernel, by decide +kernel, by decide +kernel⟩, mo_215, rfl⟩
theorem ml_160 : MLok (11, 7, 69, 0, 2) := ⟨mB (mt4 (List.mem_of_getElem? (i := 147) (by decide +kernel))) rfl, mB (mt4 (List.mem_of_getElem? (i := 148) (by decide +kernel))) rfl, mB (mt4 (List.mem_of_getElem? (i := 149) (by decide +kernel))) rfl, mB (mt1 (List.mem_of_getElem? (i := 1) (by decide +kernel))) rfl, ⟨by decide +kernel, by decide +kernel, by decide +kernel⟩, mo_69, rfl⟩
theorem ml_161 : MLok (11, 15, 74, 0, 3) := ⟨mB (mt4 (List.mem_of_getElem? (i := 215) (by decide +kernel))) rfl, mB (mt4 (List.mem_of_getElem? (i := 216) (by decide +kernel))) rfl, mB (mt4 (List.mem_of_getElem? (i := 217) (by decide +kernel))) rfl, mB (mt1 (List.mem_of_getElem? (i := 1) (by decide +kernel))) rfl, ⟨by decide +kernel, by decide +kernel, by decide +kernel⟩, mo_74, rfl⟩
theorem ml_162 : MLok (11, 19, 75, 0, 4) := ⟨mB (mt4 (List.mem_of_getElem? (i := 224) (by decide +kernel))) rfl, mB (mt4 (List.mem_of_getElem? (i := 225) (by decide +kernel))) rfl, mB (mt4 (List.mem_of_getElem? (i := 226) (by decide +kernel))) rfl, mB (mt1 (List.mem_of_getElem? (i := 1) (by decide +kernel))) rfl, ⟨by decide +kernel, by decide +kernel, by decide +kernel⟩, mo_75, rfl⟩
theorem ml_163 : MLok (11, 23, 76, 0, 5) := ⟨mB (mt4 (List.mem_of_getElem? (i := 232) (by decide +kernel))) rfl, mB (mt4 (List.mem_of_getElem? (i := 233) (by decide +kernel))) rfl, mB (mt4 (List.mem_of_getElem? (i := 234) (by decide +kernel))) rfl, mB (mt1 (List.mem_of_getElem? (i := 1) (by decide +kernel))) rfl, ⟨by decide +kernel, by decide +kernel, by decide +kernel⟩, mo_76, rfl⟩
theorem ml_164 : MLok (11, 27, 82, 0, 3) := ⟨mB (mt4 (List.mem_of_getElem? (i := 239) (by decide +kernel))) rfl, mB (mt5 (List.mem_of_getElem? (i := 0) (by decide +kernel))) rfl, mB (mt5 (List.mem_of_getElem? (i := 1) (by decide +kernel))) rfl, mB (mt1 (List.mem_of_getElem? (i := 1) (by decide +kernel))) rfl, ⟨by decide +kernel, by decide +kernel, by decide +kernel⟩, mo_82, rfl⟩
theorem ml_165 : MLok (11, 30, 100, 0, 2) := ⟨mB (mt5 (List.mem_of_getElem? (i := 6) (by decide +kernel))) rfl, mB (mt5 (List.mem_of_getElem? (i := 7) (by decide +kernel))) rfl, mB (mt5 (List.mem_of_getElem? (i := 8) (by decide +kernel))) rfl, mB (mt1 (List.mem_of_getElem? (i := 1) (by decide +kernel))) rfl, ⟨by decide +kernel, by decide +kernel, by decide +kernel⟩, mo_100, rfl⟩
theorem ml_166 : MLok (11, 38, 65, 0, 2) := ⟨mB (mt2 (List.mem_of_getElem? (i := 166) (by decide +kernel))) rfl, mB (mt2 (List.mem_of_getElem? (i := 167) (by decide +kernel))) rfl, mB (mt2 (List.mem_of_getElem? (i := 168) (by decide +kernel))) rfl, mB (mt1 (List.mem_of_getElem? (i := 1) (by decide +kernel))) rfl, ⟨by decide +kernel, by decide +kernel, by decide +kernel⟩, mo_65, rfl⟩
theorem ml_167 : MLok (11, 41, 129, 0, 2) := ⟨mB (mt5 (List.mem_of_getElem? (i := 87) (by decide +kernel))) rfl, mB (mt5 (List.mem_of_getElem? (i := 88) (by decide +kernel))) rfl, mB (mt5 (List.mem_of_getElem? (i := 89) (by decide +kernel))) rfl, mB (mt1 (List.mem_of_getElem? (i := 12) (by decide +kernel))) rfl, ⟨by decide +kernel, by decide +kernel, by decide +kernel⟩, mo_129, rfl⟩
theorem ml_168 : MLok (11, 42, 66, 0, 2) := ⟨mB (mt2 (List.mem_of_getElem? (i := 174) (by decide +kernel))) rfl, mB (mt2 (List.mem_of_getElem? (i := 175) (by decide +kernel))) rfl, mB (mt2 (List.mem_of_getElem? (i := 176) (by decide +kernel))) rfl, mB (mt1 (List.mem_of_getElem? (i := 1) (by decide +kernel))) rfl, ⟨by decide +kernel, by decide +kernel, by decide +kernel⟩, mo_66, rfl⟩
theorem ml_169 : MLok (11, 46, 130, 0, 2) := ⟨mB (mt5 (List.mem_of_getElem? (i := 91) (by decide +kernel))) rfl, mB (mt5 (List.mem_of_getElem? (i := 92) (by decide +kernel))) rfl, mB (mt5 (List.mem_of_getElem? (i := 93) (by decide +kernel))) rfl, mB (mt1 (List.mem_of_getElem? (i := 12) (by decide +kernel))) rfl, ⟨by decide +kernel, by decide +kernel, by decide +kernel⟩, mo_130, rfl⟩
theorem ml_170 : MLok (11, 47, 67, 0, 1) := ⟨mB (mt2 (List.mem_of_getElem? (i := 182) (by decide +kernel))) rfl, mB (mt2 (List.mem_of_getElem? (i := 183) (by decide +kernel))) rfl, mB (mt2 (List.mem_of_getElem? (i := 184) (by decide +kernel))) rfl, mB (mt1 (List.mem_of_getElem? (i := 1) (by decide +kernel))) rfl, ⟨by decide +kernel, by decide +kernel, by decide +kernel⟩, mo_67, rfl⟩
theorem ml_171 : MLok (11, 51, 139, 0, 1) := ⟨mB (mt5 (List.mem_of_getElem? (i := 98) (by decide +kernel))) rfl, mB (mt5 (List.mem_of_getElem? (i := 99) (by decide +kernel))) rfl, mB (mt5 (List.mem_of_getElem? (i := 100) (by decide +kernel))) rfl, mB (mt1 (List.mem_of_getElem? (i := 12) (by decide +kernel))) rfl, ⟨by decide +kernel, by decide +kernel, by decide +kernel⟩, mo_139, rfl⟩
theorem ml_172 : MLok (11, 52, 68, 0, 3) := ⟨mB (mt3 (List.mem_of_getElem? (i := 5) (by decide +kernel))) rfl, mB (mt3 (List.mem_of_getElem? (i := 6) (by decide +kernel))) rfl, mB (mt3 (List.mem_of_getElem? (i := 7) (by decide +kernel))) rfl, mB (mt1 (List.mem_of_getElem? (i := 1) (by decide +kernel))) rfl, ⟨by decide +kernel, by decide +kernel, by decide +kernel⟩, mo_68, rfl⟩
theorem ml_173 : MLok (11, 55, 141, 0, 3) := ⟨mB (mt5 (List.mem_of_getElem? (i := 141) (by decide +kernel))) rfl, mB (mt5 (List.mem_of_getElem? (i := 142) (by decide +kernel))) rfl, mB (mt5 (List.mem_of_getElem? (i := 143) (by decide +kernel))) rfl, mB (mt1 (List.mem_of_getElem? (i := 12) (by decide +kernel))) rfl, ⟨by decide +kernel, by decide +kernel, by decide +kernel⟩, mo_141, rfl⟩
theorem ml_174 : MLok (11, 61, 142, 0, 2) := ⟨mB (mt5 (List.mem_of_getElem? (i := 148) (by decide +kernel))) rfl, mB (mt5 (List.mem_of_getElem? (i := 149) (by decide +kernel))) rfl, mB (mt5 (List.mem_of_getElem? (i := 150) (by decide +kernel))) rfl, mB (mt1 (List.mem_of_getElem? (i := 12) (by decide +kernel))) rfl, ⟨by decide +kernel, by decide +kernel, by decide +kernel⟩, mo_142, rfl⟩
theorem ml_175 : MLok (11, 62, 114, 0, 1) := ⟨mB (mt5 (List.mem_of_getElem? (i := 83) (by decide +kernel))) rfl, mB (mt5 (List.mem_of_getElem? (i := 84) (by decide +kernel))) rfl, mB (mt5 (List.mem_of_getElem? (i := 85) (by decide +kernel))) rfl, mB (mt1 (List.mem_of_getElem? (i := 12) (by decide +kernel))) rfl, ⟨by decide +kernel, by decide +kernel, by decide +kernel⟩, mo_114, rfl⟩
theorem ml_176 : MLok (11, 65, 70, 0, 6) := ⟨mB (mt3 (List.mem_of_getElem? (i := 11) (by decide +kernel))) rfl, mB (mt3 (List.mem_of_getElem? (i := 12) (by decide +kernel))) rfl, mB (mt3 (List.mem_of_getElem? (i := 13) (by decide +kernel))) rfl, mB (mt1 (List.mem_of_getElem? (i := 1) (by decide +kernel))) rfl, ⟨by decide +kernel, by decide +kernel, by decide +kernel⟩, mo_70, rfl⟩
theorem ml_177 : MLok (11, 69, 144, 0, 6) := ⟨mB (mt5 (List.mem_of_getElem? (i := 156) (by decide +kernel))) rfl, mB (mt5 (List.mem_of_getElem? (i := 157) (by decide +kernel))) rfl, mB (mt5 (List.mem_of_getElem? (i := 158) (by decide +kernel))) rfl, mB (mt1 (List.mem_of_getElem? (i := 12) (by decide +kernel))) rfl, ⟨by decide +kernel, by decide +kernel, by decide +kernel⟩, mo_144, rfl⟩
theorem ml_178 : MLok (11, 70, 71, 0, 5) := ⟨mB (mt3 (List.mem_of_getElem? (i := 45) (by decide +kernel))) rfl, mB (mt3 (List.mem_of_getElem? (i := 46) (by decide +kernel))) rfl, mB (mt3 (List.mem_of_getElem? (i := 47) (by decide +kernel))) rfl, mB (mt1 (List.mem_of_getElem? (i := 1) (by decide +kernel))) rfl, ⟨by decide +kernel, by decide +kernel, by decide +kernel⟩, mo_71, rfl⟩
theorem ml_179 : MLok (11, 73, 148, 0, 5) := ⟨mB (mt5 (List.mem_of_getElem? (i := 185) (by decide +kernel))) rfl, mB (mt5 (List.mem_of_getElem? (i := 186) (by decide +kernel))) rfl, mB (mt5 (List.mem_of_getElem? (i := 187) (by decide +kernel))) rfl, mB (mt1 (List.mem_of_getElem? (i := 12) (by decide +kernel))) rfl, ⟨by decide +kernel, by decide +kernel, by decide +kernel⟩, mo_148, rfl⟩
theorem ml_180 : MLok (11, 74, 72, 0, 2) := ⟨mB (mt3 (List.mem_of_getElem? (i := 55) (by decide +kernel))) rfl, mB (mt3 (List.mem_of_getElem? (i := 56) (by decide +kernel))) rfl, mB (mt3 (List.mem_of_getElem? (i := 57) (by decide +kernel))) rfl, mB (mt1 (List.mem_of_getElem? (i := 1) (by decide +kernel))) rfl, ⟨by decide +kernel, by decide +kernel, by decide +kernel⟩, mo_72, rfl⟩
theorem ml_181 : MLok (11, 77, 172, 0, 2) := ⟨mB (mt5 (List.mem_of_getElem? (i := 197) (by decide +kernel))) rfl, mB (mt5 (List.mem_of_getElem? (i := 198) (by decide +kernel))) rfl, mB (mt5 (List.mem_of_getElem? (i := 199) (by decide +kernel))) rfl, mB (mt1 (List.mem_of_getElem? (i := 12) (by decide +kernel))) rfl, ⟨by decide +kernel, by decide +kernel, by decide +kernel⟩, mo_172, rfl⟩
theorem ml_182 : MLok (11, 78, 73, 0, 1) := ⟨mB (mt3 (List.mem_of_getElem? (i := 228) (by decide +kernel))) rfl, mB (mt3 (List.mem_of_getElem? (i := 229) (by decide +kernel))) rfl, mB (mt3 (List.mem_of_getElem? (i := 230) (by decide +kernel))) rfl, mB (mt1 (List.mem_of_getElem? (i := 1) (by decide +kernel))) rfl, ⟨by decide +kernel, by decide +kernel, by decide +kernel⟩, mo_73, rfl⟩
theorem ml_183 : MLok (11, 81, 174, 0, 1) := ⟨mB (mt6 (List.mem_of_getElem? (i := 74) (by decide +kernel))) rfl, mB (mt6 (List.mem_of_getElem? (i := 75) (by decide +kernel))) rfl, mB (mt6 (List.mem_of_getElem? (i := 76) (by decide +kernel))) rfl, mB (mt1 (List.mem_of_getElem? (i := 12) (by decide +kernel))) rfl, ⟨by decide +kernel, by decide +kernel, by decide +kernel⟩, mo_174, rfl⟩
theorem ml_184 : MLok (11, 85, 178, 0, 3) := ⟨mB (mt6 (List.mem_of_getElem? (i := 82) (by decide +kernel))) rfl, mB (mt6 (List.mem_of_getElem? (i := 83) (by decide +kernel))) rfl, mB (mt6 (List.mem_of_getElem? (i := 84) (by decide +kernel))) rfl, mB (mt1 (List.mem_of_getElem? (i := 12) (by decide +kernel))) rfl, ⟨by decide +kernel, by decide +kernel, by decide +kernel⟩, mo_178, rfl⟩
theorem ml_185 : MLok (11, 89, 179, 0, 4) := ⟨mB (mt6 (List.mem_of_getElem? (i := 90) (by decide +kernel))) rfl, mB (mt6 (List.mem_of_getElem? (i := 91) (by decide +kernel))) rfl, mB (mt6 (List.mem_of_getElem? (i := 92) (by decide +kernel))) rfl, mB (mt1 (List.mem_of_getElem? (i := 12) (by decide +kernel))) rfl, ⟨by decide +kernel, by decide +kernel, by decide +kernel⟩, mo_179, rfl⟩
theorem ml_186 : MLok (11, 93, 180, 0, 5) := ⟨mB (mt6 (List.mem_of_getElem? (i := 94) (by decide +kernel))) rfl, mB (mt6 (List.mem_of_getElem? (i := 95) (by decide +kernel))) rfl, mB (mt6 (List.mem_of_getElem? (i := 96) (by decide +kernel))) rfl, mB (mt1 (List.mem_of_getElem? (i := 12) (by decide +kernel))) rfl, ⟨by decide +kernel, by decide +kernel, by decide +kernel⟩, mo_180, rfl⟩
theorem ml_187 : MLok (11, 94, 77, 0, 3) := ⟨mB (mt3 (List.mem_of_getElem? (i := 236) (by decide +kernel))) rfl, mB (mt3 (List.mem_of_getElem? (i := 237) (by decide +kernel))) rfl, mB (mt3 (List.mem_of_getElem? (i := 238) (by decide +kernel))) rfl, mB (mt1 (List.mem_of_getElem? (i := 1) (by decide +kernel))) rfl, ⟨by decide +kernel, by decide +kernel, by decide +kernel⟩, mo_77, rfl⟩
theorem ml_188 : MLok (11, 97, 181, 0, 3) := ⟨mB (mt6 (List.mem_of_getElem? (i := 98) (by decide +kernel))) rfl, mB (mt6 (List.mem_of_getElem? (i := 99) (by decide +kernel))) rfl, mB (mt6 (List.mem_of_getElem? (i := 100) (by decide +kernel))) rfl, mB (mt1 (List.mem_of_getElem? (i := 12) (by decide +kernel))) rfl, ⟨by decide +kernel, by decide +kernel, by decide +kernel⟩, mo_181, rfl⟩
theorem ml_189 : MLok (11, 98, 78, 0, 1) := ⟨mB (mt4 (List.mem_of_getElem? (i := 4) (by decide +kernel))) rfl, mB (mt4 (List.mem_of_getElem? (i := 5) (by decide +kernel))) rfl, mB (mt4 (List.mem_of_getElem? (i := 6) (by decide +kernel))) rfl, mB (mt1 (List.mem_of_getElem? (i := 1) (by decide +kernel))) rfl, ⟨by decide +kernel, by decide +kernel, by decide +kernel⟩, mo_78, rfl⟩
theorem ml_190 : MLok (11, 101, 183, 0, 1) := ⟨mB (mt6 (List.mem_of_getElem? (i := 106) (by decide +kernel))) rfl, mB (mt6 (List.mem_of_getElem? (i := 107) (by decide +kernel))) rfl, mB (mt6 (List.mem_of_getElem? (i := 108) (by decide +kernel))) rfl, mB (mt1 (List.mem_of_getElem? (i := 12) (by decide +kernel))) rfl, ⟨by decide +kernel, by decide +kernel, by decide +kernel⟩, mo_183, rfl⟩
theorem ml_191 : MLok (11, 102, 79, 0, 2) := ⟨mB (mt4 (List.mem_of_getElem? (i := 9) (by decide +kernel))) rfl, mB (mt4 (List.mem_of_getElem? (i := 10) (by decide +kernel))) rfl, mB (mt4 (List.mem_of_getElem? (i := 11) (by decide +kernel))) rfl, mB (mt1 (List.mem_of_getElem? (i := 1) (by decide +kernel))) rfl, ⟨by decide +kernel, by decide +kernel, by decide +kernel⟩, mo_79, rfl⟩
theorem ml_192 : MLok (11, 105, 184, 0, 2) := ⟨mB (mt6 (List.mem_of_getElem? (i := 110) (by decide +kernel))) rfl, mB (mt6 (List.mem_of_getElem? (i := 111) (by decide +kernel))) rfl, mB (mt6 (List.mem_of_getElem? (i := 112) (by decide +kernel))) rfl, mB (mt1 (List.mem_of_getElem? (i := 12) (by decide +kernel))) rfl, ⟨by decide +kernel, by decide +kernel, by decide +kernel⟩, mo_184, rfl⟩
theorem ml_193 : MLok (11, 106, 80, 0, 3) := ⟨mB (mt4 (List.mem_of_getElem? (i := 13) (by decide +kernel))) rfl, mB (mt4 (List.mem_of_getElem? (i := 14) (by decide +kernel))) rfl, mB (mt4 (List.mem_of_getElem? (i := 15) (by decide +kernel))) rfl, mB (mt1 (List.mem_of_getElem? (i := 1) (by decide +kernel))) rfl, ⟨by decide +kernel, by decide +kernel, by decide +kernel⟩, mo_80, rfl⟩
theorem ml_194 : MLok (11, 109, 185, 0, 3) := ⟨mB (mt6 (List.mem_of_getElem? (i := 114) (by decide +kernel))) rfl, mB (mt6 (List.mem_of_getElem? (i := 115) (by decide +kernel))) rfl, mB (mt6 (List.mem_of_getElem? (i := 116) (by decide +kernel))) rfl, mB (mt1 (List.mem_of_getElem? (i := 12) (by decide +kernel))) rfl, ⟨by decide +kernel, by decide +kernel, by decide +kernel⟩, mo_185, rfl⟩
theorem ml_195 : MLok (11, 110, 81, 0, 1) := ⟨mB (mt4 (List.mem_of_getElem? (i := 17) (by decide +kernel))) rfl, mB (mt4 (List.mem_of_getElem? (i := 18) (by decide +kernel))) rfl, mB (mt4 (List.mem_of_getElem? (i := 19) (by decide +kernel))) rfl, mB (mt1 (List.mem_of_getElem? (i := 1) (by decide +kernel))) rfl, ⟨by decide +kernel, by decide +kernel, by decide +kernel⟩, mo_81, rfl⟩
theorem ml_196 : MLok (11, 113, 186, 0, 1) := ⟨mB (mt6 (List.mem_of_getElem? (i := 118) (by decide +kernel))) rfl, mB (mt6 (List.mem_of_getElem? (i := 119) (by decide +kernel))) rfl, mB (mt6 (List.mem_of_getElem? (i := 120) (by decide +kernel))) rfl, mB (mt1 (List.mem_of_getElem? (i := 12) (by decide +kernel))) rfl, ⟨by decide +kernel, by decide +kernel, by decide +kernel⟩, mo_186, rfl⟩
theorem ml_197 : MLok (11, 116, 187, 0, 3) := ⟨mB (mt6 (List.mem_of_getElem? (i := 122) (by decide +kernel))) rfl, mB (mt6 (List.mem_of_getElem? (i := 123) (by decide +kernel))) rfl, mB (mt6 (List.mem_of_getElem? (i := 124) (by decide +kernel))) rfl, mB (mt1 (List.mem_of_getElem? (i := 12) (by decide +kernel))) rfl, ⟨by decide +kernel, by decide +kernel, by decide +kernel⟩, mo_187, rfl⟩
theorem ml_198 : MLok (11, 117, 83, 0, 2) := ⟨mB (mt4 (List.mem_of_getElem? (i := 24) (by decide +kernel))) rfl, mB (mt4 (List.mem_of_getElem? (i := 25) (by decide +kernel))) rfl, mB (mt4 (List.mem_of_getElem? (i := 26) (by decide +kernel))) rfl, mB (mt1 (List.mem_of_getElem? (i := 1) (by decide +kernel))) rfl, ⟨by decide +kernel, by decide +kernel, by decide +kernel⟩, mo_83, rfl⟩
theorem ml_199 : MLok (11, 120, 189, 0, 2) := ⟨mB (mt6 (List.mem_of_getElem? (i := 130) (by decide +kernel))) rfl, mB (mt6 (List.mem_of_getElem? (i := 131) (by decide +kernel))) rfl, mB (mt6 (List.mem_of_getElem? (i := 132) (by decide +kernel))) rfl, mB (mt1 (List.mem_of_getElem? (i := 12) (by decide +kernel))) rfl, ⟨by decide +kernel, by decide +kernel, by decide +kernel⟩, mo_189, rfl⟩
theorem ml_200 : MLok (11, 121, 84, 0, 3) := ⟨mB (mt4 (List.mem_of_getElem? (i := 28) (by decide +kernel))) rfl, mB (mt4 (List.mem_of_getElem? (i := 29) (by decide +kernel))) rfl, mB (mt4 (List.mem_of_getElem? (i := 30) (by decide +kernel))) rfl, mB (mt1 (List.mem_of_getElem? (i := 1) (by decide +kernel))) rfl, ⟨by decide +kernel, by decide +kernel, by decide +kernel⟩, mo_84, rfl⟩
theorem ml_201 : MLok (11, 124, 190, 0, 3) := ⟨mB (mt6 (List.mem_of_getElem? (i := 134) (by decide +kernel))) rfl, mB (mt6 (List.mem_of_getElem? (i := 135) (by decide +kernel))) rfl, mB (mt6 (List.mem_of_getElem? (i := 136) (by decide +kernel))) rfl, mB (mt1 (List.mem_of_getElem? (i := 12) (by decide +kernel))) rfl, ⟨by decide +kernel, by decide +kernel, by decide +kernel⟩, mo_190, rfl⟩
theorem ml_202 : MLok (11, 125, 85, 0, 2) := ⟨mB (mt4 (List.mem_of_getElem? (i := 33) (by decide +kernel))) rfl, mB (mt4 (List.mem_of_getElem? (i := 34) (by decide +kernel))) rfl, mB (mt4 (List.mem_of_getElem? (i := 35) (by decide +kernel))) rfl, mB (mt1 (List.mem_of_getElem? (i := 1) (by decide +kernel))) rfl, ⟨by decide +kernel, by decide +kernel, by decide +kernel⟩, mo_85, rfl⟩
theorem ml_203 : MLok (11, 128, 188, 0, 2) := ⟨mB (mt6 (List.mem_of_getElem? (i := 126) (by decide +kernel))) rfl, mB (mt6 (List.mem_of_getElem? (i := 127) (by decide +kernel))) rfl, mB (mt6 (List.mem_of_getElem? (i := 128) (by decide +kernel))) rfl, mB (mt1 (List.mem_of_getElem? (i := 12) (by decide +kernel))) rfl, ⟨by decide +kernel, by decide +kernel, by decide +kernel⟩, mo_188, rfl⟩
theorem ml_204 : MLok (11, 129, 86, 0, 1) := ⟨mB (mt4 (List.mem_of_getElem? (i := 37) (by decide +kernel))) rfl, mB (mt4 (List.mem_of_getElem? (i := 38) (by decide +kernel))) rfl, mB (mt4 (List.mem_of_getElem? (i := 39) (by decide +kernel))) rfl, mB (mt1 (List.mem_of_getElem? (i := 1) (by decide +kernel))) rfl, ⟨by decide +kernel, by decide +kernel, by decide +kernel⟩, mo_86, rfl⟩
theorem ml_205 : MLok (11, 132, 191, 0, 1) := ⟨mB (mt6 (List.mem_of_getElem? (i := 138) (by decide +kernel))) rfl, mB (mt6 (List.mem_of_getElem? (i := 139) (by decide +kernel))) rfl, mB (mt6 (List.mem_of_getElem? (i := 140) (by decide +kernel))) rfl, mB (mt1 (List.mem_of_getElem? (i := 12) (by decide +kernel))) rfl, ⟨by decide +kernel, by decide +kernel, by decide +kernel⟩, mo_191, rfl⟩
theorem ml_206 : MLok (11, 133, 87, 0, 1) := ⟨mB (mt4 (List.mem_of_getElem? (i := 45) (by decide +kernel))) rfl, mB (mt4 (List.mem_of_getElem? (i := 46) (by decide +kernel))) rfl, mB (mt4 (List.mem_of_getElem? (i := 47) (by decide +kernel))) rfl, mB (mt1 (List.mem_of_getElem? (i := 1) (by decide +kernel))) rfl, ⟨by decide +kernel, by decide +kernel, by decide +kernel⟩, mo_87, rfl⟩
theorem ml_207 : MLok (11, 136, 192, 0, 1) := ⟨mB (mt6 (List.mem_of_getElem? (i := 145) (by decide +kernel))) rfl, mB (mt6 (List.mem_of_getElem? (i := 146) (by decide +kernel))) rfl, mB (mt6 (List.mem_of_getElem? (i := 147) (by decide +kernel))) rfl, mB (mt1 (List.mem_of_getElem? (i := 12) (by decide +kernel))) rfl, ⟨by decide +kernel, by decide +kernel, by decide +kernel⟩, mo_192, rfl⟩
theorem ml_208 : MLok (11, 137, 88, 0, 3) := ⟨mB (mt4 (List.mem_of_getElem? (i := 49) (by decide +kernel))) rfl, mB (mt4 (List.mem_of_getElem? (i := 50) (by decide +kernel))) rfl, mB (mt4 (List.mem_of_getElem? (i := 51) (by decide +kernel))) rfl, mB (mt1 (List.mem_of_getElem? (i := 1) (by decide +kernel))) rfl, ⟨by decide +kernel, by decide +kernel, by decide +kernel⟩, mo_88, rfl⟩
theorem ml_209 : MLok (11, 140, 195, 0, 3) := ⟨mB (mt6 (List.mem_of_getElem? (i := 149) (by decide +kernel))) rfl, mB (mt6 (List.mem_of_getElem? (i := 150) (by decide +kernel))) rfl, mB (mt6 (List.mem_of_getElem? (i := 151) (by decide +kernel))) rfl, mB (mt1 (List.mem_of_getElem? (i := 12) (by decide +kernel))) rfl, ⟨by decide +kernel, by decide +kernel, by decide +kernel⟩, mo_195, rfl⟩
theorem ml_210 : MLok (11, 141, 89, 0, 3) := ⟨mB (mt4 (List.mem_of_getElem? (i := 59) (by decide +kernel))) rfl, mB (mt4 (List.mem_of_getElem? (i := 60) (by decide +kernel))) rfl, mB (mt4 (List.mem_of_getElem? (i := 61) (by decide +kernel))) rfl, mB (mt1 (List.mem_of_getElem? (i := 1) (by decide +kernel))) rfl, ⟨by decide +kernel, by decide +kernel, by decide +kernel⟩, mo_89, rfl⟩
theorem ml_211 : MLok (11, 144, 196, 0, 3) := ⟨mB (mt6 (List.mem_of_getElem? (i := 162) (by decide +kernel))) rfl, mB (mt6 (List.mem_of_getElem? (i := 163) (by decide +kernel))) rfl, mB (mt6 (List.mem_of_getElem? (i := 164) (by decide +kernel))) rfl, mB (mt1 (List.mem_of_getElem? (i := 12) (by decide +kernel))) rfl, ⟨by decide +kernel, by decide +kernel, by decide +kernel⟩, mo_196, rfl⟩
theorem ml_212 : MLok (11, 145, 90, 0, 3) := ⟨mB (mt4 (List.mem_of_getElem? (i := 64) (by decide +kernel))) rfl, mB (mt4 (List.mem_of_getElem? (i := 65) (by decide +kernel))) rfl, mB (mt4 (List.mem_of_getElem? (i := 66) (by decide +kernel))) rfl, mB (mt1 (List.mem_of_getElem? (i := 1) (by decide +kernel))) rfl, ⟨by decide +kernel, by decide +kernel, by decide +kernel⟩, mo_90, rfl⟩
theorem ml_213 : MLok (11, 148, 199, 0, 3) := ⟨mB (mt6 (List.mem_of_getElem? (i := 167) (by decide +kernel))) rfl, mB (mt6 (List.mem_of_getElem? (i := 168) (by decide +kernel))) rfl, mB (mt6 (List.mem_of_getElem? (i := 169) (by decide +kernel))) rfl, mB (mt1 (List.mem_of_getElem? (i := 12) (by decide +kernel))) rfl, ⟨by decide +kernel, by decide +kernel, by decide +kernel⟩, mo_199, rfl⟩
theorem ml_214 : MLok (11, 149, 91, 0, 1) := ⟨mB (mt4 (List.mem_of_getElem? (i := 73) (by decide +kernel))) rfl, mB (mt4 (List.mem_of_getElem? (i := 74) (by decide +kernel))) rfl, mB (mt4 (List.mem_of_getElem? (i := 75) (by decide +kernel))) rfl, mB (mt1 (List.mem_of_getElem? (i := 1) (by decide +kernel))) rfl, ⟨by decide +kernel, by decide +kernel, by decide +kernel⟩, mo_91, rfl⟩
theorem ml_215 : MLok (11, 152, 201, 0, 1) := ⟨mB (mt6 (List.mem_of_getElem? (i := 183) (by decide +kernel))) rfl, mB (mt6 (List.mem_of_getElem? (i := 184) (by decide +kernel))) rfl, mB (mt6 (List.mem_of_getElem? (i := 185) (by decide +kernel))) rfl, mB (mt1 (List.mem_of_getElem? (i := 12) (by decide +kernel))) rfl, ⟨by decide +kernel, by decide +kernel, by decide +kernel⟩, mo_201, rfl⟩
theorem ml_216 : MLok (11, 153, 92, 0, 1) := ⟨mB (mt4 (List.mem_of_getElem? (i := 77) (by decide +kernel))) rfl, mB (mt4 (List.mem_of_getElem? (i := 78) (by decide +kernel))) rfl, mB (mt4 (List.mem_of_getElem? (i := 79) (by decide +kernel))) rfl, mB (mt1 (List.mem_of_getElem? (i := 1) (by decide +kernel))) rfl, ⟨by decide +kernel, by decide +kernel, by decide +kernel⟩, mo_92, rfl⟩
theorem ml_217 : MLok (11, 156, 202, 0, 1) := ⟨mB (mt6 (List.mem_of_getElem? (i := 191) (by decide +kernel))) rfl, mB (mt6 (List.mem_of_getElem? (i := 192) (by decide +kernel))) rfl, mB (mt6 (List.mem_of_getElem? (i := 193) (by decide +kernel))) rfl, mB (mt1 (List.mem_of_getElem? (i := 12) (by decide +kernel))) rfl, ⟨by decide +kernel, by decide +kernel, by decide +kernel⟩, mo_202, rfl⟩
theorem ml_218 : MLok (11, 157, 93, 0, 2) := ⟨mB (mt4 (List.mem_of_getElem? (i := 81) (by decide +kernel))) rfl, mB (mt4 (List.mem_of_getElem? (i := 82) (by decide +kernel))) rfl, mB (mt4 (List.mem_of_getElem? (i := 83) (by decide +kernel))) rfl, mB (mt1 (List.mem_of_getElem? (i := 1) (by decide +kernel))) rfl, ⟨by decide +kernel, by decide +kernel, by decide +kernel⟩, mo_93, rfl⟩
theorem ml_219 : MLok (11, 160, 204, 0, 2) := ⟨mB (mt6 (List.mem_of_getElem? (i := 195) (by decide +kernel))) rfl, mB (mt6 (List.mem_of_getElem? (i := 196) (by decide +kernel))) rfl, mB (mt6 (List.mem_of_getElem? (i := 197) (by decide +kernel))) rfl, mB (mt1 (List.mem_of_getElem? (i := 12) (by decide +kernel))) rfl, ⟨by decide +kernel, by decide +kernel, by decide +kernel⟩, mo_204, rfl⟩
theorem ml_220 : MLok (11, 161, 94, 0, 1) := ⟨mB (mt4 (List.mem_of_getElem? (i := 93) (by decide +kernel))) rfl, mB (mt4 (List.mem_of_getElem? (i := 94) (by decide +kernel))) rfl, mB (mt4 (List.mem_of_getElem? (i := 95) (by decide +kernel))) rfl, mB (mt1 (List.mem_of_getElem? (i := 1) (by decide +kernel))) rfl, ⟨by decide +kernel, by decide +kernel, by decide +kernel⟩, mo_94, rfl⟩
theorem ml_221 : MLok (11, 164, 207, 0, 1) := ⟨mB (mt6 (List.mem_of_getElem? (i := 203) (by decide +kernel))) rfl, mB (mt6 (List.mem_of_getElem? (i := 204) (by decide +kernel))) rfl, mB (mt6 (List.mem_of_getElem? (i := 205) (by decide +kernel))) rfl, mB (mt1 (List.mem_of_getElem? (i := 12) (by decide +kernel))) rfl, ⟨by decide +kernel, by decide +kernel, by decide +kernel⟩, mo_207, rfl⟩
theorem ml_222 : MLok (11, 165, 95, 0, 1) := ⟨mB (mt4 (List.mem_of_getElem? (i := 114) (by decide +kernel))) rfl, mB (mt4 (List.mem_of_getElem? (i := 115) (by decide +kernel))) rfl, mB (mt4 (List.mem_of_getElem? (i := 116) (by decide +kernel))) rfl, mB (mt1 (List.mem_of_getElem? (i := 1) (by decide +kernel))) rfl, ⟨by decide +kernel, by decide +kernel, by decide +kernel⟩, mo_95, rfl⟩
theorem ml_223 : MLok (11, 168, 210, 0, 1) := ⟨mB (mt6 (List.mem_of_getElem? (i := 219) (by decide +kernel))) rfl, mB (mt6 (List.mem_of_getElem? (i := 220) (by decide +kernel))) rfl, mB (mt6 (List.mem_of_getElem? (i := 221) (by decide +kernel))) rfl, mB (mt1 (List.mem_of_getElem? (i := 12) (by decide +kernel))) rfl, ⟨by decide +kernel, by decide +kernel, by decide +kernel⟩, mo_210, rfl⟩
theorem ml_224 : MLok (11, 169, 96, 0, 3) := ⟨mB (mt4 (List.mem_of_getElem? (i := 122) (by decide +kernel))) rfl, mB (mt4 (List.mem_of_getElem? (i := 123) (by decide +kernel))) rfl, mB (mt4 (List.mem_of_getElem? (i := 124) (by decide +kernel))) rfl, mB (mt1 (List.mem_of_getElem? (i := 1) (by decide +kernel))) rfl, ⟨by decide +kernel, by decide +kernel, by decide +kernel⟩, mo_96, rfl⟩
theorem ml_225 : MLok (11, 172, 212, 0, 3) := ⟨mB (mt6 (List.mem_of_getElem? (i := 223) (by decide +kernel))) rfl, mB (mt6 (List.mem_of_getElem? (i := 224) (by decide +kernel))) rfl, mB (mt6 (List.mem_of_getElem? (i := 225) (by decide +kernel))) rfl, mB (mt1 (List.mem_of_getElem? (i := 12) (by decide +kernel))) rfl, ⟨by decide +kernel, by decide +kernel, by decide +kernel⟩, mo_212, rfl⟩
theorem ml_226 : MLok (11, 173, 97, 0, 2) := ⟨mB (mt4 (List.mem_of_getElem? (i := 131) (by decide +kernel))) rfl, mB (mt4 (List.mem_of_getElem? (i := 132) (by decide +kernel))) rfl, mB (mt4 (List.mem_of_getElem? (i := 133) (by decide +kernel))) rfl, mB (mt1 (List.mem_of_getElem? (i := 1) (by decide +kernel))) rfl, ⟨by decide +kernel, by decide +kernel, by decide +kernel⟩, mo_97, rfl⟩
theorem ml_227 : MLok (11, 176, 213, 0, 2) := ⟨mB (mt6 (List.mem_of_getElem? (i := 231) (by decide +kernel))) rfl, mB (mt6 (List.mem_of_getElem? (i := 232) (by decide +kernel))) rfl, mB (mt6 (List.mem_of_getElem? (i := 233) (by decide +kernel))) rfl, mB (mt1 (List.mem_of_getElem? (i := 12) (by decide +kernel))) rfl, ⟨by decide +kernel, by decide +kernel, by decide +kernel⟩, mo_213, rfl⟩
theorem ml_228 : MLok (11, 177, 98, 0, 2) := ⟨mB (mt4 (List.mem_of_getElem? (i := 135) (by decide +kernel))) rfl, mB (mt4 (List.mem_of_getElem? (i := 136) (by decide +kernel))) rfl, mB (mt4 (List.mem_of_getElem? (i := 137) (by decide +kernel))) rfl, mB (mt1 (List.mem_of_getElem? (i := 1) (by decide +kernel))) rfl, ⟨by decide +kernel, by decide +kernel, by decide +kernel⟩, mo_98, rfl⟩
theorem ml_229 : MLok (11, 180, 214, 0, 2) := ⟨mB (mt6 (List.mem_of_getElem? (i := 235) (by decide +kernel))) rfl, mB (mt6 (List.mem_of_getElem? (i := 236) (by decide +kernel))) rfl, mB (mt6 (List.mem_of_getElem? (i := 237) (by decide +kernel))) rfl, mB (mt1 (List.mem_of_getElem? (i := 12) (by decide +kernel))) rfl, ⟨by decide +kernel, by decide +kernel, by decide +kernel⟩, mo_214, rfl⟩
theorem ml_230 : MLok (11, 181, 99, 0, 2) := ⟨mB (mt4 (List.mem_of_getElem? (i := 139) (by decide +kernel))) rfl, mB (mt4 (List.mem_of_getElem? (i := 140) (by decide +kernel))) rfl, mB (mt4 (List.mem_of_getElem? (i := 141) (by decide +kernel))) rfl, mB (mt1 (List.mem_of_getElem? (i := 1) (by decide +kernel))) rfl, ⟨by decide +kernel, by decide +kernel, by decide +kernel⟩, mo_99, rfl⟩
theorem ml_231 : MLok (11, 184, 216, 0, 2) := ⟨mB (mt6 (List.mem_of_getElem? (i := 239) (by decide +kernel))) rfl, mB (mt7 (List.mem_of_getElem? (i := 0) (by decide +kernel))) rfl, mB (mt7 (List.mem_of_getElem? (i := 1) (by decide +kernel))) rfl, mB (mt1 (List.mem_of_getElem? (i := 12) (by decide +kernel))) rfl, ⟨by decide +kernel, by decide +kernel, by decide +kernel⟩, mo_216, rfl⟩
theorem ml_232 : MLok (11, 187, 217, 0, 2) := ⟨mB (mt7 (List.mem_of_getElem? (i := 7) (by decide +kernel))) rfl, mB (mt7 (List.mem_of_getElem? (i := 8) (by decide +kernel))) rfl, mB (mt7 (List.mem_of_getElem? (i := 9) (by decide +kernel))) rfl, mB (mt1 (List.mem_of_getElem? (i := 12) (by decide +kernel))) rfl, ⟨by decide +kernel, by decide +kernel, by decide +kernel⟩, mo_217, rfl⟩
def ML : List (Nat × Nat × Nat × Nat × Nat) := [(0, 45, 59, 0, 2), (0, 77, 2, 0, 3), (0, 129, 62, 0, 3), (0, 137, 38, 0, 1), (0, 145, 61, 0, 1), (0, 149, 102, 1, 1), (0, 153, 3, 0, 3), (0, 157, 50, 0, 4), (0, 164, 34, 0, 2), (0, 168, 14, 0, 1), (0, 171, 60, 0, 1), (0, 175, 15, 0, 2), (0, 179, 18, 0, 1), (0, 182, 21, 0, 1), (0, 185, 22, 0, 1), (0, 194, 24, 0, 4), (0, 198, 25, 0, 4), (0, 201, 26, 0, 4), (0, 204, 29, 0, 4), (0, 207, 33, 0, 2), (0, 210, 12, 0, 3), (0, 213, 16, 0, 3), (0, 216, 32, 0, 3), (0, 219, 49, 0, 3), (0, 226, 53, 0, 2), (0, 234, 17, 1, 2), (0, 264, 36, 0, 1), (0, 270, 19, 0, 2), (0, 273, 218, 1, 1), (0, 287, 20, 0, 3), (0, 290, 64, 0, 4), (0, 293, 23, 0, 6), (0, 297, 63, 0, 3), (0, 300, 31, 0, 3), (0, 307, 27, 1, 2), (0, 311, 28, 1, 2), (0, 318, 30, 0, 3), (0, 324, 39, 0, 3), (0, 327, 52, 0, 2), (0, 330, 51, 0, 2), (4, 19, 40, 0, 1), (4, 22, 41, 0, 2), (4, 26, 42, 0, 2), (4, 29, 43, 0, 3), (5, 22, 0, 0, 2), (6, 31, 49, 0, 3), (7, 19, 56, 0, 2), (8, 46, 48, 0, 2), (8, 50, 35, 0, 2), (8, 53, 37, 0, 2), (8, 87, 62, 0, 3), (9, 59, 54, 0, 2), (9, 67, 55, 0, 2), (9, 70, 57, 0, 4), (9, 74, 103, 0, 2), (9, 78, 46, 0, 2), (9, 82, 1, 0, 3), (9, 101, 102, 1, 1), (9, 104, 6, 0, 1), (9, 108, 7, 0, 2), (9, 115, 104, 1, 2), (9, 119, 105, 0, 4), (9, 123, 8, 0, 5), (9, 127, 9, 0, 5), (9, 130, 4, 0, 2), (9, 133, 13, 0, 1), (9, 136, 44, 0, 4), (9, 140, 11, 0, 1), (9, 143, 101, 0, 2), (9, 158, 60, 0, 1), (9, 171, 61, 0, 1), (9, 189, 12, 0, 3), (9, 235, 43, 0, 3), (9, 248, 3, 0, 3), (9, 260, 40, 0, 1), (9, 265, 41, 0, 2), (9, 291, 42, 0, 2), (9, 306, 45, 0, 3), (9, 318, 106, 1, 2), (9, 322, 107, 1, 2), (9, 327, 0, 0, 2), (9, 330, 5, 0, 1), (9, 334, 108, 0, 3), (9, 337, 110, 0, 1), (9, 340, 112, 0, 2), (9, 343, 109, 0, 2), (9, 346, 47, 0, 2), (9, 351, 34, 0, 2), (9, 354, 113, 0, 1), (9, 361, 58, 0, 3), (9, 364, 10, 0, 3), (9, 371, 56, 0, 2), (9, 374, 111, 0, 2), (10, 59, 115, 1, 3), (10, 63, 123, 0, 3), (10, 67, 125, 1, 2), (10, 82, 133, 0, 1), (10, 86, 132, 0, 1), (10, 90, 134, 0, 2), (10, 94, 135, 0, 3), (10, 98, 131, 0, 1), (10, 101, 138, 0, 2), (10, 105, 137, 0, 1), (10, 108, 208, 0, 1), (10, 111, 140, 1, 1), (10, 114, 117, 0, 1), (10, 117, 127, 1, 1), (10, 120, 122, 1, 1), (10, 124, 143, 0, 1), (10, 127, 124, 0, 3), (10, 131, 145, 0, 6), (10, 135, 126, 1, 3), (10, 139, 121, 0, 2), (10, 142, 147, 0, 5), (10, 146, 128, 0, 2), (10, 149, 146, 0, 4), (10, 153, 151, 0, 4), (10, 156, 153, 0, 4), (10, 164, 152, 0, 3), (10, 168, 155, 1, 2), (10, 171, 149, 0, 2), (10, 174, 116, 1, 2), (10, 177, 150, 0, 3), (10, 180, 156, 0, 3), (10, 183, 154, 0, 3), (10, 189, 160, 0, 3), (10, 192, 159, 0, 3), (10, 198, 161, 0, 5), (10, 202, 162, 0, 4), (10, 205, 163, 0, 4), (10, 208, 164, 0, 3), (10, 212, 165, 0, 2), (10, 215, 166, 0, 2), (10, 218, 175, 0, 2), (10, 221, 157, 0, 1), (10, 224, 158, 0, 1), (10, 227, 169, 0, 1), (10, 230, 167, 0, 2), (10, 233, 168, 0, 1), (10, 236, 170, 0, 1), (10, 239, 171, 0, 2), (10, 242, 118, 0, 2), (10, 246, 173, 0, 1), (10, 249, 177, 0, 2), (10, 252, 182, 0, 2), (10, 255, 120, 1, 2), (10, 259, 193, 1, 2), (10, 262, 194, 1, 2), (10, 265, 119, 1, 2), (10, 270, 197, 0, 1), (10, 273, 176, 0, 1), (10, 276, 198, 0, 1), (10, 279, 200, 0, 1), (10, 282, 203, 0, 3), (10, 285, 136, 0, 1), (10, 288, 205, 0, 2), (10, 291, 206, 0, 2), (10, 294, 209, 0, 1), (10, 303, 211, 0, 2), (10, 306, 215, 0, 1), (11, 7, 69, 0, 2), (11, 15, 74, 0, 3), (11, 19, 75, 0, 4), (11, 23, 76, 0, 5), (11, 27, 82, 0, 3), (11, 30, 100, 0, 2), (11, 38, 65, 0, 2), (11, 41, 129, 0, 2), (11, 42, 66, 0, 2), (11, 46, 130, 0, 2), (11, 47, 67, 0, 1), (11, 51, 139, 0, 1), (11, 52, 68, 0, 3), (11, 55, 141, 0, 3), (11, 61, 142, 0, 2), (11, 62, 114, 0, 1), (11, 65, 70, 0, 6), (11, 69, 144, 0, 6), (11, 70, 71, 0, 5), (11, 73, 148, 0, 5), (11, 74, 72, 0, 2), (11, 77, 172, 0, 2), (11, 78, 73, 0, 1), (11, 81, 174, 0, 1), (11, 85, 178, 0, 3), (11, 89, 179, 0, 4), (11, 93, 180, 0, 5), (11, 94, 77, 0, 3), (11, 97, 181, 0, 3), (11, 98, 78, 0, 1), (11, 101, 183, 0, 1), (11, 102, 79, 0, 2), (11, 105, 184, 0, 2), (11, 106, 80, 0, 3), (11, 109, 185, 0, 3), (11, 110, 81, 0, 1), (11, 113, 186, 0, 1), (11, 116, 187, 0, 3), (11, 117, 83, 0, 2), (11, 120, 189, 0, 2), (11, 121, 84, 0, 3), (11, 124, 190, 0, 3), (11, 125, 85, 0, 2), (11, 128, 188, 0, 2), (11, 129, 86, 0, 1), (11, 132, 191, 0, 1), (11, 133, 87, 0, 1), (11, 136, 192, 0, 1), (11, 137, 88, 0, 3), (11, 140, 195, 0, 3), (11, 141, 89, 0, 3), (11, 144, 196, 0, 3), (11, 145, 90, 0, 3), (11, 148, 199, 0, 3), (11, 149, 91, 0, 1), (11, 152, 201, 0, 1), (11, 153, 92, 0, 1), (11, 156, 202, 0, 1), (11, 157, 93, 0, 2), (11, 160, 204, 0, 2), (11, 161, 94, 0, 1), (11, 164, 207, 0, 1), (11, 165, 95, 0, 1), (11, 168, 210, 0, 1), (11, 169, 96, 0, 3), (11, 172, 212, 0, 3), (11, 173, 97, 0, 2), (11, 176, 213, 0, 2), (11, 177, 98, 0, 2), (11, 180, 214, 0, 2), (11, 181, 99, 0, 2), (11, 184, 216, 0, 2), (11, 187, 217, 0, 2)]
theorem ML_c0 : ∀ r ∈ ([(0, 45, 59, 0, 2), (0, 77, 2, 0, 3), (0, 129, 62, 0, 3), (0, 137, 38, 0, 1), (0, 145, 61, 0, 1), (0, 149, 102, 1, 1), (0, 153, 3, 0, 3), (0, 157, 50, 0, 4), (0, 164, 34, 0, 2), (0, 168, 14, 0, 1), (0, 171, 60, 0, 1), (0, 175, 15, 0, 2), (0, 179, 18, 0, 1), (0, 182, 21, 0, 1), (0, 185, 22, 0, 1), (0, 194, 24, 0, 4), (0, 198, 25, 0, 4), (0, 201, 26, 0, 4), (0, 204, 29, 0, 4), (0, 207, 33, 0, 2), (0, 210, 12, 0, 3), (0, 213, 16, 0, 3), (0, 216, 32, 0, 3), (0, 219, 49, 0, 3), (0, 226, 53, 0, 2), (0, 234, 17, 1, 2), (0, 264, 36, 0, 1), (0, 270, 19, 0, 2), (0, 273, 218, 1, 1), (0, 287, 20, 0, 3), (0, 290, 64, 0, 4), (0, 293, 23, 0, 6), (0, 297, 63, 0, 3), (0, 300, 31, 0, 3), (0, 307, 27, 1, 2), (0, 311, 28, 1, 2), (0, 318, 30, 0, 3), (0, 324, 39, 0, 3), (0, 327, 52, 0, 2), (0, 330, 51, 0, 2)] : List (Nat × Nat × Nat × Nat × Nat)), MLok r := List.forall_mem_cons.mpr ⟨ml_0, List.forall_mem_cons.mpr ⟨ml_1, List.forall_mem_cons.mpr ⟨ml_2, List.forall_mem_cons.mpr ⟨ml_3, List.forall_mem_cons.mpr ⟨ml_4, List.forall_mem_cons.mpr ⟨ml_5, List.forall_mem_cons.mpr ⟨ml_6, List.forall_mem_cons.mpr ⟨ml_7, List.forall_mem_cons.mpr ⟨ml_8, List.forall_mem_cons.mpr ⟨ml_9, List.forall_mem_cons.mpr ⟨ml_10, List.forall_mem_cons.mpr ⟨ml_11, List.forall_mem_cons.mpr ⟨ml_12, List.forall_mem_cons.mpr ⟨ml_13, List.forall_mem_cons.mpr ⟨ml_14, List.forall_mem_cons.mpr ⟨ml_15, List.forall_mem_cons.mpr ⟨ml_16, List.forall_mem_cons.mpr ⟨ml_17, List.forall_mem_cons.mpr ⟨ml_18, List.forall_mem_cons.mpr ⟨ml_19, List.forall_mem_cons.mpr ⟨ml_20, List.forall_mem_cons.mpr ⟨ml_21, List.forall_mem_cons.mpr ⟨ml_22, List.forall_mem_cons.mpr ⟨ml_23, List.forall_mem_cons.mpr ⟨ml_24, List.forall_mem_cons.mpr ⟨ml_25, List.forall_mem_cons.mpr ⟨ml_26, List.forall_mem_cons.mpr ⟨ml_27, List.forall_mem_cons.mpr ⟨ml_28, List.forall_mem_cons.mpr ⟨ml_29, List.forall_mem_cons.mpr ⟨ml_30, List.forall_mem_cons.mpr ⟨ml_31, List.forall_mem_cons.mpr ⟨ml_32, List.forall_mem_cons.mpr ⟨ml_33, List.forall_mem_cons.mpr ⟨ml_34, List.forall_mem_cons.mpr ⟨ml_35, List.forall_mem_cons.mpr ⟨ml_36, List.forall_mem_cons.mpr ⟨ml_37, List.forall_mem_cons.mpr ⟨ml_38, List.forall_mem_cons.mpr ⟨ml_39, fun _ h => absurd h List.not_mem_nil⟩⟩⟩⟩⟩⟩⟩⟩⟩⟩⟩⟩⟩⟩⟩⟩⟩⟩⟩⟩⟩⟩⟩⟩⟩⟩⟩⟩⟩⟩⟩⟩⟩⟩⟩⟩⟩⟩⟩⟩
theorem ML_c1 : ∀ r ∈ ([(4, 19, 40, 0, 1), (4, 22, 41, 0, 2), (4, 26, 42, 0, 2), (4, 29, 43, 0, 3), (5, 22, 0, 0, 2), (6, 31, 49, 0, 3), (7, 19, 56, 0, 2), (8, 46, 48, 0, 2), (8, 50, 35, 0, 2), (8, 53, 37, 0, 2), (8, 87, 62, 0, 3), (9, 59, 54, 0, 2), (9, 67, 55, 0, 2), (9, 70, 57, 0, 4), (9, 74, 103, 0, 2), (9, 78, 46, 0, 2), (9, 82, 1, 0, 3), (9, 101, 102, 1, 1), (9, 104, 6, 0, 1), (9, 108, 7, 0, 2), (9, 115, 104, 1, 2), (9, 119, 105, 0, 4), (9, 123, 8, 0, 5), (9, 127, 9, 0, 5), (9, 130, 4, 0, 2), (9, 133, 13, 0, 1), (9, 136, 44, 0, 4), (9, 140, 11, 0, 1), (9, 143, 101, 0, 2), (9, 158, 60, 0, 1), (9, 171, 61, 0, 1), (9, 189, 12, 0, 3), (9, 235, 43, 0, 3), (9, 248, 3, 0, 3), (9, 260, 40, 0, 1), (9, 265, 41, 0, 2), (9, 291, 42, 0, 2), (9, 306, 45, 0, 3), (9, 318, 106, 1, 2), (9, 322, 107, 1, 2)] : List (Nat × Nat × Nat × Nat × Nat)), MLok r := List.forall_mem_cons.mpr ⟨ml_40, List.forall_mem_cons.mpr ⟨ml_41, List.forall_mem_cons.mpr ⟨ml_42, List.forall_mem_cons.mpr ⟨ml_43, List.forall_mem_cons.mpr ⟨ml_44, List.forall_mem_cons.mpr ⟨ml_45, List.forall_mem_cons.mpr ⟨ml_46, List.forall_mem_cons.mpr ⟨ml_47, List.forall_mem_cons.mpr ⟨ml_48, List.forall_mem_cons.mpr ⟨ml_49, List.forall_mem_cons.mpr ⟨ml_50, List.forall_mem_cons.mpr ⟨ml_51, List.forall_mem_cons.mpr ⟨ml_52, List.forall_mem_cons.mpr ⟨ml_53, List.forall_mem_cons.mpr ⟨ml_54, List.forall_mem_cons.mpr ⟨ml_55, List.forall_mem_cons.mpr ⟨ml_56, List.forall_mem_cons.mpr ⟨ml_57, List.forall_mem_cons.mpr ⟨ml_58, List.forall_mem_cons.mpr ⟨ml_59, List.forall_mem_cons.mpr ⟨ml_60, List.forall_mem_cons.mpr ⟨ml_61, List.forall_mem_cons.mpr ⟨ml_62, List.forall_mem_cons.mpr ⟨ml_63, List.forall_mem_cons.mpr ⟨ml_64, List.forall_mem_cons.mpr ⟨ml_65, List.forall_mem_cons.mpr ⟨ml_66, List.forall_mem_cons.mpr ⟨ml_67, List.forall_mem_cons.mpr ⟨ml_68, List.forall_mem_cons.mpr ⟨ml_69, List.forall_mem_cons.mpr ⟨ml_70, List.forall_mem_cons.mpr ⟨ml_71, List.forall_mem_cons.mpr ⟨ml_72, List.forall_mem_cons.mpr ⟨ml_73, List.forall_mem_cons.mpr ⟨ml_74, List.forall_mem_cons.mpr ⟨ml_75, List.forall_mem_cons.mpr ⟨ml_76, List.forall_mem_cons.mpr ⟨ml_77, List.forall_mem_cons.mpr ⟨ml_78, List.forall_mem_cons.mpr ⟨ml_79, fun _ h => absurd h List.not_mem_nil⟩⟩⟩⟩⟩⟩⟩⟩⟩⟩⟩⟩⟩⟩⟩⟩⟩⟩⟩⟩⟩⟩⟩⟩⟩⟩⟩⟩⟩⟩⟩⟩⟩⟩⟩⟩⟩⟩⟩⟩
theorem ML_c2 : ∀ r ∈ ([(9, 327, 0, 0, 2), (9, 330, 5, 0, 1), (9, 334, 108, 0, 3), (9, 337, 110, 0, 1), (9, 340, 112, 0, 2), (9, 343, 109, 0, 2), (9, 346, 47, 0, 2), (9, 351, 34, 0, 2), (9, 354, 113, 0, 1), (9, 361, 58, 0, 3), (9, 364, 10, 0, 3), (9, 371, 56, 0, 2), (9, 374, 111, 0, 2), (10, 59, 115, 1, 3), (10, 63, 123, 0, 3), (10, 67, 125, 1, 2), (10, 82, 133, 0, 1), (10, 86, 132, 0, 1), (10, 90, 134, 0, 2), (10, 94, 135, 0, 3), (10, 98, 131, 0, 1), (10, 101, 138, 0, 2), (10, 105, 137, 0, 1), (10, 108, 208, 0, 1), (10, 111, 140, 1, 1), (10, 114, 117, 0, 1), (10, 117, 127, 1, 1), (10, 120, 122, 1, 1), (10, 124, 143, 0, 1), (10, 127, 124, 0, 3), (10, 131, 145, 0, 6), (10, 135, 126, 1, 3), (10, 139, 121, 0, 2), (10, 142, 147, 0, 5), (10, 146, 128, 0, 2), (10, 149, 146, 0, 4), (10, 153, 151, 0, 4), (10, 156, 153, 0, 4), (10, 164, 152, 0, 3), (10, 168, 155, 1, 2)] : List (Nat × Nat × Nat × Nat × Nat)), MLok r := List.forall_mem_cons.mpr ⟨ml_80, List.forall_mem_cons.mpr ⟨ml_81, List.forall_mem_cons.mpr ⟨ml_82, List.forall_mem_cons.mpr ⟨ml_83, List.forall_mem_cons.mpr ⟨ml_84, List.forall_mem_cons.mpr ⟨ml_85, List.forall_mem_cons.mpr ⟨ml_86, List.forall_mem_cons.mpr ⟨ml_87, List.forall_mem_cons.mpr ⟨ml_88, List.forall_mem_cons.mpr ⟨ml_89, List.forall_mem_cons.mpr ⟨ml_90, List.forall_mem_cons.mpr ⟨ml_91, List.forall_mem_cons.mpr ⟨ml_92, List.forall_mem_cons.mpr ⟨ml_93, List.forall_mem_cons.mpr ⟨ml_94, List.forall_mem_cons.mpr ⟨ml_95, List.forall_mem_cons.mpr ⟨ml_96, List.forall_mem_cons.mpr ⟨ml_97, List.forall_mem_cons.mpr ⟨ml_98, List.forall_mem_cons.mpr ⟨ml_99, List.forall_mem_cons.mpr ⟨ml_100, List.forall_mem_cons.mpr ⟨ml_101, List.forall_mem_cons.mpr ⟨ml_102, List.forall_mem_cons.mpr ⟨ml_103, List.forall_mem_cons.mpr ⟨ml_104, List.forall_mem_cons.mpr ⟨ml_105, List.forall_mem_cons.mpr ⟨ml_106, List.forall_mem_cons.mpr ⟨ml_107, List.forall_mem_cons.mpr ⟨ml_108, List.forall_mem_cons.mpr ⟨ml_109, List.forall_mem_cons.mpr ⟨ml_110, List.forall_mem_cons.mpr ⟨ml_111, List.forall_mem_cons.mpr ⟨ml_112, List.forall_mem_cons.mpr ⟨ml_113, List.forall_mem_cons.mpr ⟨ml_114, List.forall_mem_cons.mpr ⟨ml_115, List.forall_mem_cons.mpr ⟨ml_116, List.forall_mem_cons.mpr ⟨ml_117, List.forall_mem_cons.mpr ⟨ml_118, List.forall_mem_cons.mpr ⟨ml_119, fun _ h => absurd h List.not_mem_nil⟩⟩⟩⟩⟩⟩⟩⟩⟩⟩⟩⟩⟩⟩⟩⟩⟩⟩⟩⟩⟩⟩⟩⟩⟩⟩⟩⟩⟩⟩⟩⟩⟩⟩⟩⟩⟩⟩⟩⟩
theorem ML_c3 : ∀ r ∈ ([(10, 171, 149, 0, 2), (10, 174, 116, 1, 2), (10, 177, 150, 0, 3), (10, 180, 156, 0, 3), (10, 183, 154, 0, 3), (10, 189, 160, 0, 3), (10, 192, 159, 0, 3), (10, 198, 161, 0, 5), (10, 202, 162, 0, 4), (10, 205, 163, 0, 4), (10, 208, 164, 0, 3), (10, 212, 165, 0, 2), (10, 215, 166, 0, 2), (10, 218, 175, 0, 2), (10, 221, 157, 0, 1), (10, 224, 158, 0, 1), (10, 227, 169, 0, 1), (10, 230, 167, 0, 2), (10, 233, 168, 0, 1), (10, 236, 170, 0, 1), (10, 239, 171, 0, 2), (10, 242, 118, 0, 2), (10, 246, 173, 0, 1), (10, 249, 177, 0, 2), (10, 252, 182, 0, 2), (10, 255, 120, 1, 2), (10, 259, 193, 1, 2), (10, 262, 194, 1, 2), (10, 265, 119, 1, 2), (10, 270, 197, 0, 1), (10, 273, 176, 0, 1), (10, 276, 198, 0, 1), (10, 279, 200, 0, 1), (10, 282, 203, 0, 3), (10, 285, 136, 0, 1), (10, 288, 205, 0, 2), (10, 291, 206, 0, 2), (10, 294, 209, 0, 1), (10, 303, 211, 0, 2), (10, 306, 215, 0, 1)] : List (Nat × Nat × Nat × Nat × Nat)), MLok r := List.forall_mem_cons.mpr ⟨ml_120, List.forall_mem_cons.mpr ⟨ml_121, List.forall_mem_cons.mpr ⟨ml_122, List.forall_mem_cons.mpr ⟨ml_123, List.forall_mem_cons.mpr ⟨ml_124, List.forall_mem_cons.mpr ⟨ml_125, List.forall_mem_cons.mpr ⟨ml_126, List.forall_mem_cons.mpr ⟨ml_127, List.forall_mem_cons.mpr ⟨ml_128, List.forall_mem_cons.mpr ⟨ml_129, List.forall_mem_cons.mpr ⟨ml_130, List.forall_mem_cons.mpr ⟨ml_131, List.forall_mem_cons.mpr ⟨ml_132, List.forall_mem_cons.mpr ⟨ml_133, List.forall_mem_cons.mpr ⟨ml_134, List.forall_mem_cons.mpr ⟨ml_135, List.forall_mem_cons.mpr ⟨ml_136, List.forall_mem_cons.mpr ⟨ml_137, List.forall_mem_cons.mpr ⟨ml_138, List.forall_mem_cons.mpr ⟨ml_139, List.forall_mem_cons.mpr ⟨ml_140, List.forall_mem_cons.mpr ⟨ml_141, List.forall_mem_cons.mpr ⟨ml_142, List.forall_mem_cons.mpr ⟨ml_143, List.forall_mem_cons.mpr ⟨ml_144, List.forall_mem_cons.mpr ⟨ml_145, List.forall_mem_cons.mpr ⟨ml_146, List.forall_mem_cons.mpr ⟨ml_147, List.forall_mem_cons.mpr ⟨ml_148, List.forall_mem_cons.mpr ⟨ml_149, List.forall_mem_cons.mpr ⟨ml_150, List.forall_mem_cons.mpr ⟨ml_151, List.forall_mem_cons.mpr ⟨ml_152, List.forall_mem_cons.mpr ⟨ml_153, List.forall_mem_cons.mpr ⟨ml_154, List.forall_mem_cons.mpr ⟨ml_155, List.forall_mem_cons.mpr ⟨ml_156, List.forall_mem_cons.mpr ⟨ml_157, List.forall_mem_cons.mpr ⟨ml_158, List.forall_mem_cons.mpr ⟨ml_159, fun _ h => absurd h List.not_mem_nil⟩⟩⟩⟩⟩⟩⟩⟩⟩⟩⟩⟩⟩⟩⟩⟩⟩⟩⟩⟩⟩⟩⟩⟩⟩⟩⟩⟩⟩⟩⟩⟩⟩⟩⟩⟩⟩⟩⟩⟩
theorem ML_c4 : ∀ r ∈ ([(11, 7, 69, 0, 2), (11, 15, 74, 0, 3), (11, 19, 75, 0, 4), (11, 23, 76, 0, 5), (11, 27, 82, 0, 3), (11, 30, 100, 0, 2), (11, 38, 65, 0, 2), (11, 41, 129, 0, 2), (11, 42, 66, 0, 2), (11, 46, 130, 0, 2), (11, 47, 67, 0, 1), (11, 51, 139, 0, 1), (11, 52, 68, 0, 3), (11, 55, 141, 0, 3), (11, 61, 142, 0, 2), (11, 62, 114, 0, 1), (11, 65, 70, 0, 6), (11, 69, 144, 0, 6), (11, 70, 71, 0, 5), (11, 73, 148, 0, 5), (11, 74, 72, 0, 2), (11, 77, 172, 0, 2), (11, 78, 73, 0, 1), (11, 81, 174, 0, 1), (11, 85, 178, 0, 3), (11, 89, 179, 0, 4), (11, 93, 180, 0, 5), (11, 94, 77, 0, 3), (11, 97, 181, 0, 3), (11, 98, 78, 0, 1), (11, 101, 183, 0, 1), (11, 102, 79, 0, 2), (11, 105, 184, 0, 2), (11, 106, 80, 0, 3), (11, 109, 185, 0, 3), (11, 110, 81, 0, 1), (11, 113, 186, 0, 1), (11, 116, 187, 0, 3), (11, 117, 83, 0, 2), (11, 120, 189, 0, 2)] : List (Nat × Nat × Nat × Nat × Nat)), MLok r := List.forall_mem_cons.mpr ⟨ml_160, List.forall_mem_cons.mpr ⟨ml_161, List.forall_mem_cons.mpr ⟨ml_162, List.forall_mem_cons.mpr ⟨ml_163, List.forall_mem_cons.mpr ⟨ml_164, List.forall_mem_cons.mpr ⟨ml_165, List.forall_mem_cons.mpr ⟨ml_166, List.forall_mem_cons.mpr ⟨ml_167, List.forall_mem_cons.mpr ⟨ml_168, List.forall_mem_cons.mpr ⟨ml_169, List.forall_mem_cons.mpr ⟨ml_170, List.forall_mem_cons.mpr ⟨ml_171, List.forall_mem_cons.mpr ⟨ml_172, List.forall_mem_cons.mpr ⟨ml_173, List.forall_mem_cons.mpr ⟨ml_174, List.forall_mem_cons.mpr ⟨ml_175, List.forall_mem_cons.mpr ⟨ml_176, List.forall_mem_cons.mpr ⟨ml_177, List.forall_mem_cons.mpr ⟨ml_178, List.forall_mem_cons.mpr ⟨ml_179, List.forall_mem_cons.mpr ⟨ml_180, List.forall_mem_cons.mpr ⟨ml_181, List.forall_mem_cons.mpr ⟨ml_182, List.forall_mem_cons.mpr ⟨ml_183, List.forall_mem_cons.mpr ⟨ml_184, List.forall_mem_cons.mpr ⟨ml_185, List.forall_mem_cons.mpr ⟨ml_186, List.forall_mem_cons.mpr ⟨ml_187, List.forall_mem_cons.mpr ⟨ml_188, List.forall_mem_cons.mpr ⟨ml_189, List.forall_mem_cons.mpr ⟨ml_190, List.forall_mem_cons.mpr ⟨ml_191, List.forall_mem_cons.mpr ⟨ml_192, List.forall_mem_cons.mpr ⟨ml_193, List.forall_mem_cons.mpr ⟨ml_194, List.forall_mem_cons.mpr ⟨ml_195, List.forall_mem_cons.mpr ⟨ml_196, List.forall_mem_cons.mpr ⟨ml_197, List.forall_mem_cons.mpr ⟨ml_198, List.forall_mem_cons.mpr ⟨ml_199, fun _ h => absurd h List.not_mem_nil⟩⟩⟩⟩⟩⟩⟩⟩⟩⟩⟩⟩⟩⟩⟩⟩⟩⟩⟩⟩⟩⟩⟩⟩⟩⟩⟩⟩⟩⟩⟩⟩⟩⟩⟩⟩⟩⟩⟩⟩
theorem ML_c5 : ∀ r ∈ ([(11, 121, 84, 0, 3), (11, 124, 190, 0, 3), (11, 125, 85, 0, 2), (11, 128, 188, 0, 2), (11, 129, 86, 0, 1), (11, 132, 191, 0, 1), (11, 133, 87, 0, 1), (11, 136, 192, 0, 1), (11, 137, 88, 0, 3), (11, 140, 195, 0, 3), (11, 141, 89, 0, 3), (11, 144, 196, 0, 3), (11, 145, 90, 0, 3), (11, 148, 199, 0, 3), (11, 149, 91, 0, 1), (11, 152, 201, 0, 1), (11, 153, 92, 0, 1), (11, 156, 202, 0, 1), (11, 157, 93, 0, 2), (11, 160, 204, 0, 2), (11, 161, 94, 0, 1), (11, 164, 207, 0, 1), (11, 165, 95, 0, 1), (11, 168, 210, 0, 1), (11, 169, 96, 0, 3), (11, 172, 212, 0, 3), (11, 173, 97, 0, 2), (11, 176, 213, 0, 2), (11, 177, 98, 0, 2), (11, 180, 214, 0, 2), (11, 181, 99, 0, 2), (11, 184, 216, 0, 2), (11, 187, 217, 0, 2)] : List (Nat × Nat × Nat × Nat × Nat)), MLok r := List.forall_mem_cons.mpr ⟨ml_200, List.forall_mem_cons.mpr ⟨ml_201, List.forall_mem_cons.mpr ⟨ml_202, List.forall_mem_cons.mpr ⟨ml_203, List.forall_mem_cons.mpr ⟨ml_204, List.forall_mem_cons.mpr ⟨ml_205, List.forall_mem_cons.mpr ⟨ml_206, List.forall_mem_cons.mpr ⟨ml_207, List.forall_mem_cons.mpr ⟨ml_208, List.forall_mem_cons.mpr ⟨ml_209, List.forall_mem_cons.mpr ⟨ml_210, List.forall_mem_cons.mpr ⟨ml_211, List.forall_mem_cons.mpr ⟨ml_212, List.forall_mem_cons.mpr ⟨ml_213, List.forall_mem_cons.mpr ⟨ml_214, List.forall_mem_cons.mpr ⟨ml_215, List.forall_mem_cons.mpr ⟨ml_216, List.forall_mem_cons.mpr ⟨ml_217, List.forall_mem_cons.mpr ⟨ml_218, List.forall_mem_cons.mpr ⟨ml_219, List.forall_mem_cons.mpr ⟨ml_220, List.forall_mem_cons.mpr ⟨ml_221, List.forall_mem_cons.mpr ⟨ml_222, List.forall_mem_cons.mpr ⟨ml_223, List.forall_mem_cons.mpr ⟨ml_224, List.forall_mem_cons.mpr ⟨ml_225, List.forall_mem_cons.mpr ⟨ml_226, List.forall_mem_cons.mpr ⟨ml_227, List.forall_mem_cons.mpr ⟨ml_228, List.forall_mem_cons.mpr ⟨ml_229, List.forall_mem_cons.mpr ⟨ml_230, List.forall_mem_cons.mpr ⟨ml_231, List.forall_mem_cons.mpr ⟨ml_232, fun _ h => absurd h List.not_mem_nil⟩⟩⟩⟩⟩⟩⟩⟩⟩⟩⟩⟩⟩⟩⟩⟩⟩⟩⟩⟩⟩⟩⟩⟩⟩⟩⟩⟩⟩⟩⟩⟩⟩
theorem ML_ok : ∀ r ∈ ML, MLok r := by
  intro r h
  rw [show ML = [(0, 45, 59, 0, 2), (0, 77, 2, 0, 3), (0, 129, 62, 0, 3), (0, 137, 38, 0, 1), (0, 145, 61, 0, 1), (0, 149, 102, 1, 1), (0, 153, 3, 0, 3), (0, 157, 50, 0, 4), (0, 164, 34, 0, 2), (0, 168, 14, 0, 1), (0, 171, 60, 0, 1), (0, 175, 15, 0, 2), (0, 179, 18, 0, 1), (0, 182, 21, 0, 1), (0, 185, 22, 0, 1), (0, 194, 24, 0, 4), (0, 198, 25, 0, 4), (0, 201, 26, 0, 4), (0, 204, 29, 0, 4), (0, 207, 33, 0, 2), (0, 210, 12, 0, 3), (0, 213, 16, 0, 3), (0, 216, 32, 0, 3), (0, 219, 49, 0, 3), (0, 226, 53, 0, 2), (0, 234, 17, 1, 2), (0, 264, 36, 0, 1), (0, 270, 19, 0, 2), (0, 273, 218, 1, 1), (0, 287, 20, 0, 3), (0, 290, 64, 0, 4), (0, 293, 23, 0, 6), (0, 297, 63, 0, 3), (0, 300, 31, 0, 3), (0, 307, 27, 1, 2), (0, 311, 28, 1, 2), (0, 318, 30, 0, 3), (0, 324, 39, 0, 3), (0, 327, 52, 0, 2), (0, 330, 51, 0, 2)] ++ ([(4, 19, 40, 0, 1), (4, 22, 41, 0, 2), (4, 26, 42, 0, 2), (4, 29, 43, 0, 3), (5, 22, 0, 0, 2), (6, 31, 49, 0, 3), (7, 19, 56, 0, 2), (8, 46, 48, 0, 2), (8, 50, 35, 0, 2), (8, 53, 37, 0, 2), (8, 87, 62, 0, 3), (9, 59, 54, 0, 2), (9, 67, 55, 0, 2), (9, 70, 57, 0, 4), (9, 74, 103, 0, 2), (9, 78, 46, 0, 2), (9, 82, 1, 0, 3), (9, 101, 102, 1, 1), (9, 104, 6, 0, 1), (9, 108, 7, 0, 2), (9, 115, 104, 1, 2), (9, 119, 105, 0, 4), (9, 123, 8, 0, 5), (9, 127, 9, 0, 5), (9, 130, 4, 0, 2), (9, 133, 13, 0, 1), (9, 136, 44, 0, 4), (9, 140, 11, 0, 1), (9, 143, 101, 0, 2), (9, 158, 60, 0, 1), (9, 171, 61, 0, 1), (9, 189, 12, 0, 3), (9, 235, 43, 0, 3), (9, 248, 3, 0, 3), (9, 260, 40, 0, 1), (9, 265, 41, 0, 2), (9, 291, 42, 0, 2), (9, 306, 45, 0, 3), (9, 318, 106, 1, 2), (9, 322, 107, 1, 2)] ++ ([(9, 327, 0, 0, 2), (9, 330, 5, 0, 1), (9, 334, 108, 0, 3), (9, 337, 110, 0, 1), (9, 340, 112, 0, 2), (9, 343, 109, 0, 2), (9, 346, 47, 0, 2), (9, 351, 34, 0, 2), (9, 354, 113, 0, 1), (9, 361, 58, 0, 3), (9, 364, 10, 0, 3), (9, 371, 56, 0, 2), (9, 374, 111, 0, 2), (10, 59, 115, 1, 3), (10, 63, 123, 0, 3), (10, 67, 125, 1, 2), (10, 82, 133, 0, 1), (10, 86, 132, 0, 1), (10, 90, 134, 0, 2), (10, 94, 135, 0, 3), (10, 98, 131, 0, 1), (10, 101, 138, 0, 2), (10, 105, 137, 0, 1), (10, 108, 208, 0, 1), (10, 111, 140, 1, 1), (10, 114, 117, 0, 1), (10, 117, 127, 1, 1), (10, 120, 122, 1, 1), (10, 124, 143, 0, 1), (10, 127, 124, 0, 3), (10, 131, 145, 0, 6), (10, 135, 126, 1, 3), (10, 139, 121, 0, 2), (10, 142, 147, 0, 5), (10, 146, 128, 0, 2), (10, 149, 146, 0, 4), (10, 153, 151, 0, 4), (10, 156, 153, 0, 4), (10, 164, 152, 0, 3), (10, 168, 155, 1, 2)] ++ ([(10, 171, 149, 0, 2), (10, 174, 116, 1, 2), (10, 177, 150, 0, 3), (10, 180, 156, 0, 3), (10, 183, 154, 0, 3), (10, 189, 160, 0, 3), (10, 192, 159, 0, 3), (10, 198, 161, 0, 5), (10, 202, 162, 0, 4), (10, 205, 163, 0, 4), (10, 208, 164, 0, 3), (10, 212, 165, 0, 2), (10, 215, 166, 0, 2), (10, 218, 175, 0, 2), (10, 221, 157, 0, 1), (10, 224, 158, 0, 1), (10, 227, 169, 0, 1), (10, 230, 167, 0, 2), (10, 233, 168, 0, 1), (10, 236, 170, 0, 1), (10, 239, 171, 0, 2), (10, 242, 118, 0, 2), (10, 246, 173, 0, 1), (10, 249, 177, 0, 2), (10, 252, 182, 0, 2), (10, 255, 120, 1, 2), (10, 259, 193, 1, 2), (10, 262, 194, 1, 2), (10, 265, 119, 1, 2), (10, 270, 197, 0, 1), (10, 273, 176, 0, 1), (10, 276, 198, 0, 1), (10, 279, 200, 0, 1), (10, 282, 203, 0, 3), (10, 285, 136, 0, 1), (10, 288, 205, 0, 2), (10, 291, 206, 0, 2), (10, 294, 209, 0, 1), (10, 303, 211, 0, 2), (10, 306, 215, 0, 1)] ++ ([(11, 7, 69, 0, 2), (11, 15, 74, 0, 3), (11, 19, 75, 0, 4), (11, 23, 76, 0, 5), (11, 27, 82, 0, 3), (11, 30, 100, 0, 2), (11, 38, 65, 0, 2), (11, 41, 129, 0, 2), (11, 42, 66, 0, 2), (11, 46, 130, 0, 2), (11, 47, 67, 0, 1), (11, 51, 139, 0, 1), (11, 52, 68, 0, 3), (11, 55, 141, 0, 3), (11, 61, 142, 0, 2), (11, 62, 114, 0, 1), (11, 65, 70, 0, 6), (11, 69, 144, 0, 6), (11, 70, 71, 0, 5), (11, 73, 148, 0, 5), (11, 74, 72, 0, 2), (11, 77, 172, 0, 2), (11, 78, 73, 0, 1), (11, 81, 174, 0, 1), (11, 85, 178, 0, 3), (11, 89, 179, 0, 4), (11, 93, 180, 0, 5), (11, 94, 77, 0, 3), (11, 97, 181, 0, 3), (11, 98, 78, 0, 1), (11, 101, 183, 0, 1), (11, 102, 79, 0, 2), (11, 105, 184, 0, 2), (11, 106, 80, 0, 3), (11, 109, 185, 0, 3), (11, 110, 81, 0, 1), (11, 113, 186, 0, 1), (11, 116, 187, 0, 3), (11, 117, 83, 0, 2), (11, 120, 189, 0, 2)] ++ ([(11, 121, 84, 0, 3), (11, 124, 190, 0, 3), (11, 125, 85, 0, 2), (11, 128, 188, 0, 2), (11, 129, 86, 0, 1), (11, 132, 191, 0, 1), (11, 133, 87, 0, 1), (11, 136, 192, 0, 1), (11, 137, 88, 0, 3), (11, 140, 195, 0, 3), (11, 141, 89, 0, 3), (11, 144, 196, 0, 3), (11, 145, 90, 0, 3), (11, 148, 199, 0, 3), (11, 149, 91, 0, 1), (11, 152, 201, 0, 1), (11, 153, 92, 0, 1), (11, 156, 202, 0, 1), (11, 157, 93, 0, 2), (11, 160, 204, 0, 2), (11, 161, 94, 0, 1), (11, 164, 207, 0, 1), (11, 165, 95, 0, 1), (11, 168, 210, 0, 1), (11, 169, 96, 0, 3), (11, 172, 212, 0, 3), (11, 173, 97, 0, 2), (11, 176, 213, 0, 2), (11, 177, 98, 0, 2), (11, 180, 214, 0, 2), (11, 181, 99, 0, 2), (11, 184, 216, 0, 2), (11, 187, 217, 0, 2)]))))) from rfl] at h
  simp only [List.mem_append] at h
  rcases h with h | h | h | h | h | h
  · exact ML_c0 r h
  · exact ML_c1 r h
  · exact ML_c2 r h
  · exact ML_c3 r h
  · exact ML_c4 r h
  · exact ML_c5 r h
def CLok (r : Nat × Nat × Nat × Nat) : Prop := match r.2.2.2 with
  | 0 => Cond.constant (cn r.1) r.2.1 (nI r.2.2.1) ∈ mBig
  | _ => Cond.constantLong (cn r.1) r.2.1 (lN r.2.2.1) ∈ mBig
theorem cl_0 : CLok (1, 13, 1103515245, 0) := mB (mt3 (List.mem_of_getElem? (i := 121) (by decide +kernel))) rfl
theorem cl_1 : CLok (9, 263, 6, 1) := mB (mt4 (List.mem_of_getElem? (i := 22) (by decide +kernel))) rfl
theorem cl_2 : CLok (9, 325, 100, 1) := mB (mt4 (List.mem_of_getElem? (i := 63) (by decide +kernel))) rfl
theorem cl_3 : CLok (10, 70, 1103515245, 0) := mB (mt6 (List.mem_of_getElem? (i := 16) (by decide +kernel))) rfl
theorem cl_4 : CLok (10, 268, 100, 1) := mB (mt6 (List.mem_of_getElem? (i := 166) (by decide +kernel))) rfl
theorem cl_5 : CLok (12, 265, 1431655765, 0) := mB (mt3 (List.mem_of_getElem? (i := 137) (by decide +kernel))) rfl
theorem cl_6 : CLok (12, 266, 858993459, 0) := mB (mt3 (List.mem_of_getElem? (i := 138) (by decide +kernel))) rfl
theorem cl_7 : CLok (12, 267, 252645135, 0) := mB (mt3 (List.mem_of_getElem? (i := 139) (by decide +kernel))) rfl
def CL : List (Nat × Nat × Nat × Nat) := [(1, 13, 1103515245, 0), (9, 263, 6, 1), (9, 325, 100, 1), (10, 70, 1103515245, 0), (10, 268, 100, 1), (12, 265, 1431655765, 0), (12, 266, 858993459, 0), (12, 267, 252645135, 0)]
theorem CL_c0 : ∀ r ∈ ([(1, 13, 1103515245, 0), (9, 263, 6, 1), (9, 325, 100, 1), (10, 70, 1103515245, 0), (10, 268, 100, 1), (12, 265, 1431655765, 0), (12, 266, 858993459, 0), (12, 267, 252645135, 0)] : List (Nat × Nat × Nat × Nat)), CLok r := List.forall_mem_cons.mpr ⟨cl_0, List.forall_mem_cons.mpr ⟨cl_1, List.forall_mem_cons.mpr ⟨cl_2, List.forall_mem_cons.mpr ⟨cl_3, List.forall_mem_cons.mpr ⟨cl_4, List.forall_mem_cons.mpr ⟨cl_5, List.forall_mem_cons.mpr ⟨cl_6, List.forall_mem_cons.mpr ⟨cl_7, fun _ h => absurd h List.not_mem_nil⟩⟩⟩⟩⟩⟩⟩⟩
theorem CL_ok : ∀ r ∈ CL, CLok r := CL_c0
def MMok (r : Nat × Nat × Nat) : Prop := match r.2.2 with
  | 1000 => Cond.methodLink (cn r.1) r.2.1 Lib.Math.max.name ∈ mBig ∧ Cond.static Lib.Math.max.name ∈ mBig ∧ Cond.initialized "java/lang/Math" ∈ mBig ∧ Cond.code Lib.Math.max.name Lib.Math.max.code 2 (some .int) ∈ mBig
  | 1001 => Cond.methodLink (cn r.1) r.2.1 Lib.Math.min.name ∈ mBig ∧ Cond.static Lib.Math.min.name ∈ mBig ∧ Cond.initialized "java/lang/Math" ∈ mBig ∧ Cond.code Lib.Math.min.name Lib.Math.min.code 2 (some .int) ∈ mBig
  | _ => Cond.methodLink (cn r.1) r.2.1 arraycopyName ∈ mBig ∧ Cond.native arraycopyName ∈ mBig ∧ Cond.static arraycopyName ∈ mBig ∧ Cond.initialized "java/lang/System" ∈ mBig
theorem mm_0 : MMok (0, 31, 1002) := ⟨mB (mt1 (List.mem_of_getElem? (i := 50) (by decide +kernel))) rfl, mB (mt1 (List.mem_of_getElem? (i := 52) (by decide +kernel))) rfl, mB (mt1 (List.mem_of_getElem? (i := 51) (by decide +kernel))) rfl, mB (mt1 (List.mem_of_getElem? (i := 4) (by decide +kernel))) rfl⟩
theorem mm_1 : MMok (0, 259, 1000) := ⟨mB (mt3 (List.mem_of_getElem? (i := 99) (by decide +kernel))) rfl, mB (mt3 (List.mem_of_getElem? (i := 100) (by decide +kernel))) rfl, mB (mt1 (List.mem_of_getElem? (i := 17) (by decide +kernel))) rfl, mB (mt3 (List.mem_of_getElem? (i := 101) rfl)) rfl⟩
theorem mm_2 : MMok (0, 321, 1001) := ⟨mB (mt3 (List.mem_of_getElem? (i := 114) (by decide +kernel))) rfl, mB (mt3 (List.mem_of_getElem? (i := 115) (by decide +kernel))) rfl, mB (mt1 (List.mem_of_getElem? (i := 17) (by decide +kernel))) rfl, mB (mt3 (List.mem_of_getElem? (i := 116) rfl)) rfl⟩
theorem mm_3 : MMok (3, 18, 1002) := ⟨mB (mt2 (List.mem_of_getElem? (i := 227) (by decide +kernel))) rfl, mB (mt1 (List.mem_of_getElem? (i := 52) (by decide +kernel))) rfl, mB (mt1 (List.mem_of_getElem? (i := 51) (by decide +kernel))) rfl, mB (mt1 (List.mem_of_getElem? (i := 4) (by decide +kernel))) rfl⟩
theorem mm_4 : MMok (3, 46, 1000) := ⟨mB (mt3 (List.mem_of_getElem? (i := 203) (by decide +kernel))) rfl, mB (mt3 (List.mem_of_getElem? (i := 100) (by decide +kernel))) rfl, mB (mt1 (List.mem_of_getElem? (i := 17) (by decide +kernel))) rfl, mB (mt3 (List.mem_of_getElem? (i := 101) rfl)) rfl⟩
theorem mm_5 : MMok (6, 15, 1002) := ⟨mB (mt2 (List.mem_of_getElem? (i := 218) (by decide +kernel))) rfl, mB (mt1 (List.mem_of_getElem? (i := 52) (by decide +kernel))) rfl, mB (mt1 (List.mem_of_getElem? (i := 51) (by decide +kernel))) rfl, mB (mt1 (List.mem_of_getElem? (i := 4) (by decide +kernel))) rfl⟩
theorem mm_6 : MMok (8, 56, 1002) := ⟨mB (mt2 (List.mem_of_getElem? (i := 228) (by decide +kernel))) rfl, mB (mt1 (List.mem_of_getElem? (i := 52) (by decide +kernel))) rfl, mB (mt1 (List.mem_of_getElem? (i := 51) (by decide +kernel))) rfl, mB (mt1 (List.mem_of_getElem? (i := 4) (by decide +kernel))) rfl⟩
theorem mm_7 : MMok (10, 159, 1001) := ⟨mB (mt6 (List.mem_of_getElem? (i := 7) (by decide +kernel))) rfl, mB (mt3 (List.mem_of_getElem? (i := 115) (by decide +kernel))) rfl, mB (mt1 (List.mem_of_getElem? (i := 17) (by decide +kernel))) rfl, mB (mt3 (List.mem_of_getElem? (i := 116) rfl)) rfl⟩
theorem mm_8 : MMok (10, 195, 1000) := ⟨mB (mt6 (List.mem_of_getElem? (i := 57) (by decide +kernel))) rfl, mB (mt3 (List.mem_of_getElem? (i := 100) (by decide +kernel))) rfl, mB (mt1 (List.mem_of_getElem? (i := 17) (by decide +kernel))) rfl, mB (mt3 (List.mem_of_getElem? (i := 101) rfl)) rfl⟩
def MM : List (Nat × Nat × Nat) := [(0, 31, 1002), (0, 259, 1000), (0, 321, 1001), (3, 18, 1002), (3, 46, 1000), (6, 15, 1002), (8, 56, 1002), (10, 159, 1001), (10, 195, 1000)]
theorem MM_c0 : ∀ r ∈ ([(0, 31, 1002), (0, 259, 1000), (0, 321, 1001), (3, 18, 1002), (3, 46, 1000), (6, 15, 1002), (8, 56, 1002), (10, 159, 1001), (10, 195, 1000)] : List (Nat × Nat × Nat)), MMok r := List.forall_mem_cons.mpr ⟨mm_0, List.forall_mem_cons.mpr ⟨mm_1, List.forall_mem_cons.mpr ⟨mm_2, List.forall_mem_cons.mpr ⟨mm_3, List.forall_mem_cons.mpr ⟨mm_4, List.forall_mem_cons.mpr ⟨mm_5, List.forall_mem_cons.mpr ⟨mm_6, List.forall_mem_cons.mpr ⟨mm_7, List.forall_mem_cons.mpr ⟨mm_8, fun _ h => absurd h List.not_mem_nil⟩⟩⟩⟩⟩⟩⟩⟩⟩
theorem MM_ok : ∀ r ∈ MM, MMok r := MM_c0
theorem gl_0 : Cond.fieldLink RX9 92 "SharedAir" "SETTING_AT_MOST" "[I" ∈ mBig := mB (mt3 (List.mem_of_getElem? (i := 9) (by decide +kernel))) rfl
end
section
/-! The world that the small machine's store speaks of: all objects by name, at addresses that stay -/
def kAr (k : Nat) : Nat × Nat × Nat := match k with
  | 0 => (10, 1, 1) | 1 => (11, 1, 1) | 2 => (10, 6, 1) | 3 => (10, 6, 1) | 4 => (1, 1, 1) | 5 => (1, 1, 1) | 6 => (10, 6, 4) | 7 => (1, 1, 1) | 8 => (10, 6, 1) | 9 => (1, 1, 1) | 10 => (1, 1, 1)
  | 11 => (10, 1, 1) | 12 => (10, 1, 1) | 13 => (10, 6, 1) | 14 => (10, 6, 4) | 15 => (10, 6, 1) | 16 => (10, 6, 1) | 17 => (10, 6, 1) | 18 => (10, 6, 1) | 19 => (10, 6, 1)
  | 20 => (1, 1, 1) | 21 => (1, 1, 1) | 22 => (1, 1, 1) | 23 => (1, 1, 1) | 24 => (1, 1, 1) | 25 => (1, 1, 1)
  | 30 => (1, 1, 1) | 31 => (1, 1, 1) | 32 => (1, 1, 1) | 33 => (1, 1, 1) | 34 => (1, 1, 1) | 35 => (1, 1, 1) | 36 => (1, 1, 1) | 37 => (1, 1, 1) | 38 => (1, 1, 1) | 39 => (1, 1, 1) | 40 => (1, 1, 1) | 41 => (1, 1, 1) | 45 => (1, 1, 1)
  | _ => (0, 0, 0)
def okO (o : mO) : Prop := o.1 < 46 ∧ o.2.1 < (kAr o.1).1 ∧ o.2.2.1 < (kAr o.1).2.1 ∧ o.2.2.2 < (kAr o.1).2.2
def allO : List mO := (List.range 46).flatMap fun k => (List.range (kAr k).1).flatMap fun a => (List.range (kAr k).2.1).flatMap fun s => (List.range (kAr k).2.2).map fun r => (k, a, s, r)
theorem mem_allO (o : mO) : o ∈ allO ↔ okO o := by
  obtain ⟨k, a, s, r⟩ := o
  simp only [allO, okO, List.mem_flatMap, List.mem_map, List.mem_range]
  constructor
  · rintro ⟨k', hk, a', ha, s', hs, r', hr, e⟩
    cases e
    exact ⟨hk, ha, hs, hr⟩
  · rintro ⟨hk, ha, hs, hr⟩
    exact ⟨k, hk, a, ha, s, hs, r, hr, rfl⟩
def codeO (o : mO) : Nat := ((o.1 * 16 + o.2.1) * 8 + o.2.2.1) * 8 + o.2.2.2
def incL : List Nat → Bool
  | [] => true
  | a :: l => (match l with | [] => true | b :: _ => Nat.blt a b) && incL l
theorem incL_lt : ∀ (l : List Nat) (a : Nat), incL (a :: l) = true → ∀ b ∈ l, a < b
  | [], _, _, b, h => by cases h
  | c :: l, a, h, b, hb => by
    simp only [incL, Bool.and_eq_true] at h
    have h1 : a < c := by have := h.1; simpa using this
    rcases List.mem_cons.mp hb with rfl | hb
    · exact h1
    · exact Nat.lt_trans h1 (incL_lt l c (by simpa [incL] using h.2) b hb)
theorem incL_inj : ∀ (l : List Nat), incL l = true → ∀ (i j a : Nat), l[i]? = some a → l[j]? = some a → i = j
  | [], _, i, j, a, h, _ => by simp at h
  | c :: l, hl, i, j, a, h1, h2 => by
    have hlt := incL_lt l c hl
    have hl' : incL l = true := by simp only [incL, Bool.and_eq_true] at hl; exact hl.2
    cases i with
    | zero =>
      cases j with
      | zero => rfl
      | succ j =>
        simp only [List.getElem?_cons_zero, List.getElem?_cons_succ] at h1 h2
        cases h1
        exact absurd (hlt c (List.mem_of_getElem? h2)) (Nat.lt_irrefl _)
    | succ i =>
      cases j with
      | zero =>
        simp only [List.getElem?_cons_zero, List.getElem?_cons_succ] at h1 h2
        cases h2
        exact absurd (hlt c (List.mem_of_getElem? h1)) (Nat.lt_irrefl _)
      | succ j =>
        simp only [List.getElem?_cons_succ] at h1 h2
        rw [incL_inj l hl' i j a h1 h2]
theorem allO_inc : incL (allO.map codeO) = true := by decide +kernel
theorem allO_inj {i j : Nat} {o : mO} (h1 : allO[i]? = some o) (h2 : allO[j]? = some o) : i = j :=
  incL_inj _ allO_inc i j (codeO o) (by rw [List.getElem?_map, h1]; rfl) (by rw [List.getElem?_map, h2]; rfl)
section WD
variable (cy : Nat → ClassId) (ad : mO → Nat)
def fCell (σ : mS) (o : mO) (f : Nat) : Value := match kFld f o with
  | some o' => .ref (ad o')
  | none => .int (σ.1 o f)
def mCell (σ : mS) (o : mO) : va_E := bif Nat.blt o.1 11 then .inr (o.1, (List.range (fN o.1)).map (fCell ad σ o)) else match (kRow o.1).1 with
  | 4 => .inl (cy 4, (kRow o.1).2, .inr (.inl (σ.2 o)))
  | 5 => .inl (cy o.1, (kRow o.1).2, .inr (.inr (.inr (.inr (fun i => (kEl i o).map ad)))))
  | t => .inl (cy t, (kRow o.1).2, .inl (σ.1 o))
def wsAll (σ : mS) : va_W := allO.map fun o => (ad o, mCell cy ad σ o)
def mTys : List (ClassId × FieldType) := [(cy 1, .int), (cy 2, .byte), (cy 3, .boolean), (cy 4, .long), (cy 12, .object "SharedAir$Station"), (cy 13, .object "SharedAir$Queue"), (cy 20, .object "SharedAir$Air"), (cy 21, .object "SharedAir$Air")]
def mA : Nat → Prop := fun q => ∃ o, okO o ∧ q = ad o
def adInj : Prop := ∀ o o', okO o → okO o' → ad o = ad o' → o = o'
variable {cy ad}
theorem ws_at {o : mO} (h : okO o) : ∃ q0 : Nat, allO[q0]? = some o ∧ ∀ σ, (wsAll cy ad σ)[q0]? = some (ad o, mCell cy ad σ o) := by
  obtain ⟨q0, hq⟩ := List.getElem?_of_mem ((mem_allO o).mpr h)
  exact ⟨q0, hq, fun σ => by unfold wsAll; rw [List.getElem?_map, hq]; rfl⟩
theorem ws_set {σ σ' : mS} {o : mO} {q0 : Nat} {e : va_E} (h : allO[q0]? = some o) (he : e = mCell cy ad σ' o) (hs : ∀ o', o' ≠ o → mCell cy ad σ' o' = mCell cy ad σ o') : (wsAll cy ad σ).set q0 (ad o, e) = wsAll cy ad σ' := by
  subst he
  apply List.ext_getElem?
  intro k
  have hl : q0 < (wsAll cy ad σ).length := by
    unfold wsAll; rw [List.length_map]; exact (List.getElem?_eq_some_iff.mp h).1
  by_cases hk : k = q0
  · subst hk
    rw [List.getElem?_set_self hl]
    unfold wsAll
    rw [List.getElem?_map, h]
    rfl
  · rw [List.getElem?_set_ne (Ne.symm hk)]
    unfold wsAll
    rw [List.getElem?_map, List.getElem?_map]
    cases ho : allO[k]? with
    | none => rfl
    | some o' =>
      have hne : o' ≠ o := fun e => hk (allO_inj (e ▸ ho) h)
      show some (ad o', mCell cy ad σ o') = some (ad o', mCell cy ad σ' o')
      rw [hs o' hne]
theorem ws_D (hinj : adInj ad) (σ : mS) : va_D (mA ad) (wsAll cy ad σ) := by
  have key : ∀ (i : Nat) (p : Nat × va_E), (wsAll cy ad σ)[i]? = some p → ∃ o, allO[i]? = some o ∧ p.1 = ad o ∧ okO o := by
    intro i p hp
    unfold wsAll at hp
    rw [List.getElem?_map] at hp
    cases ho : allO[i]? with
    | none => rw [ho] at hp; cases hp
    | some o =>
      rw [ho] at hp
      cases hp
      exact ⟨o, rfl, rfl, (mem_allO o).mp (List.mem_of_getElem? ho)⟩
  refine ⟨fun i j p q hi hj hpq => ?_, fun k q hk => ?_⟩
  · obtain ⟨o, h1, h2, h3⟩ := key i p hi
    obtain ⟨o', h4, h5, h6⟩ := key j q hj
    have e : o = o' := hinj o o' h3 h6 (by rw [← h2, ← h5, hpq])
    subst e
    exact allO_inj h1 h4
  · obtain ⟨o, h1, h2, h3⟩ := key k q hk
    exact ⟨o, h3, h2⟩
theorem st_ne {σ : mS} {o o' : mO} {i : Nat} {v : Int32} (h : o' ≠ o) : (st σ o i v).1 o' = σ.1 o' := by
  funext j
  simp [st, h]
theorem st_2 {σ : mS} {o : mO} {i : Nat} {v : Int32} : (st σ o i v).2 = σ.2 := rfl
theorem st_self {σ : mS} {o : mO} {i : Nat} {v : Int32} : (st σ o i v).1 o = upd (σ.1 o) i v := by
  funext j
  simp [st, upd]
theorem stL_1 {σ : mS} {o : mO} {i : Nat} {v : Int64} : (stL σ o i v).1 = σ.1 := rfl
theorem stL_ne {σ : mS} {o o' : mO} {i : Nat} {v : Int64} (h : o' ≠ o) : (stL σ o i v).2 o' = σ.2 o' := by
  funext j
  simp [stL, h]
theorem stL_self {σ : mS} {o : mO} {i : Nat} {v : Int64} : (stL σ o i v).2 o = vp_updL (σ.2 o) i v := by
  funext j
  simp [stL, vp_updL]
theorem stC_ne {σ : mS} {o1 o2 o' : mO} {p1 p2 n : Nat} (h : o' ≠ o2) : (stC σ o1 p1 o2 p2 n).1 o' = σ.1 o' := by
  funext j
  simp [stC, h]
theorem stC_self {σ : mS} {o1 o2 : mO} {p1 p2 n : Nat} : (stC σ o1 p1 o2 p2 n).1 o2 = va_cpy (σ.1 o1) (σ.1 o2) p1 p2 n := by
  funext j
  simp [stC, va_cpy]
theorem mCell_ne1 {σ σ' : mS} {o' : mO} (h1 : σ'.1 o' = σ.1 o') (h2 : σ'.2 o' = σ.2 o') : mCell cy ad σ' o' = mCell cy ad σ o' := by
  have hf : fCell ad σ' o' = fCell ad σ o' := by
    funext f
    unfold fCell
    rw [h1]
  unfold mCell
  rw [hf, h1, h2]
end WD
/-! values, locals -/
def toV (ad : mO → Nat) : mV → Value
  | .inl x => .int x
  | .inr (.inl y) => .long y
  | .inr (.inr o) => .ref (ad o)
def okR (o : mO) : Prop := okO o ∨ o = (46, 0, 0, 0) ∨ o = (51, 0, 0, 0)
def okV : mV → Prop
  | .inr (.inr o) => okR o
  | _ => True
def lpairs (ad : mO → Nat) : Nat → List (Option mV) → List (Nat × Value)
  | _, [] => []
  | k, none :: L => lpairs ad (k + 1) L
  | k, some v :: L => (k, toV ad v) :: lpairs ad (k + 1) L
theorem lpairs_mem {ad : mO → Nat} : ∀ (L : List (Option mV)) (k : Nat) (q : Nat × Value), q ∈ lpairs ad k L ↔ ∃ i v, lget L i = some v ∧ q = (k + i, toV ad v)
  | [], k, q => by simp [lpairs, lget]
  | none :: L, k, q => by
    rw [lpairs, lpairs_mem L (k + 1) q]
    constructor
    · rintro ⟨i, v, h, rfl⟩
      exact ⟨i + 1, v, h, by rw [show k + 1 + i = k + (i + 1) from by omega]⟩
    · rintro ⟨i, v, h, rfl⟩
      cases i with
      | zero => cases h
      | succ i => exact ⟨i, v, h, by rw [show k + 1 + i = k + (i + 1) from by omega]⟩
  | some w :: L, k, q => by
    rw [lpairs, List.mem_cons, lpairs_mem L (k + 1) q]
    constructor
    · rintro (rfl | ⟨i, v, h, rfl⟩)
      · exact ⟨0, w, rfl, rfl⟩
      · exact ⟨i + 1, v, h, by rw [show k + 1 + i = k + (i + 1) from by omega]⟩
    · rintro ⟨i, v, h, rfl⟩
      cases i with
      | zero => cases h; exact Or.inl rfl
      | succ i => exact Or.inr ⟨i, v, h, by rw [show k + 1 + i = k + (i + 1) from by omega]⟩
def LR (ad : mO → Nat) (ls : Array Slot) (nL : Nat) (L : List (Option mV)) : Prop := lv_has ls nL (lpairs ad 0 L)
theorem LR.get {ad : mO → Nat} {ls : Array Slot} {nL : Nat} {L : List (Option mV)} (h : LR ad ls nL L) {i : Nat} {v : mV} (hv : lget L i = some v) : ls[i]? = some (.val (toV ad v)) :=
  h.2.2 (i, toV ad v) ((lpairs_mem L 0 _).mpr ⟨i, v, hv, by rw [Nat.zero_add]⟩)
theorem LR.of {ad : mO → Nat} {ls : Array Slot} {nL : Nat} {l : List (Nat × Value)} {L : List (Option mV)} (h : lv_has ls nL l) (hL : ∀ i v, lget L i = some v → (i, toV ad v) ∈ l) : LR ad ls nL L := by
  refine ⟨h.1, h.2.1, fun q hq => ?_⟩
  obtain ⟨i, v, hv, rfl⟩ := (lpairs_mem L 0 q).mp hq
  rw [Nat.zero_add]
  exact h.2.2 _ (hL i v hv)
theorem lget_set : ∀ (L : List (Option mV)) (i j : Nat) (w : Option mV), lget (lset L i w) j = if j = i ∧ i < L.length then w else lget L j
  | [], i, j, w => by simp [lset, lget]
  | v :: L, 0, 0, w => by simp [lset, lget]
  | v :: L, 0, j + 1, w => by simp [lset, lget]
  | v :: L, i + 1, 0, w => by simp [lset, lget]
  | v :: L, i + 1, j + 1, w => by
    simp only [lset, lget, lget_set L i j w, List.length_cons]
    simp
theorem lget_wipe {L : List (Option mV)} {i j : Nat} {v : mV} (h : lget (lwipe L i) j = some v) : lget L j = some v ∧ ¬ (j = i ∧ ∃ y, v = .inr (.inl y)) := by
  unfold lwipe at h
  split at h
  · rename_i y hy
    rw [lget_set] at h
    by_cases hj : j = i ∧ i < L.length
    · rw [if_pos hj] at h; cases h
    · rw [if_neg hj] at h
      refine ⟨h, fun q => ?_⟩
      obtain ⟨rfl, y', rfl⟩ := q
      have : ∀ (L : List (Option mV)) (i : Nat) (v : mV), lget L i = some v → i < L.length := by
        intro L
        induction L with
        | nil => intro i v h; simp [lget] at h
        | cons a L ih =>
          intro i v h
          cases i with
          | zero => simp
          | succ i => simp only [lget] at h; have := ih i v h; simp; omega
      exact hj ⟨rfl, this _ _ _ h⟩
  · rename_i hy
    refine ⟨h, fun q => ?_⟩
    obtain ⟨rfl, y', rfl⟩ := q
    exact hy _ h
theorem lget_put {L : List (Option mV)} {i j : Nat} {v w : mV} (h : lget (lput L i v) j = some w) : (j = i ∧ w = v) ∨ (j ≠ i ∧ lget L j = some w ∧ ¬ (j + 1 = i ∧ ∃ y, w = .inr (.inl y))) := by
  cases i with
  | zero =>
    simp only [lput, lget_set] at h
    by_cases hj : j = 0 ∧ 0 < L.length
    · rw [if_pos hj] at h; exact Or.inl ⟨hj.1, (Option.some.inj h).symm⟩
    · rw [if_neg hj] at h
      refine Or.inr ⟨fun e => ?_, h, fun q => by omega⟩
      subst e
      cases L with
      | nil => simp [lget] at h
      | cons a L => exact hj ⟨rfl, by simp⟩
  | succ k =>
    simp only [lput, lget_set] at h
    by_cases hj : j = k + 1 ∧ k + 1 < (lwipe L k).length
    · rw [if_pos hj] at h; exact Or.inl ⟨hj.1, (Option.some.inj h).symm⟩
    · rw [if_neg hj] at h
      obtain ⟨h1, h2⟩ := lget_wipe h
      refine Or.inr ⟨fun e => ?_, h1, fun q => h2 ⟨by omega, q.2⟩⟩
      subst e
      have : ∀ (L : List (Option mV)) (i : Nat) (v : mV), lget L i = some v → i < L.length := by
        intro L
        induction L with
        | nil => intro i v h; simp [lget] at h
        | cons a L ih =>
          intro i v h
          cases i with
          | zero => simp
          | succ i => simp only [lget] at h; have := ih i v h; simp; omega
      exact hj ⟨rfl, this _ _ _ h⟩
theorem lget_mask : ∀ (M : List Nat) (L : List (Option mV)) (i : Nat) (v : mV), lget (lmask M L) i = some v → lget L i = some v
  | [], L, i, v, h => by cases L <;> simp [lmask, lget] at h
  | 0 :: M, [], i, v, h => by simp [lmask, lget] at h
  | (n + 1) :: M, [], i, v, h => by simp [lmask, lget] at h
  | 0 :: M, a :: L, 0, v, h => by simp [lmask, lget] at h
  | 0 :: M, a :: L, i + 1, v, h => by simp only [lmask, lget] at h ⊢; exact lget_mask M L i v h
  | (n + 1) :: M, a :: L, 0, v, h => by simpa [lmask, lget] using h
  | (n + 1) :: M, a :: L, i + 1, v, h => by simp only [lmask, lget] at h ⊢; exact lget_mask M L i v h
theorem toV_cat (ad : mO → Nat) (v : mV) : (toV ad v).category = 2 ↔ ∃ y, v = .inr (.inl y) := by
  rcases v with x | y | o <;> simp [toV, Value.category]
/-- storing a value of one slot -/
theorem LR.put {ad : mO → Nat} {nL : Nat} {L : List (Option mV)} {i : Nat} {v : mV} {ls' : Array Slot} (h' : lv_has ls' nL ((i, toV ad v) :: (lpairs ad 0 L).filter (fun q => !(q.1 == i) && !(q.1 + 1 == i && q.2.category == 2)))) : LR ad ls' nL (lput L i v) := by
  refine LR.of h' fun j w hw => ?_
  rcases lget_put hw with ⟨rfl, rfl⟩ | ⟨h1, h2, h3⟩
  · exact List.mem_cons_self
  · refine List.mem_cons_of_mem _ (List.mem_filter.mpr ⟨(lpairs_mem L 0 _).mpr ⟨j, w, h2, by rw [Nat.zero_add]⟩, ?_⟩)
    simp only [Bool.and_eq_true, Bool.not_eq_true', beq_eq_false_iff_ne, ne_eq, Bool.and_eq_false_iff]
    refine ⟨h1, ?_⟩
    by_cases q : j + 1 = i
    · right
      intro e
      exact h3 ⟨q, (toV_cat ad w).mp e⟩
    · left; exact q
theorem LR.putL {ad : mO → Nat} {nL : Nat} {L : List (Option mV)} {i : Nat} {v : mV} {ls' : Array Slot} (h' : lv_has ls' nL ((i, toV ad v) :: (lpairs ad 0 L).filter (fun q => !(q.1 == i) && (!(q.1 == i + 1) && !(q.1 + 1 == i && q.2.category == 2))))) : LR ad ls' nL (lputL L i v) := by
  refine LR.of h' fun j w hw => ?_
  unfold lputL at hw
  rw [lget_set] at hw
  have hl : ∀ (L : List (Option mV)) (i : Nat) (v : mV), lget L i = some v → i < L.length := by
    intro L
    induction L with
    | nil => intro i v h; simp [lget] at h
    | cons a L ih =>
      intro i v h
      cases i with
      | zero => simp
      | succ i => simp only [lget] at h; have := ih i v h; simp; omega
  by_cases hj : j = i + 1 ∧ i + 1 < (lput L i v).length
  · rw [if_pos hj] at hw; cases hw
  · rw [if_neg hj] at hw
    have hj1 : j ≠ i + 1 := fun e => hj ⟨e, e ▸ hl _ _ _ hw⟩
    rcases lget_put hw with ⟨rfl, rfl⟩ | ⟨h1, h2, h3⟩
    · exact List.mem_cons_self
    · refine List.mem_cons_of_mem _ (List.mem_filter.mpr ⟨(lpairs_mem L 0 _).mpr ⟨j, w, h2, by rw [Nat.zero_add]⟩, ?_⟩)
      simp only [Bool.and_eq_true, Bool.not_eq_true', beq_eq_false_iff_ne, ne_eq, Bool.and_eq_false_iff]
      refine ⟨h1, hj1, ?_⟩
      by_cases q : j + 1 = i
      · right
        intro e
        exact h3 ⟨q, (toV_cat ad w).mp e⟩
      · left; exact q
end
section
/-! The small machine's answers are the machine's: context, and what a block's answer says of the machine -/
def isNestW : Cond → Bool
  | .fieldLinkNest .. => true
  | .methodLinkNest .. => true
  | _ => false
theorem nest_warm {w : Cond} (hw : isNestW w = true) {s U : State} (hW : s.WarmedH U.vm) (h : va_Nw w s) : va_Nw w U := by
  cases w <;> first | (simp [isNestW] at hw; done) | exact va_Nw.warmF hW h | exact va_Nw.warmM hW h
def mKS (D : va_G) (cy : Nat → ClassId) (U : State) : Prop := va_K D vwCl (mTys cy) U ∧ ∀ w ∈ tables_1, isNestW w = true → va_Nw w U
def mHS (ad : mO → Nat) (xs ys : Nat → Int32) (XL : Nat) (A : Nat → Prop) (U : State) (H : Heap) : Prop := va_X (ad (46, 0, 0, 0)) XL xs U H ∧ va_X (ad (51, 0, 0, 0)) 12 ys U H ∧ va_Z "SharedAir" "SETTING_AT_MOST" "[I" (.ref (ad (51, 0, 0, 0))) A U H
def mFix (ad : mO → Nat) (XL : Nat) (A : Nat → Prop) : Prop := adInj ad ∧ ¬ A (ad (46, 0, 0, 0)) ∧ ¬ A (ad (51, 0, 0, 0)) ∧ XL < 2 ^ 31 ∧ ∀ q, mA ad q → A q
def mRel (D : va_G) (cy : Nat → ClassId) (ad : mO → Nat) (xs ys : Nat → Int32) (XL : Nat) (σ : mS) (H : Heap) : Prop := va_P D vwCl (wsAll cy ad σ) H ∧ σ.1 (46, 0, 0, 0) = xs ∧ σ.1 (46, 0, 0, 1) 0 = nI XL ∧ σ.1 (51, 0, 0, 0) = ys
def mCtx (D : va_G) (cy : Nat → ClassId) (ad : mO → Nat) (xs ys : Nat → Int32) (XL : Nat) (A : Nat → Prop) (j : Nat) (p : Program) (s : State) (m : MethodId) (args : Array Value) (c : Code) : Prop :=
  p.tables.exec = Jvm.exec ∧ c.code = (mrow j).2.1 ∧ c.maxLocals = (mrow j).2.2.1 ∧ s.vm.findClass (cn (mrow j).2.2.2.2.1) = some m.cls ∧ (∀ w ∈ mBig, w.before args s = true) ∧ mKS D cy s ∧ mHS ad xs ys XL A s s.heap
def okL (L : List (Option mV)) : Prop := ∀ i v, lget L i = some v → okV v
def okS (S : List mV) : Prop := ∀ v ∈ S, okV v
def mEnd (j : Nat) (pc : Nat) (rv : Option (Option mV)) (S : List Value) : Prop := match rv with
  | none => ∃ idx, decode (mrow j).2.1 pc = .ok (.new idx, 3) ∧ S = []
  | some none => decode (mrow j).2.1 pc = .ok (.return_, 1) ∧ S = [] ∧ (mrow j).2.2.2.1 = none
  | some (some (.inl x)) => decode (mrow j).2.1 pc = .ok (.ireturn, 1) ∧ S = [.int x] ∧ ((mrow j).2.2.2.1 = some .int ∨ ((mrow j).2.2.2.1 = some .boolean ∧ (x = 0 ∨ x = 1)))
  | some (some (.inr (.inl y))) => decode (mrow j).2.1 pc = .ok (.lreturn, 1) ∧ S = [.long y] ∧ (mrow j).2.2.2.1 = some .long
  | _ => False
def SndB (l : Launch) (D : va_G) (cy : Nat → ClassId) (ad : mO → Nat) (xs ys : Nat → Int32) (XL : Nat) (A : Nat → Prop) (b : Nat) (q : mQ) (r : mR) : Prop :=
  ∀ (p : Program) (e : Env) (R : Room) (s : State) (m : MethodId) (args : Array Value) (below : List Frame) (meth : Method) (c : Code), mCtx D cy ad xs ys XL A q.1 p s m args c → (mrow q.1).2.2.2.2.2.1 ≤ R.frames → (mrow q.1).2.2.2.2.2.2 ≤ R.locals →
  ∀ (Q : State → Prop) (H : Heap) (locs : List Loc) (cells slots : Nat) (ls : Array Slot), cells + b ≤ R.cells → slots + 6 * b ≤ R.slots → mRel D cy ad xs ys XL q.2.2.2.2 H → va_S A s.heap H locs → LR ad ls (mrow q.1).2.2.1 q.2.2.1 → okL q.2.2.1 → okS q.2.2.2.1 →
  (∀ (H' : Heap) (locs' : List Loc) (cells' slots' : Nat) (ls' : Array Slot) (pc' : Nat) (S' : List Value), cells' ≤ cells + b → slots' ≤ slots + 6 * b → mRel D cy ad xs ys XL r.2 H' → va_S A s.heap H' locs' → ls'.size = (mrow q.1).2.2.1 → mEnd q.1 pc' r.1 S' → W p l e R s m args below meth c H' locs' cells' slots' Q (F0 m pc' ls' S')) →
  W p l e R s m args below meth c H locs cells slots Q (F0 m q.2.1 ls (q.2.2.2.1.map (toV ad)))
theorem SndB.go {l : Launch} {D : va_G} {cy : Nat → ClassId} {ad : mO → Nat} {xs ys : Nat → Int32} {XL : Nat} {A : Nat → Prop} {b : Nat} {j pc : Nat} {L : List (Option mV)} {S : List mV} {σ : mS} {r : mR} (h : SndB l D cy ad xs ys XL A b (j, pc, L, S, σ) r)
  {p : Program} {e : Env} {R : Room} {s : State} {m : MethodId} {args : Array Value} {below : List Frame} {meth : Method} {c : Code} (C : mCtx D cy ad xs ys XL A j p s m args c) (hfr : (mrow j).2.2.2.2.2.1 ≤ R.frames) (hlo : (mrow j).2.2.2.2.2.2 ≤ R.locals)
  {Q : State → Prop} {H : Heap} {locs : List Loc} {cells slots : Nat} {ls : Array Slot} (hc : cells + b ≤ R.cells) (hs : slots + 6 * b ≤ R.slots) (hRel : mRel D cy ad xs ys XL σ H) (hSS : va_S A s.heap H locs) (hLR : LR ad ls (mrow j).2.2.1 L) (hokL : okL L) (hokS : okS S)
  (hfin : ∀ (H' : Heap) (locs' : List Loc) (cells' slots' : Nat) (ls' : Array Slot) (pc' : Nat) (S' : List Value), cells' ≤ cells + b → slots' ≤ slots + 6 * b → mRel D cy ad xs ys XL r.2 H' → va_S A s.heap H' locs' → ls'.size = (mrow j).2.2.1 → mEnd j pc' r.1 S' → W p l e R s m args below meth c H' locs' cells' slots' Q (F0 m pc' ls' S')) :
  W p l e R s m args below meth c H locs cells slots Q (F0 m pc ls (S.map (toV ad))) := h p e R s m args below meth c C hfr hlo Q H locs cells slots ls hc hs hRel hSS hLR hokL hokS hfin
def eLen (i : Jvm.ClassFile.Instr) : Nat := match i with
  | .iload _ | .lload _ | .aload _ | .istore _ | .lstore _ | .astore _ | .bipush _ | .ldc _ => 2
  | .sipush _ | .getfield _ | .putfield _ | .getstatic _ | .invokevirtual _ | .invokestatic _ | .invokespecial _ | .goto _ | .if_icmp _ _ | .ifCond _ _ | .iinc _ _ | .ldc_w _ | .ldc2_w _ | .new _ => 3
  | _ => 1
def eTgt (pc : Nat) (off : Int) (info : List Nat) : Bool := match info with
  | t :: _ :: _ => decide ((pc : Int) + off = (t : Int))
  | _ => false
def retB (ret : Nat) (t : Option FieldType) : Bool := match ret, t with
  | 0, none => true
  | 1, some .int => true
  | 1, some .boolean => true
  | 2, some .long => true
  | _, _ => false
def eCall (own i k fr lo : Nat) (info : List Nat) : Bool := match info with
  | [n, jc, ml, ret] => PLs.contains jc && ML.contains (own, i, jc, k, n) && Nat.beq ml (mrow jc).2.2.1 && retB ret (mrow jc).2.2.2.1 && Nat.ble ((mrow jc).2.2.2.2.2.1 + 1) fr && Nat.ble (8 + (ml + 11) + (mrow jc).2.2.2.2.2.2) lo
  | _ => false
def eOk (j : Nat) (e : mE) : Bool := match e.2.1 with
  | .iconst c => (match e.2.2.2.1 with | n :: _ => decide (Int32.ofInt c = nI n) | [] => true)
  | .bipush c => (match e.2.2.2.1 with | n :: _ => decide ((Int8.ofInt c).toInt32 = nI n) | [] => true)
  | .sipush c => (match e.2.2.2.1 with | n :: _ => decide ((Int16.ofInt c).toInt32 = nI n) | [] => true)
  | .ldc i => (match e.2.2.2.1 with | n :: _ => CL.contains ((mrow j).2.2.2.2.1, i, n, 0) | [] => false)
  | .ldc_w i => (match e.2.2.2.1 with | n :: _ => CL.contains ((mrow j).2.2.2.2.1, i, n, 0) | [] => false)
  | .ldc2_w i => (match e.2.2.2.1 with | n :: _ => CL.contains ((mrow j).2.2.2.2.1, i, n, 1) | [] => false)
  | .lconst c => (match e.2.2.2.1 with | n :: _ => decide (Int64.ofNat (c : Nat) = lN n) | [] => false)
  | .istore_n k => Nat.blt k.val (mrow j).2.2.1
  | .astore_n k => Nat.blt k.val (mrow j).2.2.1
  | .lstore_n k => Nat.blt (k.val + 1) (mrow j).2.2.1
  | .istore k => Nat.blt k (mrow j).2.2.1
  | .astore k => Nat.blt k (mrow j).2.2.1
  | .lstore k => Nat.blt (k + 1) (mrow j).2.2.1
  | .iinc k _ => Nat.blt k (mrow j).2.2.1
  | .goto off => eTgt e.1 off e.2.2.2.1
  | .if_icmp _ off => eTgt e.1 off e.2.2.2.1
  | .ifCond _ off => eTgt e.1 off e.2.2.2.1
  | .tableswitch d lo hi offs => decide (lo = 0) && decide (hi + 1 = (offs.size : Int)) && decide (e.2.2.2.1.map Int.ofNat = ((e.1 : Int) + d) :: offs.toList.map (fun o => (e.1 : Int) + o)) && Nat.blt offs.size 1000
  | .getfield i => (match e.2.2.2.1 with | [ci, f] => FL.contains ((mrow j).2.2.2.2.1, i, ci, f) | _ => false)
  | .putfield i => (match e.2.2.2.1 with
    | [ci, f] => FL.contains ((mrow j).2.2.2.2.1, i, ci, f) && !(fT ci f).2.2.2 && decide (fY ci f = .int) && decide (kFld f (ci, 0, 0, 0) = none)
    | [ci, f, _] => FL.contains ((mrow j).2.2.2.2.1, i, ci, f) && !(fT ci f).2.2.2 && decide (fY ci f = .boolean) && decide (kFld f (ci, 0, 0, 0) = none)
    | _ => false)
  | .getstatic i => (match e.2.2.2.1 with | [k] => Nat.beq (mrow j).2.2.2.2.1 9 && Nat.beq i 92 && Nat.beq k 51 | _ => false)
  | .invokevirtual i => (match e.2.2.2.1 with
    | n :: k :: jc :: info => Nat.blt k 11 && Nat.beq k (mrow jc).2.2.2.2.1 && eCall (mrow j).2.2.2.2.1 i 0 (mrow j).2.2.2.2.2.1 (mrow j).2.2.2.2.2.2 (n :: jc :: info)
    | _ => false)
  | .invokestatic i => (match e.2.2.2.1 with
    | [k] => MM.contains ((mrow j).2.2.2.2.1, i, k) && Nat.ble 1 (mrow j).2.2.2.2.2.1 && Nat.ble 21 (mrow j).2.2.2.2.2.2 && Nat.ble (8 + (nativeFrameWords "java/lang/System" "arraycopy" 5 + 11)) (mrow j).2.2.2.2.2.2
    | info => eCall (mrow j).2.2.2.2.1 i 1 (mrow j).2.2.2.2.2.1 (mrow j).2.2.2.2.2.2 info)
  | .ireturn => (match e.2.2.2.1 with
    | [] => decide ((mrow j).2.2.2.1 = some .int)
    | _ => decide ((mrow j).2.2.2.1 = some .boolean))
  | .lreturn => decide ((mrow j).2.2.2.1 = some .long)
  | .return_ => decide ((mrow j).2.2.2.1 = none)
  | _ => true
def eFall (i : Jvm.ClassFile.Instr) : Bool := match i with
  | .goto _ | .tableswitch .. | .ireturn | .lreturn | .return_ | .new _ | .athrow => false
  | _ => true
def eNext (e : mE) : List mE → Bool
  | [] => true
  | e' :: _ => !(eFall e.2.1) || Nat.beq e'.1 (e.1 + e.2.2.1)
def eLn (e : mE) : Bool := match e.2.1 with
  | .tableswitch .. => true
  | i => Nat.beq e.2.2.1 (eLen i)
def cOk (j : Nat) : List mE → Bool
  | [] => true
  | e :: rest => decide (decode (mrow j).2.1 e.1 = .ok (e.2.1, e.2.2.1)) && eLn e && eOk j e && eNext e rest && cOk j rest
theorem cOk_inv {j : Nat} {e : mE} {rest : List mE} (h : cOk j (e :: rest) = true) : decode (mrow j).2.1 e.1 = .ok (e.2.1, e.2.2.1) ∧ eLn e = true ∧ eOk j e = true ∧ eNext e rest = true ∧ cOk j rest = true := by
  unfold cOk at h
  obtain ⟨h, h5⟩ := (Bool.and_eq_true _ _).mp h
  obtain ⟨h, h4⟩ := (Bool.and_eq_true _ _).mp h
  obtain ⟨h, h3⟩ := (Bool.and_eq_true _ _).mp h
  obtain ⟨h1, h2⟩ := (Bool.and_eq_true _ _).mp h
  exact ⟨of_decide_eq_true h1, h2, h3, h4, h5⟩
theorem cOk_drop {j : Nat} : ∀ (c : List mE) (t : Nat), cOk j c = true → cOk j (dropTo c t) = true
  | [], _, _ => rfl
  | e :: r, t, h => by
    unfold dropTo
    cases Nat.beq e.1 t
    · exact cOk_drop r t (cOk_inv h).2.2.2.2
    · exact h
theorem dropTo_head : ∀ (c : List mE) (t : Nat) (e : mE) (r : List mE), dropTo c t = e :: r → e.1 = t
  | [], _, _, _, h => by cases h
  | e' :: r', t, e, r, h => by
    unfold dropTo at h
    cases hb : Nat.beq e'.1 t
    · rw [hb] at h; exact dropTo_head r' t e r h
    · rw [hb] at h
      cases h
      exact Nat.eq_of_beq_eq_true hb
section SN
variable {l : Launch} {D : va_G} {cy : Nat → ClassId} {ad : mO → Nat} {xs ys : Nat → Int32} {XL : Nat} {A : Nat → Prop} {b : Nat} {j : Nat}
theorem SndB.mask {pc : Nat} {M : List Nat} {L : List (Option mV)} {S : List mV} {σ : mS} {r : mR} (h : SndB l D cy ad xs ys XL A b (j, pc, lmask M L, S, σ) r) : SndB l D cy ad xs ys XL A b (j, pc, L, S, σ) r := by
  intro p e R s m args below meth c C hfr hlo Q H locs cells slots ls hc hs hRel hSS hLR hokL hokS hfin
  exact h.go C hfr hlo hc hs hRel hSS (LR.of hLR fun i v hv => (lpairs_mem L 0 _).mpr ⟨i, v, lget_mask M L i v hv, by rw [Nat.zero_add]⟩) (fun i v hv => hokL i v (lget_mask M L i v hv)) hokS hfin
def KOk (l : Launch) (D : va_G) (cy : Nat → ClassId) (ad : mO → Nat) (xs ys : Nat → Int32) (XL : Nat) (A : Nat → Prop) (b : Nat) (j : Nat) (K : mK) : Prop := ∀ (rest : List mE) (L : List (Option mV)) (S : List mV) (σ : mS) (r : mR), cOk j rest = true → K rest L S σ = some r → ∃ (e : mE) (rest' : List mE), rest = e :: rest' ∧ SndB l D cy ad xs ys XL A b (j, e.1, L, S, σ) r
theorem KOk.nx {K : mK} (hK : KOk l D cy ad xs ys XL A b j K) {e : mE} {rest : List mE} (hc : cOk j (e :: rest) = true) (hf : eFall e.2.1 = true) {L : List (Option mV)} {S : List mV} {σ : mS} {r : mR} (h : K rest L S σ = some r) : SndB l D cy ad xs ys XL A b (j, e.1 + e.2.2.1, L, S, σ) r := by
  obtain ⟨-, -, -, h4, h5⟩ := cOk_inv hc
  obtain ⟨e', rest', rfl, hS⟩ := hK rest L S σ r h5 h
  unfold eNext at h4
  rw [hf] at h4
  have : e'.1 = e.1 + e.2.2.1 := Nat.eq_of_beq_eq_true (by simpa using h4)
  rw [← this]
  exact hS
theorem KOk.jp {Rf : mQ → Option mR} {K : mK} (hR : ∀ q r, Rf q = some r → q.1 = j → SndB l D cy ad xs ys XL A b q r) (hK : KOk l D cy ad xs ys XL A b j K) {pc : Nat} {off : Int} {info : List Nat} {rest : List mE} (hc : cOk j rest = true) (ht : eTgt pc off info = true) {L : List (Option mV)} {S : List mV} {σ : mS} {r : mR} (h : mjump Rf j K rest info L S σ = some r) : ∃ t : Nat, (pc : Int) + off = (t : Int) ∧ SndB l D cy ad xs ys XL A b (j, t, L, S, σ) r := by
  unfold eTgt at ht
  split at ht
  · rename_i t x M
    refine ⟨t, of_decide_eq_true ht, ?_⟩
    unfold mjump at h
    split at h
    · rename_i t' M' heq
      cases heq
      obtain ⟨e', rest', he, hS⟩ := hK _ L S σ r (cOk_drop rest _ hc) h
      have := dropTo_head _ _ _ _ he
      rw [← this]
      exact hS
    · rename_i t' x' M' _ heq
      cases heq
      exact (hR _ _ h rfl).mask
    · cases h
  · cases ht
theorem KOk.dr {K : mK} (hK : KOk l D cy ad xs ys XL A b j K) {rest : List mE} {t : Nat} (hc : cOk j rest = true) {L : List (Option mV)} {S : List mV} {σ : mS} {r : mR} (h : K (dropTo rest t) L S σ = some r) : SndB l D cy ad xs ys XL A b (j, t, L, S, σ) r := by
  obtain ⟨e', rest', he, hS⟩ := hK _ L S σ r (cOk_drop rest _ hc) h
  have := dropTo_head _ _ _ _ he
  rw [← this]
  exact hS
theorem snd_pure {pc pc' : Nat} {L : List (Option mV)} {S S' : List mV} {σ : mS} {r : mR}
    (hrow : ∀ {p : Program} {e : Env} {R : Room} {s : State} {m : MethodId} {args : Array Value} {below : List Frame} {meth : Method} {c : Code} {H : Heap} {locs : List Loc} {cells slots : Nat} {Q : State → Prop} {ls : Array Slot}, p.tables.exec = Jvm.exec → c.code = (mrow j).2.1 → s.vm.findClass (cn (mrow j).2.2.2.2.1) = some m.cls → (∀ w ∈ mBig, w.before args s = true) →
      W p l e R s m args below meth c H locs cells slots Q (F0 m pc' ls (S'.map (toV ad))) → W p l e R s m args below meth c H locs cells slots Q (F0 m pc ls (S.map (toV ad))))
    (hn : SndB l D cy ad xs ys XL A b (j, pc', L, S', σ) r) (hok : okS S → okS S') : SndB l D cy ad xs ys XL A b (j, pc, L, S, σ) r := by
  intro p e R s m args below meth c C hfr hlo Q H locs cells slots ls hc hs hRel hSS hLR hokL hokS hfin
  obtain ⟨hx, hb, hml, hown, hts, hKS, hHS⟩ := id C
  exact hrow hx hb hown hts (hn.go C hfr hlo hc hs hRel hSS hLR hokL (hok hokS) hfin)
theorem snd_load {pc pc' i : Nat} {L : List (Option mV)} {S : List mV} {v : mV} {σ : mS} {r : mR} (hv : lget L i = some v)
    (hrow : ∀ {p : Program} {e : Env} {R : Room} {s : State} {m : MethodId} {args : Array Value} {below : List Frame} {meth : Method} {c : Code} {H : Heap} {locs : List Loc} {cells slots : Nat} {Q : State → Prop} {ls : Array Slot}, p.tables.exec = Jvm.exec → c.code = (mrow j).2.1 → ls[i]? = some (.val (toV ad v)) →
      W p l e R s m args below meth c H locs cells slots Q (F0 m pc' ls (toV ad v :: S.map (toV ad))) → W p l e R s m args below meth c H locs cells slots Q (F0 m pc ls (S.map (toV ad))))
    (hn : SndB l D cy ad xs ys XL A b (j, pc', L, v :: S, σ) r) : SndB l D cy ad xs ys XL A b (j, pc, L, S, σ) r := by
  intro p e R s m args below meth c C hfr hlo Q H locs cells slots ls hc hs hRel hSS hLR hokL hokS hfin
  obtain ⟨hx, hb, hml, hown, hts, hKS, hHS⟩ := id C
  exact hrow hx hb (hLR.get hv) (hn.go C hfr hlo hc hs hRel hSS hLR hokL (fun w hw => by
    rcases List.mem_cons.mp hw with rfl | hw
    · exact hokL i _ hv
    · exact hokS w hw) hfin)
theorem snd_store {pc pc' : Nat} {L L' : List (Option mV)} {S S' : List mV} {σ : mS} {r : mR}
    (hrow : ∀ {p : Program} {e : Env} {R : Room} {s : State} {m : MethodId} {args : Array Value} {below : List Frame} {meth : Method} {c : Code} {H : Heap} {locs : List Loc} {cells slots : Nat} {Q : State → Prop} {ls : Array Slot}, p.tables.exec = Jvm.exec → c.code = (mrow j).2.1 → LR ad ls (mrow j).2.2.1 L →
      (∀ ls' : Array Slot, LR ad ls' (mrow j).2.2.1 L' → W p l e R s m args below meth c H locs cells slots Q (F0 m pc' ls' (S'.map (toV ad)))) → W p l e R s m args below meth c H locs cells slots Q (F0 m pc ls (S.map (toV ad))))
    (hn : SndB l D cy ad xs ys XL A b (j, pc', L', S', σ) r) (hokl : okL L → okS S → okL L') (hok : okS S → okS S') : SndB l D cy ad xs ys XL A b (j, pc, L, S, σ) r := by
  intro p e R s m args below meth c C hfr hlo Q H locs cells slots ls hc hs hRel hSS hLR hokL hokS hfin
  obtain ⟨hx, hb, hml, hown, hts, hKS, hHS⟩ := id C
  exact hrow hx hb hLR (fun ls' hLR' => hn.go C hfr hlo hc hs hRel hSS hLR' (hokl hokL hokS) (hok hokS) hfin)
theorem okS.tl {v : mV} {S : List mV} (h : okS (v :: S)) : okS S := fun w hw => h w (List.mem_cons_of_mem _ hw)
theorem okS.hd {v : mV} {S : List mV} (h : okS (v :: S)) : okV v := h v List.mem_cons_self
theorem okS.cs {v : mV} {S : List mV} (hv : okV v) (h : okS S) : okS (v :: S) := fun w hw => by
  rcases List.mem_cons.mp hw with rfl | hw
  · exact hv
  · exact h w hw
theorem okL.put {L : List (Option mV)} {i : Nat} {v : mV} (h : okL L) (hv : okV v) : okL (lput L i v) := fun k w hw => by
  rcases lget_put hw with ⟨-, rfl⟩ | ⟨-, h2, -⟩
  · exact hv
  · exact h k w h2
theorem okL.putL {L : List (Option mV)} {i : Nat} {v : mV} (h : okL L) (hv : okV v) : okL (lputL L i v) := fun k w hw => by
  unfold lputL at hw
  rw [lget_set] at hw
  by_cases hj : k = i + 1 ∧ i + 1 < (lput L i v).length
  · rw [if_pos hj] at hw; cases hw
  · rw [if_neg hj] at hw; exact h.put hv k w hw
theorem nI_ofInt {c : Int} {n : Nat} (h : decide (Int32.ofInt c = nI n) = true) : Int32.ofInt c = nI n := of_decide_eq_true h
end SN
end
section
/-! One instruction of the small machine is one of the machine: loads, constants, numbers, branches -/
section SA
variable {l : Launch} {D : va_G} {cy : Nat → ClassId} {ad : mO → Nat} {xs ys : Nat → Int32} {XL : Nat} {A : Nat → Prop} {b : Nat} {j : Nat}
theorem LR.set {ls : Array Slot} {nL : Nat} {L : List (Option mV)} {i : Nat} {x : Int32} {v : mV} {ls' : Array Slot} (h : LR ad ls nL L) (hx : lget L i = some (.inl x)) (h' : lv_has ls' nL ((i, toV ad v) :: (lpairs ad 0 L).filter (fun q => !(q.1 == i) && !(q.1 + 1 == i && q.2.category == 2)))) : LR ad ls' nL (lset L i (some v)) := by
  refine LR.of h' fun k w hw => ?_
  rw [lget_set] at hw
  by_cases hk : k = i ∧ i < L.length
  · rw [if_pos hk] at hw
    cases hw
    rw [hk.1]
    exact List.mem_cons_self
  · rw [if_neg hk] at hw
    have hl : ∀ (L : List (Option mV)) (i : Nat) (v : mV), lget L i = some v → i < L.length := by
      intro L
      induction L with
      | nil => intro i v h; simp [lget] at h
      | cons a L ih =>
        intro i v h
        cases i with
        | zero => simp
        | succ i => simp only [lget] at h; have := ih i v h; simp; omega
    have hne : k ≠ i := fun e => hk ⟨e, hl _ _ _ hx⟩
    refine List.mem_cons_of_mem _ (List.mem_filter.mpr ⟨(lpairs_mem L 0 _).mpr ⟨k, w, hw, by rw [Nat.zero_add]⟩, ?_⟩)
    simp only [Bool.and_eq_true, Bool.not_eq_true', beq_eq_false_iff_ne, ne_eq, Bool.and_eq_false_iff]
    refine ⟨hne, ?_⟩
    by_cases q : k + 1 = i
    · right
      intro e
      have h1 := h.2.1.1 k _ (h.get hw) e
      rw [q, h.get hx] at h1
      cases h1
    · left; exact q
theorem eTgt_ex {pc : Nat} {off : Int} {info : List Nat} (h : eTgt pc off info = true) : ∃ t : Nat, (pc : Int) + off = (t : Int) := by
  unfold eTgt at h
  split at h
  · exact ⟨_, of_decide_eq_true h⟩
  · cases h
theorem CL_in {a b c d : Nat} (h : CL.contains (a, b, c, d) = true) : CLok (a, b, c, d) := CL_ok _ (List.contains_iff_mem.mp h)

theorem snd_switch {K : mK} (hK : KOk l D cy ad xs ys XL A b j K) {rest : List mE} (hcr : cOk j rest = true) {pc len : Nat} {d lo hi : Int} {offs : Array Int} {d' : Nat} {ts : List Nat} (hd : decode (mrow j).2.1 pc = .ok (.tableswitch d lo hi offs, len)) (hsz : offs.size < 1000) (e1 : lo = 0) (e2 : hi + 1 = (offs.size : Int)) (e3 : Int.ofNat d' = (pc : Int) + d) (e4 : ts.map Int.ofNat = offs.toList.map (fun o => (pc : Int) + o)) {x : Int32} {L : List (Option mV)} {S : List mV} {σ : mS} {r : mR} (h : mswitch x (fun t => K (dropTo rest t) L S σ) d' 0 ts = some r) : SndB l D cy ad xs ys XL A b (j, pc, L, .inl x :: S, σ) r := by
  have hlen : ts.length = offs.size := by
    have := congrArg List.length e4
    simpa using this
  have key : ∀ (us : List Nat) (k : Nat), (∀ n : Nat, us[n]? = ts[k + n]?) → k + us.length = ts.length → mswitch x (fun t => K (dropTo rest t) L S σ) d' k us = some r → (∃ n t : Nat, ts[n]? = some t ∧ k ≤ n ∧ x = nI n ∧ SndB l D cy ad xs ys XL A b (j, t, L, S, σ) r) ∨ ((∀ n : Nat, k ≤ n → n < ts.length → x ≠ nI n) ∧ SndB l D cy ad xs ys XL A b (j, d', L, S, σ) r) := by
    intro us
    induction us with
    | nil =>
      intro k hk hl h
      refine Or.inr ⟨fun n h1 h2 => ?_, hK.dr hcr h⟩
      simp at hl; omega
    | cons t us ih =>
      intro k hk hl h
      unfold mswitch at h
      have h0 : ts[k]? = some t := by have := hk 0; simpa using this.symm
      split at h
      · rename_i q
        exact Or.inl ⟨k, t, h0, Nat.le_refl _, q, hK.dr hcr h⟩
      · rename_i q
        rcases ih (k + 1) (fun n => by have := hk (n + 1); rw [List.getElem?_cons_succ] at this; rw [this]; congr 1; omega) (by simp at hl; omega) h with ⟨n, t', a1, a2, a3, a4⟩ | ⟨a1, a2⟩
        · exact Or.inl ⟨n, t', a1, by omega, a3, a4⟩
        · refine Or.inr ⟨fun n h1 h2 => ?_, a2⟩
          by_cases hn : n = k
          · rw [hn]; exact q
          · exact a1 n (by omega) h2
  rcases key ts 0 (fun n => by rw [Nat.zero_add]) (by omega) h with ⟨n, t, a1, -, a3, a4⟩ | ⟨a1, a2⟩
  · have hn : n < ts.length := (List.getElem?_eq_some_iff.mp a1).1
    have ho : ∃ off, offs[n]? = some off ∧ (pc : Int) + off = (t : Int) := by
      have h5 : (ts.map Int.ofNat)[n]? = some (t : Int) := by rw [List.getElem?_map, a1]; rfl
      rw [e4, List.getElem?_map, Array.getElem?_toList] at h5
      cases hq : offs[n]? with
      | none => rw [hq] at h5; cases h5
      | some off => rw [hq] at h5; exact ⟨off, rfl, Option.some.inj h5⟩
    obtain ⟨off, ho, ht⟩ := ho
    have hx : x.toInt = (n : Int) := by rw [a3, nI_toInt (by omega)]
    refine snd_pure (fun hx' hb _ _ k' => lv_tableIn (tgt := t) hx' hb hd (by rw [e1, hx]; omega) (by rw [hx]; omega) (by rw [e1, hx]; simpa using ho) ht k') a4 okS.tl
  · by_cases hin : x.toInt < lo ∨ hi < x.toInt
    · exact snd_pure (fun hx' hb _ _ k' => lv_tableOut (tgt := d') hx' hb hd hin e3.symm k') a2 okS.tl
    · exfalso
      have hx0 : (0 : Int) ≤ x.toInt := by omega
      have hx1 : x.toInt < (offs.size : Int) := by omega
      refine a1 x.toInt.toNat (Nat.zero_le _) (by omega) ?_
      apply Int32.toInt_inj.mp
      have hx2 : x.toInt < 2 ^ 31 := by have := Int32.toInt_lt x; omega
      rw [nI_toInt (by omega)]
      omega

set_option maxHeartbeats 4000000 in
theorem snd_A {Rf : mQ → Option mR} {K : mK} (hR : ∀ q r, Rf q = some r → q.1 = j → SndB l D cy ad xs ys XL A b q r) (hK : KOk l D cy ad xs ys XL A b j K) {e : mE} {rest : List mE} (hc : cOk j (e :: rest) = true) {L : List (Option mV)} {S : List mV} {σ : mS} {r : mR} (h : mstepA Rf j K e rest L S σ = some r) : SndB l D cy ad xs ys XL A b (j, e.1, L, S, σ) r := by
  obtain ⟨hd, hl, ho, -, hcr⟩ := cOk_inv hc
  obtain ⟨pc, i, len, info, cut⟩ := e
  cases i
  case iload_n k =>
    have hlen : len = 1 := Nat.eq_of_beq_eq_true hl
    subst hlen
    change mload1 K rest L S σ k.val = some r at h
    unfold mload1 at h
    split at h
    · rename_i x hx
      exact snd_load hx (fun hx hb hl k' => lv_iload_n hx hb hd rfl hl k') (hK.nx hc rfl h)
    · cases h
  case iload k =>
    have hlen : len = 2 := Nat.eq_of_beq_eq_true hl
    subst hlen
    change mload1 K rest L S σ k = some r at h
    unfold mload1 at h
    split at h
    · rename_i x hx
      exact snd_load hx (fun hx hb hl k' => lv_iload hx hb hd hl k') (hK.nx hc rfl h)
    · cases h
  case lload_n k =>
    have hlen : len = 1 := Nat.eq_of_beq_eq_true hl
    subst hlen
    change mload2 K rest L S σ k.val = some r at h
    unfold mload2 at h
    split at h
    · rename_i x hx
      exact snd_load hx (fun hx hb hl k' => lv_lload_n hx hb hd rfl hl k') (hK.nx hc rfl h)
    · cases h
  case lload k =>
    have hlen : len = 2 := Nat.eq_of_beq_eq_true hl
    subst hlen
    change mload2 K rest L S σ k = some r at h
    unfold mload2 at h
    split at h
    · rename_i x hx
      exact snd_load hx (fun hx hb hl k' => lv_lload hx hb hd hl k') (hK.nx hc rfl h)
    · cases h
  case aload_n k =>
    have hlen : len = 1 := Nat.eq_of_beq_eq_true hl
    subst hlen
    change mload3 K rest L S σ k.val = some r at h
    unfold mload3 at h
    split at h
    · rename_i x hx
      exact snd_load hx (fun hx hb hl k' => lv_aload_n hx hb hd rfl hl k') (hK.nx hc rfl h)
    · cases h
  case aload k =>
    have hlen : len = 2 := Nat.eq_of_beq_eq_true hl
    subst hlen
    change mload3 K rest L S σ k = some r at h
    unfold mload3 at h
    split at h
    · rename_i x hx
      exact snd_load hx (fun hx hb hl k' => lv_aload hx hb hd hl k') (hK.nx hc rfl h)
    · cases h
  case istore_n k =>
    have hlen : len = 1 := Nat.eq_of_beq_eq_true hl
    subst hlen
    change mstore1 K rest L S σ k.val = some r at h
    unfold mstore1 at h
    split at h
    · rename_i x S
      exact snd_store (fun hx hb hLR k' => lv_istore_n hx hb hd rfl hLR (Nat.le_of_ble_eq_true ho) rfl (fun ls' h' => k' ls' (LR.put (v := .inl x) h'))) (hK.nx hc rfl h) (fun h1 h2 => h1.put trivial) okS.tl
    · cases h
  case lstore_n k =>
    have hlen : len = 1 := Nat.eq_of_beq_eq_true hl
    subst hlen
    change mstore2 K rest L S σ k.val = some r at h
    unfold mstore2 at h
    split at h
    · rename_i x S
      exact snd_store (fun hx hb hLR k' => lv_lstore_n hx hb hd rfl hLR (Nat.le_of_ble_eq_true ho) rfl (fun ls' h' => k' ls' (LR.putL (v := .inr (.inl x)) h'))) (hK.nx hc rfl h) (fun h1 h2 => h1.putL trivial) okS.tl
    · cases h
  case astore_n k =>
    have hlen : len = 1 := Nat.eq_of_beq_eq_true hl
    subst hlen
    change mstore3 K rest L S σ k.val = some r at h
    unfold mstore3 at h
    split at h
    · rename_i x S
      exact snd_store (fun hx hb hLR k' => lv_astore_n hx hb hd rfl hLR (Nat.le_of_ble_eq_true ho) rfl (fun ls' h' => k' ls' (LR.put (v := .inr (.inr x)) h'))) (hK.nx hc rfl h) (fun h1 h2 => h1.put h2.hd) okS.tl
    · cases h
  case istore k =>
    have hlen : len = 2 := Nat.eq_of_beq_eq_true hl
    subst hlen
    change mstore1 K rest L S σ k = some r at h
    unfold mstore1 at h
    split at h
    · rename_i x S
      exact snd_store (fun hx hb hLR k' => lv_istore hx hb hd hLR (Nat.le_of_ble_eq_true ho) rfl (fun ls' h' => k' ls' (LR.put (v := .inl x) h'))) (hK.nx hc rfl h) (fun h1 h2 => h1.put trivial) okS.tl
    · cases h
  case lstore k =>
    have hlen : len = 2 := Nat.eq_of_beq_eq_true hl
    subst hlen
    change mstore2 K rest L S σ k = some r at h
    unfold mstore2 at h
    split at h
    · rename_i x S
      exact snd_store (fun hx hb hLR k' => lv_lstore hx hb hd hLR (Nat.le_of_ble_eq_true ho) rfl (fun ls' h' => k' ls' (LR.putL (v := .inr (.inl x)) h'))) (hK.nx hc rfl h) (fun h1 h2 => h1.putL trivial) okS.tl
    · cases h
  case astore k =>
    have hlen : len = 2 := Nat.eq_of_beq_eq_true hl
    subst hlen
    change mstore3 K rest L S σ k = some r at h
    unfold mstore3 at h
    split at h
    · rename_i x S
      exact snd_store (fun hx hb hLR k' => lv_astore hx hb hd hLR (Nat.le_of_ble_eq_true ho) rfl (fun ls' h' => k' ls' (LR.put (v := .inr (.inr x)) h'))) (hK.nx hc rfl h) (fun h1 h2 => h1.put h2.hd) okS.tl
    · cases h
  case iconst c =>
    have hlen : len = 1 := Nat.eq_of_beq_eq_true hl
    subst hlen
    cases info with
    | nil => exact snd_pure (fun hx hb _ _ k' => lv_iconst hx hb hd rfl k') (hK.nx hc rfl h) (okS.cs trivial)
    | cons n info => exact snd_pure (fun hx hb _ _ k' => lv_iconst hx hb hd (of_decide_eq_true ho) k') (hK.nx hc rfl h) (okS.cs trivial)
  case bipush c =>
    have hlen : len = 2 := Nat.eq_of_beq_eq_true hl
    subst hlen
    cases info with
    | nil => exact snd_pure (fun hx hb _ _ k' => lv_bipush hx hb hd rfl k') (hK.nx hc rfl h) (okS.cs trivial)
    | cons n info => exact snd_pure (fun hx hb _ _ k' => lv_bipush hx hb hd (of_decide_eq_true ho) k') (hK.nx hc rfl h) (okS.cs trivial)
  case sipush c =>
    have hlen : len = 3 := Nat.eq_of_beq_eq_true hl
    subst hlen
    cases info with
    | nil => exact snd_pure (fun hx hb _ _ k' => lv_sipush hx hb hd rfl k') (hK.nx hc rfl h) (okS.cs trivial)
    | cons n info => exact snd_pure (fun hx hb _ _ k' => lv_sipush hx hb hd (of_decide_eq_true ho) k') (hK.nx hc rfl h) (okS.cs trivial)
  case lconst c =>
    have hlen : len = 1 := Nat.eq_of_beq_eq_true hl
    subst hlen
    cases info with
    | nil => cases ho
    | cons n info => exact snd_pure (fun hx hb _ _ k' => lv_lconst hx hb hd (of_decide_eq_true ho) k') (hK.nx hc rfl h) (okS.cs trivial)
  case ldc c =>
    have hlen : len = 2 := Nat.eq_of_beq_eq_true hl
    subst hlen
    cases info with
    | nil => cases ho
    | cons n info => exact snd_pure (fun hx hb hown hts k' => lv_ldc hx hb hown (hts _ (CL_in ho)) hd k') (hK.nx hc rfl h) (okS.cs trivial)
  case ldc_w c =>
    have hlen : len = 3 := Nat.eq_of_beq_eq_true hl
    subst hlen
    cases info with
    | nil => cases ho
    | cons n info => exact snd_pure (fun hx hb hown hts k' => lv_ldcw hx hb hown (hts _ (CL_in ho)) hd k') (hK.nx hc rfl h) (okS.cs trivial)
  case ldc2_w c =>
    have hlen : len = 3 := Nat.eq_of_beq_eq_true hl
    subst hlen
    cases info with
    | nil => cases ho
    | cons n info => exact snd_pure (fun hx hb hown hts k' => lv_ldc2 hx hb hown (hts _ (CL_in ho)) hd k') (hK.nx hc rfl h) (okS.cs trivial)
  case iinc k c =>
    have hlen : len = 3 := Nat.eq_of_beq_eq_true hl
    subst hlen
    simp only [mstepA] at h
    split at h
    · rename_i x hx
      exact snd_store (fun hx' hb hLR k' => by
        obtain ⟨n, hn⟩ := List.getElem?_of_mem ((lpairs_mem (ad := ad) L 0 (k, .int x)).mpr ⟨k, .inl x, hx, by rw [Nat.zero_add]; rfl⟩)
        exact lv_iinc hx' hb hd hLR hn rfl (Nat.le_of_ble_eq_true ho) rfl (fun ls' h' => k' ls' (LR.set (v := .inl (x + Int32.ofInt c)) hLR hx h'))) (hK.nx hc rfl h) (fun h1 h2 i v hv => by
        rw [lget_set] at hv
        split at hv
        · cases hv; trivial
        · exact h1 i v hv) id
    · cases h
  case iadd =>
    have hlen : len = 1 := Nat.eq_of_beq_eq_true hl
    subst hlen
    simp only [mstepA, mii] at h
    split at h
    · exact snd_pure (fun hx hb _ _ k' => lv_iadd hx hb hd k') (hK.nx hc rfl h) (fun q => (okS.tl (okS.tl q)).cs trivial)
    · cases h
  case isub =>
    have hlen : len = 1 := Nat.eq_of_beq_eq_true hl
    subst hlen
    simp only [mstepA, mii] at h
    split at h
    · exact snd_pure (fun hx hb _ _ k' => lv_isub hx hb hd k') (hK.nx hc rfl h) (fun q => (okS.tl (okS.tl q)).cs trivial)
    · cases h
  case imul =>
    have hlen : len = 1 := Nat.eq_of_beq_eq_true hl
    subst hlen
    simp only [mstepA, mii] at h
    split at h
    · exact snd_pure (fun hx hb _ _ k' => lv_imul hx hb hd k') (hK.nx hc rfl h) (fun q => (okS.tl (okS.tl q)).cs trivial)
    · cases h
  case iand =>
    have hlen : len = 1 := Nat.eq_of_beq_eq_true hl
    subst hlen
    simp only [mstepA, mii] at h
    split at h
    · exact snd_pure (fun hx hb _ _ k' => lv_iand hx hb hd k') (hK.nx hc rfl h) (fun q => (okS.tl (okS.tl q)).cs trivial)
    · cases h
  case ior =>
    have hlen : len = 1 := Nat.eq_of_beq_eq_true hl
    subst hlen
    simp only [mstepA, mii] at h
    split at h
    · exact snd_pure (fun hx hb _ _ k' => lv_ior hx hb hd k') (hK.nx hc rfl h) (fun q => (okS.tl (okS.tl q)).cs trivial)
    · cases h
  case ishl =>
    have hlen : len = 1 := Nat.eq_of_beq_eq_true hl
    subst hlen
    simp only [mstepA, mii] at h
    split at h
    · exact snd_pure (fun hx hb _ _ k' => lv_ishl hx hb hd k') (hK.nx hc rfl h) (fun q => (okS.tl (okS.tl q)).cs trivial)
    · cases h
  case ishr =>
    have hlen : len = 1 := Nat.eq_of_beq_eq_true hl
    subst hlen
    simp only [mstepA, mii] at h
    split at h
    · exact snd_pure (fun hx hb _ _ k' => lv_ishr hx hb hd k') (hK.nx hc rfl h) (fun q => (okS.tl (okS.tl q)).cs trivial)
    · cases h
  case iushr =>
    have hlen : len = 1 := Nat.eq_of_beq_eq_true hl
    subst hlen
    simp only [mstepA, mii] at h
    split at h
    · exact snd_pure (fun hx hb _ _ k' => lv_iushr hx hb hd rfl k') (hK.nx hc rfl h) (fun q => (okS.tl (okS.tl q)).cs trivial)
    · cases h
  case ladd =>
    have hlen : len = 1 := Nat.eq_of_beq_eq_true hl
    subst hlen
    simp only [mstepA, mll] at h
    split at h
    · exact snd_pure (fun hx hb _ _ k' => lv_ladd hx hb hd k') (hK.nx hc rfl h) (fun q => (okS.tl (okS.tl q)).cs trivial)
    · cases h
  case lmul =>
    have hlen : len = 1 := Nat.eq_of_beq_eq_true hl
    subst hlen
    simp only [mstepA, mll] at h
    split at h
    · exact snd_pure (fun hx hb _ _ k' => lv_lmul hx hb hd k') (hK.nx hc rfl h) (fun q => (okS.tl (okS.tl q)).cs trivial)
    · cases h
  case idiv =>
    have hlen : len = 1 := Nat.eq_of_beq_eq_true hl
    subst hlen
    simp only [mstepA, ml1] at h
    split at h
    · split at h
      · cases h
      · rename_i hz
        exact snd_pure (fun hx hb _ _ k' => lv_idiv hx hb hd hz k') (hK.nx hc rfl h) (fun q => (okS.tl (okS.tl q)).cs trivial)
    · cases h
  case irem =>
    have hlen : len = 1 := Nat.eq_of_beq_eq_true hl
    subst hlen
    simp only [mstepA, ml1] at h
    split at h
    · split at h
      · cases h
      · rename_i hz
        exact snd_pure (fun hx hb _ _ k' => lv_irem hx hb hd hz k') (hK.nx hc rfl h) (fun q => (okS.tl (okS.tl q)).cs trivial)
    · cases h
  case ldiv =>
    have hlen : len = 1 := Nat.eq_of_beq_eq_true hl
    subst hlen
    simp only [mstepA] at h
    split at h
    · split at h
      · cases h
      · rename_i hz
        exact snd_pure (fun hx hb _ _ k' => lv_ldiv hx hb hd hz k') (hK.nx hc rfl h) (fun q => (okS.tl (okS.tl q)).cs trivial)
    · cases h
  case lrem =>
    have hlen : len = 1 := Nat.eq_of_beq_eq_true hl
    subst hlen
    simp only [mstepA] at h
    split at h
    · split at h
      · cases h
      · rename_i hz
        exact snd_pure (fun hx hb _ _ k' => lv_lrem hx hb hd hz k') (hK.nx hc rfl h) (fun q => (okS.tl (okS.tl q)).cs trivial)
    · cases h
  case lcmp =>
    have hlen : len = 1 := Nat.eq_of_beq_eq_true hl
    subst hlen
    simp only [mstepA] at h
    split at h
    · exact snd_pure (fun hx hb _ _ k' => W.lcmp hx hb hd k') (hK.nx hc rfl h) (fun q => (okS.tl (okS.tl q)).cs trivial)
    · cases h
  case i2l =>
    have hlen : len = 1 := Nat.eq_of_beq_eq_true hl
    subst hlen
    simp only [mstepA, ml0] at h
    split at h
    · exact snd_pure (fun hx hb _ _ k' => lv_i2l hx hb hd rfl k') (hK.nx hc rfl h) (fun q => (okS.tl q).cs trivial)
    · cases h
  case i2b =>
    have hlen : len = 1 := Nat.eq_of_beq_eq_true hl
    subst hlen
    simp only [mstepA, ml0] at h
    split at h
    · exact snd_pure (fun hx hb _ _ k' => lv_i2b hx hb hd rfl k') (hK.nx hc rfl h) (fun q => (okS.tl q).cs trivial)
    · cases h
  case i2s =>
    have hlen : len = 1 := Nat.eq_of_beq_eq_true hl
    subst hlen
    simp only [mstepA, ml0] at h
    split at h
    · exact snd_pure (fun hx hb _ _ k' => lv_i2s hx hb hd rfl k') (hK.nx hc rfl h) (fun q => (okS.tl q).cs trivial)
    · cases h
  case dup =>
    have hlen : len = 1 := Nat.eq_of_beq_eq_true hl
    subst hlen
    simp only [mstepA] at h
    split at h
    · exact snd_pure (fun hx hb _ _ k' => lv_dup hx hb hd rfl k') (hK.nx hc rfl h) (fun q => q.cs q.hd)
    · exact snd_pure (fun hx hb _ _ k' => lv_dup hx hb hd rfl k') (hK.nx hc rfl h) (fun q => q.cs q.hd)
    · cases h
  case dup_x1 =>
    have hlen : len = 1 := Nat.eq_of_beq_eq_true hl
    subst hlen
    simp only [mstepA] at h
    split at h
    · exact snd_pure (fun hx hb _ _ k' => lv_dup_x1 hx hb hd rfl rfl k') (hK.nx hc rfl h) (fun q => q.tl.tl.cs q.hd |>.cs q.tl.hd |>.cs q.hd)
    · cases h
  case dup2 =>
    have hlen : len = 1 := Nat.eq_of_beq_eq_true hl
    subst hlen
    simp only [mstepA] at h
    split at h
    · exact snd_pure (fun hx hb _ _ k' => lv_dup2_11 hx hb hd rfl rfl k') (hK.nx hc rfl h) (fun q => (q.cs q.tl.hd).cs q.hd)
    · cases h
  case pop =>
    have hlen : len = 1 := Nat.eq_of_beq_eq_true hl
    subst hlen
    simp only [mstepA] at h
    split at h
    · exact snd_pure (fun hx hb _ _ k' => lv_pop hx hb hd rfl k') (hK.nx hc rfl h) okS.tl
    · exact snd_pure (fun hx hb _ _ k' => lv_pop hx hb hd rfl k') (hK.nx hc rfl h) okS.tl
    · cases h
  case goto off =>
    have hlen : len = 3 := Nat.eq_of_beq_eq_true hl
    subst hlen
    obtain ⟨t, ht, hS⟩ := KOk.jp hR hK hcr ho h
    exact snd_pure (fun hx hb _ _ k' => lv_goto (tgt := t) hx hb hd ht k') hS id
  case if_icmp cnd off =>
    have hlen : len = 3 := Nat.eq_of_beq_eq_true hl
    subst hlen
    obtain ⟨t0, ht0⟩ := eTgt_ex ho
    cases cnd
    case eq =>
      simp only [mstepA, ml1] at h
      split at h
      · split at h
        · rename_i q
          obtain ⟨t, ht, hS⟩ := KOk.jp hR hK hcr ho h
          exact snd_pure (fun hx hb _ _ k' => lv_icmp_eq (tgt := t) hx hb hd ht (fun _ => k') (fun z => absurd q z)) hS (fun q => (okS.tl (okS.tl q)))
        · rename_i q
          exact snd_pure (fun hx hb _ _ k' => lv_icmp_eq (tgt := t0) hx hb hd ht0 (fun z => absurd z q) (fun _ => k')) (hK.nx hc rfl h) (fun q => (okS.tl (okS.tl q)))
      · cases h
    case ne =>
      simp only [mstepA, ml1] at h
      split at h
      · split at h
        · rename_i q
          exact snd_pure (fun hx hb _ _ k' => lv_icmp_ne (tgt := t0) hx hb hd ht0 (fun z => absurd q z) (fun _ => k')) (hK.nx hc rfl h) (fun q => (okS.tl (okS.tl q)))
        · rename_i q
          obtain ⟨t, ht, hS⟩ := KOk.jp hR hK hcr ho h
          exact snd_pure (fun hx hb _ _ k' => lv_icmp_ne (tgt := t) hx hb hd ht (fun _ => k') (fun z => absurd z q)) hS (fun q => (okS.tl (okS.tl q)))
      · cases h
    case lt =>
      simp only [mstepA, ml1] at h
      split at h
      · split at h
        · rename_i q
          obtain ⟨t, ht, hS⟩ := KOk.jp hR hK hcr ho h
          exact snd_pure (fun hx hb _ _ k' => lv_icmp_lt (tgt := t) hx hb hd ht (fun _ => k') (fun z => absurd q z)) hS (fun q => (okS.tl (okS.tl q)))
        · rename_i q
          exact snd_pure (fun hx hb _ _ k' => lv_icmp_lt (tgt := t0) hx hb hd ht0 (fun z => absurd z q) (fun _ => k')) (hK.nx hc rfl h) (fun q => (okS.tl (okS.tl q)))
      · cases h
    case ge =>
      simp only [mstepA, ml1] at h
      split at h
      · split at h
        · rename_i q
          exact snd_pure (fun hx hb _ _ k' => lv_icmp_ge (tgt := t0) hx hb hd ht0 (fun z => absurd q (Int32.not_lt.mpr z)) (fun _ => k')) (hK.nx hc rfl h) (fun q => (okS.tl (okS.tl q)))
        · rename_i q
          obtain ⟨t, ht, hS⟩ := KOk.jp hR hK hcr ho h
          exact snd_pure (fun hx hb _ _ k' => lv_icmp_ge (tgt := t) hx hb hd ht (fun _ => k') (fun z => absurd (Int32.not_lt.mp q) z)) hS (fun q => (okS.tl (okS.tl q)))
      · cases h
    case gt =>
      simp only [mstepA, ml1] at h
      split at h
      · split at h
        · rename_i q
          obtain ⟨t, ht, hS⟩ := KOk.jp hR hK hcr ho h
          exact snd_pure (fun hx hb _ _ k' => lv_icmp_gt (tgt := t) hx hb hd ht (fun _ => k') (fun z => absurd q z)) hS (fun q => (okS.tl (okS.tl q)))
        · rename_i q
          exact snd_pure (fun hx hb _ _ k' => lv_icmp_gt (tgt := t0) hx hb hd ht0 (fun z => absurd z q) (fun _ => k')) (hK.nx hc rfl h) (fun q => (okS.tl (okS.tl q)))
      · cases h
    case le =>
      simp only [mstepA, ml1] at h
      split at h
      · split at h
        · rename_i q
          exact snd_pure (fun hx hb _ _ k' => lv_icmp_le (tgt := t0) hx hb hd ht0 (fun z => absurd q (Int32.not_lt.mpr z)) (fun _ => k')) (hK.nx hc rfl h) (fun q => (okS.tl (okS.tl q)))
        · rename_i q
          obtain ⟨t, ht, hS⟩ := KOk.jp hR hK hcr ho h
          exact snd_pure (fun hx hb _ _ k' => lv_icmp_le (tgt := t) hx hb hd ht (fun _ => k') (fun z => absurd (Int32.not_lt.mp q) z)) hS (fun q => (okS.tl (okS.tl q)))
      · cases h
  case ifCond cnd off =>
    have hlen : len = 3 := Nat.eq_of_beq_eq_true hl
    subst hlen
    obtain ⟨t0, ht0⟩ := eTgt_ex ho
    cases cnd
    case eq =>
      simp only [mstepA, ml0] at h
      split at h
      · split at h
        · rename_i q
          obtain ⟨t, ht, hS⟩ := KOk.jp hR hK hcr ho h
          exact snd_pure (fun hx hb _ _ k' => lv_if_eq (tgt := t) hx hb hd ht (fun _ => k') (fun z => absurd q z)) hS (fun q => (okS.tl q))
        · rename_i q
          exact snd_pure (fun hx hb _ _ k' => lv_if_eq (tgt := t0) hx hb hd ht0 (fun z => absurd z q) (fun _ => k')) (hK.nx hc rfl h) (fun q => (okS.tl q))
      · cases h
    case ne =>
      simp only [mstepA, ml0] at h
      split at h
      · split at h
        · rename_i q
          exact snd_pure (fun hx hb _ _ k' => lv_if_ne (tgt := t0) hx hb hd ht0 (fun z => absurd q z) (fun _ => k')) (hK.nx hc rfl h) (fun q => (okS.tl q))
        · rename_i q
          obtain ⟨t, ht, hS⟩ := KOk.jp hR hK hcr ho h
          exact snd_pure (fun hx hb _ _ k' => lv_if_ne (tgt := t) hx hb hd ht (fun _ => k') (fun z => absurd z q)) hS (fun q => (okS.tl q))
      · cases h
    case lt =>
      simp only [mstepA, ml0] at h
      split at h
      · split at h
        · rename_i q
          obtain ⟨t, ht, hS⟩ := KOk.jp hR hK hcr ho h
          exact snd_pure (fun hx hb _ _ k' => lv_if_lt (tgt := t) hx hb hd ht (fun _ => k') (fun z => absurd q z)) hS (fun q => (okS.tl q))
        · rename_i q
          exact snd_pure (fun hx hb _ _ k' => lv_if_lt (tgt := t0) hx hb hd ht0 (fun z => absurd z q) (fun _ => k')) (hK.nx hc rfl h) (fun q => (okS.tl q))
      · cases h
    case ge =>
      simp only [mstepA, ml0] at h
      split at h
      · split at h
        · rename_i q
          exact snd_pure (fun hx hb _ _ k' => lv_if_ge (tgt := t0) hx hb hd ht0 (fun z => absurd q (Int32.not_lt.mpr z)) (fun _ => k')) (hK.nx hc rfl h) (fun q => (okS.tl q))
        · rename_i q
          obtain ⟨t, ht, hS⟩ := KOk.jp hR hK hcr ho h
          exact snd_pure (fun hx hb _ _ k' => lv_if_ge (tgt := t) hx hb hd ht (fun _ => k') (fun z => absurd (Int32.not_lt.mp q) z)) hS (fun q => (okS.tl q))
      · cases h
    case gt =>
      simp only [mstepA, ml0] at h
      split at h
      · split at h
        · rename_i q
          obtain ⟨t, ht, hS⟩ := KOk.jp hR hK hcr ho h
          exact snd_pure (fun hx hb _ _ k' => lv_if_gt (tgt := t) hx hb hd ht (fun _ => k') (fun z => absurd q z)) hS (fun q => (okS.tl q))
        · rename_i q
          exact snd_pure (fun hx hb _ _ k' => lv_if_gt (tgt := t0) hx hb hd ht0 (fun z => absurd z q) (fun _ => k')) (hK.nx hc rfl h) (fun q => (okS.tl q))
      · cases h
    case le =>
      simp only [mstepA, ml0] at h
      split at h
      · split at h
        · rename_i q
          exact snd_pure (fun hx hb _ _ k' => lv_if_le (tgt := t0) hx hb hd ht0 (fun z => absurd q (Int32.not_lt.mpr z)) (fun _ => k')) (hK.nx hc rfl h) (fun q => (okS.tl q))
        · rename_i q
          obtain ⟨t, ht, hS⟩ := KOk.jp hR hK hcr ho h
          exact snd_pure (fun hx hb _ _ k' => lv_if_le (tgt := t) hx hb hd ht (fun _ => k') (fun z => absurd (Int32.not_lt.mp q) z)) hS (fun q => (okS.tl q))
      · cases h
  case tableswitch d lo hi offs =>
    obtain ⟨h123, h4⟩ := (Bool.and_eq_true _ _).mp ho
    obtain ⟨h12, h3⟩ := (Bool.and_eq_true _ _).mp h123
    obtain ⟨h1, h2⟩ := (Bool.and_eq_true _ _).mp h12
    have e1 : lo = 0 := of_decide_eq_true h1
    have e2 : hi + 1 = (offs.size : Int) := of_decide_eq_true h2
    have e3 : info.map Int.ofNat = ((pc : Int) + d) :: offs.toList.map (fun o => (pc : Int) + o) := of_decide_eq_true h3
    simp only [mstepA, ml0] at h
    split at h
    · rename_i x S
      cases info with
      | nil => cases h
      | cons d' ts =>
        simp only [List.map_cons, List.cons.injEq] at e3
        exact snd_switch hK hcr hd (Nat.le_of_ble_eq_true h4) e1 e2 e3.1 e3.2 h
    · cases h
  all_goals (cases h; done)
end SA
end
section
/-! One instruction of the small machine is one of the machine: fields, rows -/
section SB
variable {l : Launch} {D : va_G} {cy : Nat → ClassId} {ad : mO → Nat} {xs ys : Nat → Int32} {XL : Nat} {A : Nat → Prop} {b : Nat} {j : Nat}
theorem kFld_ok : ∀ (k a s r f : Nat) (o' : mO), okO (k, a, s, r) → kFld f (k, a, s, r) = some o' → okO o'
  | 0, a, s, r, 0, _, h, hf => by cases hf; have h : 0 < 46 ∧ a < 10 ∧ s < 1 ∧ r < 1 := h; show 11 < 46 ∧ a < 10 ∧ 0 < 1 ∧ 0 < 1; omega
  | 0, a, s, r, 1, _, h, hf => by cases hf; have h : 0 < 46 ∧ a < 10 ∧ s < 1 ∧ r < 1 := h; show 1 < 46 ∧ a < 11 ∧ 0 < 1 ∧ 0 < 1; omega
  | 0, a, s, r, 2, _, h, hf => by cases hf; have h : 0 < 46 ∧ a < 10 ∧ s < 1 ∧ r < 1 := h; show 12 < 46 ∧ a < 10 ∧ 0 < 1 ∧ 0 < 1; omega
  | 0, a, s, r, 3, _, h, hf => by cases hf
  | 0, a, s, r, 4, _, h, hf => by cases hf
  | 0, a, s, r, 5, _, h, hf => by cases hf
  | 0, a, s, r, 6, _, h, hf => by cases hf
  | 0, a, s, r, 7, _, h, hf => by cases hf
  | 0, a, s, r, 8, _, h, hf => by cases hf
  | 0, a, s, r, 9, _, h, hf => by cases hf
  | 0, a, s, r, 10, _, h, hf => by cases hf
  | 0, a, s, r, 11, _, h, hf => by cases hf
  | 0, a, s, r, 12, _, h, hf => by cases hf
  | 0, a, s, r, f + 13, _, h, hf => by cases hf
  | 1, a, s, r, 0, _, h, hf => by cases hf
  | 1, a, s, r, f + 1, _, h, hf => by cases hf
  | 2, a, s, r, 0, _, h, hf => by cases hf
  | 2, a, s, r, 1, _, h, hf => by cases hf
  | 2, a, s, r, 2, _, h, hf => by cases hf
  | 2, a, s, r, 3, _, h, hf => by cases hf
  | 2, a, s, r, 4, _, h, hf => by cases hf
  | 2, a, s, r, 5, _, h, hf => by cases hf
  | 2, a, s, r, 6, _, h, hf => by cases hf
  | 2, a, s, r, 7, _, h, hf => by cases hf
  | 2, a, s, r, 8, _, h, hf => by cases hf
  | 2, a, s, r, 9, _, h, hf => by cases hf
  | 2, a, s, r, 10, _, h, hf => by cases hf
  | 2, a, s, r, 11, _, h, hf => by cases hf
  | 2, a, s, r, 12, _, h, hf => by cases hf
  | 2, a, s, r, f + 13, _, h, hf => by cases hf
  | 3, a, s, r, 0, _, h, hf => by cases hf; have h : 3 < 46 ∧ a < 10 ∧ s < 6 ∧ r < 1 := h; show 15 < 46 ∧ a < 10 ∧ s < 6 ∧ 0 < 1; omega
  | 3, a, s, r, 1, _, h, hf => by cases hf; have h : 3 < 46 ∧ a < 10 ∧ s < 6 ∧ r < 1 := h; show 16 < 46 ∧ a < 10 ∧ s < 6 ∧ 0 < 1; omega
  | 3, a, s, r, 2, _, h, hf => by cases hf
  | 3, a, s, r, 3, _, h, hf => by cases hf
  | 3, a, s, r, 4, _, h, hf => by cases hf
  | 3, a, s, r, 5, _, h, hf => by cases hf
  | 3, a, s, r, 6, _, h, hf => by cases hf
  | 3, a, s, r, 7, _, h, hf => by cases hf
  | 3, a, s, r, 8, _, h, hf => by cases hf
  | 3, a, s, r, f + 9, _, h, hf => by cases hf
  | 4, a, s, r, 0, _, h, hf => by cases hf; have h : 4 < 46 ∧ a < 1 ∧ s < 1 ∧ r < 1 := h; show 24 < 46 ∧ 0 < 1 ∧ 0 < 1 ∧ 0 < 1; omega
  | 4, a, s, r, 1, _, h, hf => by cases hf
  | 4, a, s, r, f + 2, _, h, hf => by cases hf
  | 5, a, s, r, 0, _, h, hf => by cases hf; have h : 5 < 46 ∧ a < 1 ∧ s < 1 ∧ r < 1 := h; show 20 < 46 ∧ 0 < 1 ∧ 0 < 1 ∧ 0 < 1; omega
  | 5, a, s, r, 1, _, h, hf => by cases hf
  | 5, a, s, r, 2, _, h, hf => by cases hf
  | 5, a, s, r, f + 3, _, h, hf => by cases hf
  | 6, a, s, r, 0, _, h, hf => by cases hf; have h : 6 < 46 ∧ a < 10 ∧ s < 6 ∧ r < 4 := h; show 14 < 46 ∧ a < 10 ∧ s < 6 ∧ r < 4; omega
  | 6, a, s, r, 1, _, h, hf => by cases hf
  | 6, a, s, r, 2, _, h, hf => by cases hf
  | 6, a, s, r, 3, _, h, hf => by cases hf
  | 6, a, s, r, f + 4, _, h, hf => by cases hf
  | 7, a, s, r, 0, _, h, hf => by cases hf; have h : 7 < 46 ∧ a < 1 ∧ s < 1 ∧ r < 1 := h; show 23 < 46 ∧ 0 < 1 ∧ 0 < 1 ∧ 0 < 1; omega
  | 7, a, s, r, 1, _, h, hf => by cases hf
  | 7, a, s, r, f + 2, _, h, hf => by cases hf
  | 8, a, s, r, 0, _, h, hf => by cases hf; have h : 8 < 46 ∧ a < 10 ∧ s < 6 ∧ r < 1 := h; show 13 < 46 ∧ a < 10 ∧ s < 6 ∧ 0 < 1; omega
  | 8, a, s, r, 1, _, h, hf => by cases hf; have h : 8 < 46 ∧ a < 10 ∧ s < 6 ∧ r < 1 := h; show 2 < 46 ∧ a < 10 ∧ s < 6 ∧ 0 < 1; omega
  | 8, a, s, r, 2, _, h, hf => by cases hf; have h : 8 < 46 ∧ a < 10 ∧ s < 6 ∧ r < 1 := h; show 3 < 46 ∧ a < 10 ∧ s < 6 ∧ 0 < 1; omega
  | 8, a, s, r, 3, _, h, hf => by cases hf; have h : 8 < 46 ∧ a < 10 ∧ s < 6 ∧ r < 1 := h; show 17 < 46 ∧ a < 10 ∧ s < 6 ∧ 0 < 1; omega
  | 8, a, s, r, 4, _, h, hf => by cases hf; have h : 8 < 46 ∧ a < 10 ∧ s < 6 ∧ r < 1 := h; show 18 < 46 ∧ a < 10 ∧ s < 6 ∧ 0 < 1; omega
  | 8, a, s, r, 5, _, h, hf => by cases hf; have h : 8 < 46 ∧ a < 10 ∧ s < 6 ∧ r < 1 := h; show 19 < 46 ∧ a < 10 ∧ s < 6 ∧ 0 < 1; omega
  | 8, a, s, r, 6, _, h, hf => by cases hf
  | 8, a, s, r, 7, _, h, hf => by cases hf
  | 8, a, s, r, 8, _, h, hf => by cases hf
  | 8, a, s, r, 9, _, h, hf => by cases hf
  | 8, a, s, r, 10, _, h, hf => by cases hf
  | 8, a, s, r, 11, _, h, hf => by cases hf
  | 8, a, s, r, 12, _, h, hf => by cases hf
  | 8, a, s, r, f + 13, _, h, hf => by cases hf
  | 9, a, s, r, 0, _, h, hf => by cases hf; have h : 9 < 46 ∧ a < 1 ∧ s < 1 ∧ r < 1 := h; show 0 < 46 ∧ 0 < 10 ∧ 0 < 1 ∧ 0 < 1; omega
  | 9, a, s, r, 1, _, h, hf => by cases hf; have h : 9 < 46 ∧ a < 1 ∧ s < 1 ∧ r < 1 := h; show 0 < 46 ∧ 1 < 10 ∧ 0 < 1 ∧ 0 < 1; omega
  | 9, a, s, r, 2, _, h, hf => by cases hf; have h : 9 < 46 ∧ a < 1 ∧ s < 1 ∧ r < 1 := h; show 1 < 46 ∧ 10 < 11 ∧ 0 < 1 ∧ 0 < 1; omega
  | 9, a, s, r, 3, _, h, hf => by cases hf; have h : 9 < 46 ∧ a < 1 ∧ s < 1 ∧ r < 1 := h; show 5 < 46 ∧ 0 < 1 ∧ 0 < 1 ∧ 0 < 1; omega
  | 9, a, s, r, 4, _, h, hf => by cases hf; have h : 9 < 46 ∧ a < 1 ∧ s < 1 ∧ r < 1 := h; show 21 < 46 ∧ 0 < 1 ∧ 0 < 1 ∧ 0 < 1; omega
  | 9, a, s, r, 5, _, h, hf => by cases hf; have h : 9 < 46 ∧ a < 1 ∧ s < 1 ∧ r < 1 := h; show 22 < 46 ∧ 0 < 1 ∧ 0 < 1 ∧ 0 < 1; omega
  | 9, a, s, r, 6, _, h, hf => by cases hf; have h : 9 < 46 ∧ a < 1 ∧ s < 1 ∧ r < 1 := h; show 7 < 46 ∧ 0 < 1 ∧ 0 < 1 ∧ 0 < 1; omega
  | 9, a, s, r, 7, _, h, hf => by cases hf; have h : 9 < 46 ∧ a < 1 ∧ s < 1 ∧ r < 1 := h; show 4 < 46 ∧ 0 < 1 ∧ 0 < 1 ∧ 0 < 1; omega
  | 9, a, s, r, 8, _, h, hf => by cases hf; have h : 9 < 46 ∧ a < 1 ∧ s < 1 ∧ r < 1 := h; show 25 < 46 ∧ 0 < 1 ∧ 0 < 1 ∧ 0 < 1; omega
  | 9, a, s, r, f + 9, _, h, hf => by cases hf
  | 10, a, s, r, 0, _, h, hf => by cases hf; have h : 10 < 46 ∧ a < 1 ∧ s < 1 ∧ r < 1 := h; show 30 < 46 ∧ 0 < 1 ∧ 0 < 1 ∧ 0 < 1; omega
  | 10, a, s, r, 1, _, h, hf => by cases hf; have h : 10 < 46 ∧ a < 1 ∧ s < 1 ∧ r < 1 := h; show 31 < 46 ∧ 0 < 1 ∧ 0 < 1 ∧ 0 < 1; omega
  | 10, a, s, r, 2, _, h, hf => by cases hf
  | 10, a, s, r, 3, _, h, hf => by cases hf; have h : 10 < 46 ∧ a < 1 ∧ s < 1 ∧ r < 1 := h; show 32 < 46 ∧ 0 < 1 ∧ 0 < 1 ∧ 0 < 1; omega
  | 10, a, s, r, 4, _, h, hf => by cases hf
  | 10, a, s, r, 5, _, h, hf => by cases hf
  | 10, a, s, r, 6, _, h, hf => by cases hf
  | 10, a, s, r, 7, _, h, hf => by cases hf
  | 10, a, s, r, 8, _, h, hf => by cases hf
  | 10, a, s, r, 9, _, h, hf => by cases hf; have h : 10 < 46 ∧ a < 1 ∧ s < 1 ∧ r < 1 := h; show 33 < 46 ∧ 0 < 1 ∧ 0 < 1 ∧ 0 < 1; omega
  | 10, a, s, r, 10, _, h, hf => by cases hf; have h : 10 < 46 ∧ a < 1 ∧ s < 1 ∧ r < 1 := h; show 34 < 46 ∧ 0 < 1 ∧ 0 < 1 ∧ 0 < 1; omega
  | 10, a, s, r, 11, _, h, hf => by cases hf; have h : 10 < 46 ∧ a < 1 ∧ s < 1 ∧ r < 1 := h; show 35 < 46 ∧ 0 < 1 ∧ 0 < 1 ∧ 0 < 1; omega
  | 10, a, s, r, 12, _, h, hf => by cases hf
  | 10, a, s, r, 13, _, h, hf => by cases hf; have h : 10 < 46 ∧ a < 1 ∧ s < 1 ∧ r < 1 := h; show 36 < 46 ∧ 0 < 1 ∧ 0 < 1 ∧ 0 < 1; omega
  | 10, a, s, r, 14, _, h, hf => by cases hf; have h : 10 < 46 ∧ a < 1 ∧ s < 1 ∧ r < 1 := h; show 37 < 46 ∧ 0 < 1 ∧ 0 < 1 ∧ 0 < 1; omega
  | 10, a, s, r, 15, _, h, hf => by cases hf; have h : 10 < 46 ∧ a < 1 ∧ s < 1 ∧ r < 1 := h; show 38 < 46 ∧ 0 < 1 ∧ 0 < 1 ∧ 0 < 1; omega
  | 10, a, s, r, 16, _, h, hf => by cases hf; have h : 10 < 46 ∧ a < 1 ∧ s < 1 ∧ r < 1 := h; show 39 < 46 ∧ 0 < 1 ∧ 0 < 1 ∧ 0 < 1; omega
  | 10, a, s, r, 17, _, h, hf => by cases hf
  | 10, a, s, r, 18, _, h, hf => by cases hf
  | 10, a, s, r, 19, _, h, hf => by cases hf; have h : 10 < 46 ∧ a < 1 ∧ s < 1 ∧ r < 1 := h; show 40 < 46 ∧ 0 < 1 ∧ 0 < 1 ∧ 0 < 1; omega
  | 10, a, s, r, 20, _, h, hf => by cases hf; have h : 10 < 46 ∧ a < 1 ∧ s < 1 ∧ r < 1 := h; show 41 < 46 ∧ 0 < 1 ∧ 0 < 1 ∧ 0 < 1; omega
  | 10, a, s, r, f + 21, _, h, hf => by cases hf
  | k + 11, a, s, r, f, _, h, hf => by cases hf
theorem kFld_dep0 : ∀ (k a s r f : Nat), kFld f (k, a, s, r) = none ↔ kFld f (k, 0, 0, 0) = none
  | 0, a, s, r, 0 => ⟨fun h => (by cases h), fun h => (by cases h)⟩
  | 0, a, s, r, 1 => ⟨fun h => (by cases h), fun h => (by cases h)⟩
  | 0, a, s, r, 2 => ⟨fun h => (by cases h), fun h => (by cases h)⟩
  | 0, a, s, r, 3 => ⟨fun _ => rfl, fun _ => rfl⟩
  | 0, a, s, r, 4 => ⟨fun _ => rfl, fun _ => rfl⟩
  | 0, a, s, r, 5 => ⟨fun _ => rfl, fun _ => rfl⟩
  | 0, a, s, r, 6 => ⟨fun _ => rfl, fun _ => rfl⟩
  | 0, a, s, r, 7 => ⟨fun _ => rfl, fun _ => rfl⟩
  | 0, a, s, r, 8 => ⟨fun _ => rfl, fun _ => rfl⟩
  | 0, a, s, r, 9 => ⟨fun _ => rfl, fun _ => rfl⟩
  | 0, a, s, r, 10 => ⟨fun _ => rfl, fun _ => rfl⟩
  | 0, a, s, r, 11 => ⟨fun _ => rfl, fun _ => rfl⟩
  | 0, a, s, r, 12 => ⟨fun _ => rfl, fun _ => rfl⟩
  | 0, a, s, r, f + 13 => ⟨fun _ => rfl, fun _ => rfl⟩
  | 1, a, s, r, 0 => ⟨fun _ => rfl, fun _ => rfl⟩
  | 1, a, s, r, f + 1 => ⟨fun _ => rfl, fun _ => rfl⟩
  | 2, a, s, r, 0 => ⟨fun _ => rfl, fun _ => rfl⟩
  | 2, a, s, r, 1 => ⟨fun _ => rfl, fun _ => rfl⟩
  | 2, a, s, r, 2 => ⟨fun _ => rfl, fun _ => rfl⟩
  | 2, a, s, r, 3 => ⟨fun _ => rfl, fun _ => rfl⟩
  | 2, a, s, r, 4 => ⟨fun _ => rfl, fun _ => rfl⟩
  | 2, a, s, r, 5 => ⟨fun _ => rfl, fun _ => rfl⟩
  | 2, a, s, r, 6 => ⟨fun _ => rfl, fun _ => rfl⟩
  | 2, a, s, r, 7 => ⟨fun _ => rfl, fun _ => rfl⟩
  | 2, a, s, r, 8 => ⟨fun _ => rfl, fun _ => rfl⟩
  | 2, a, s, r, 9 => ⟨fun _ => rfl, fun _ => rfl⟩
  | 2, a, s, r, 10 => ⟨fun _ => rfl, fun _ => rfl⟩
  | 2, a, s, r, 11 => ⟨fun _ => rfl, fun _ => rfl⟩
  | 2, a, s, r, 12 => ⟨fun _ => rfl, fun _ => rfl⟩
  | 2, a, s, r, f + 13 => ⟨fun _ => rfl, fun _ => rfl⟩
  | 3, a, s, r, 0 => ⟨fun h => (by cases h), fun h => (by cases h)⟩
  | 3, a, s, r, 1 => ⟨fun h => (by cases h), fun h => (by cases h)⟩
  | 3, a, s, r, 2 => ⟨fun _ => rfl, fun _ => rfl⟩
  | 3, a, s, r, 3 => ⟨fun _ => rfl, fun _ => rfl⟩
  | 3, a, s, r, 4 => ⟨fun _ => rfl, fun _ => rfl⟩
  | 3, a, s, r, 5 => ⟨fun _ => rfl, fun _ => rfl⟩
  | 3, a, s, r, 6 => ⟨fun _ => rfl, fun _ => rfl⟩
  | 3, a, s, r, 7 => ⟨fun _ => rfl, fun _ => rfl⟩
  | 3, a, s, r, 8 => ⟨fun _ => rfl, fun _ => rfl⟩
  | 3, a, s, r, f + 9 => ⟨fun _ => rfl, fun _ => rfl⟩
  | 4, a, s, r, 0 => ⟨fun h => (by cases h), fun h => (by cases h)⟩
  | 4, a, s, r, 1 => ⟨fun _ => rfl, fun _ => rfl⟩
  | 4, a, s, r, f + 2 => ⟨fun _ => rfl, fun _ => rfl⟩
  | 5, a, s, r, 0 => ⟨fun h => (by cases h), fun h => (by cases h)⟩
  | 5, a, s, r, 1 => ⟨fun _ => rfl, fun _ => rfl⟩
  | 5, a, s, r, 2 => ⟨fun _ => rfl, fun _ => rfl⟩
  | 5, a, s, r, f + 3 => ⟨fun _ => rfl, fun _ => rfl⟩
  | 6, a, s, r, 0 => ⟨fun h => (by cases h), fun h => (by cases h)⟩
  | 6, a, s, r, 1 => ⟨fun _ => rfl, fun _ => rfl⟩
  | 6, a, s, r, 2 => ⟨fun _ => rfl, fun _ => rfl⟩
  | 6, a, s, r, 3 => ⟨fun _ => rfl, fun _ => rfl⟩
  | 6, a, s, r, f + 4 => ⟨fun _ => rfl, fun _ => rfl⟩
  | 7, a, s, r, 0 => ⟨fun h => (by cases h), fun h => (by cases h)⟩
  | 7, a, s, r, 1 => ⟨fun _ => rfl, fun _ => rfl⟩
  | 7, a, s, r, f + 2 => ⟨fun _ => rfl, fun _ => rfl⟩
  | 8, a, s, r, 0 => ⟨fun h => (by cases h), fun h => (by cases h)⟩
  | 8, a, s, r, 1 => ⟨fun h => (by cases h), fun h => (by cases h)⟩
  | 8, a, s, r, 2 => ⟨fun h => (by cases h), fun h => (by cases h)⟩
  | 8, a, s, r, 3 => ⟨fun h => (by cases h), fun h => (by cases h)⟩
  | 8, a, s, r, 4 => ⟨fun h => (by cases h), fun h => (by cases h)⟩
  | 8, a, s, r, 5 => ⟨fun h => (by cases h), fun h => (by cases h)⟩
  | 8, a, s, r, 6 => ⟨fun _ => rfl, fun _ => rfl⟩
  | 8, a, s, r, 7 => ⟨fun _ => rfl, fun _ => rfl⟩
  | 8, a, s, r, 8 => ⟨fun _ => rfl, fun _ => rfl⟩
  | 8, a, s, r, 9 => ⟨fun _ => rfl, fun _ => rfl⟩
  | 8, a, s, r, 10 => ⟨fun _ => rfl, fun _ => rfl⟩
  | 8, a, s, r, 11 => ⟨fun _ => rfl, fun _ => rfl⟩
  | 8, a, s, r, 12 => ⟨fun _ => rfl, fun _ => rfl⟩
  | 8, a, s, r, f + 13 => ⟨fun _ => rfl, fun _ => rfl⟩
  | 9, a, s, r, 0 => ⟨fun h => (by cases h), fun h => (by cases h)⟩
  | 9, a, s, r, 1 => ⟨fun h => (by cases h), fun h => (by cases h)⟩
  | 9, a, s, r, 2 => ⟨fun h => (by cases h), fun h => (by cases h)⟩
  | 9, a, s, r, 3 => ⟨fun h => (by cases h), fun h => (by cases h)⟩
  | 9, a, s, r, 4 => ⟨fun h => (by cases h), fun h => (by cases h)⟩
  | 9, a, s, r, 5 => ⟨fun h => (by cases h), fun h => (by cases h)⟩
  | 9, a, s, r, 6 => ⟨fun h => (by cases h), fun h => (by cases h)⟩
  | 9, a, s, r, 7 => ⟨fun h => (by cases h), fun h => (by cases h)⟩
  | 9, a, s, r, 8 => ⟨fun h => (by cases h), fun h => (by cases h)⟩
  | 9, a, s, r, f + 9 => ⟨fun _ => rfl, fun _ => rfl⟩
  | 10, a, s, r, 0 => ⟨fun h => (by cases h), fun h => (by cases h)⟩
  | 10, a, s, r, 1 => ⟨fun h => (by cases h), fun h => (by cases h)⟩
  | 10, a, s, r, 2 => ⟨fun _ => rfl, fun _ => rfl⟩
  | 10, a, s, r, 3 => ⟨fun h => (by cases h), fun h => (by cases h)⟩
  | 10, a, s, r, 4 => ⟨fun _ => rfl, fun _ => rfl⟩
  | 10, a, s, r, 5 => ⟨fun _ => rfl, fun _ => rfl⟩
  | 10, a, s, r, 6 => ⟨fun _ => rfl, fun _ => rfl⟩
  | 10, a, s, r, 7 => ⟨fun _ => rfl, fun _ => rfl⟩
  | 10, a, s, r, 8 => ⟨fun _ => rfl, fun _ => rfl⟩
  | 10, a, s, r, 9 => ⟨fun h => (by cases h), fun h => (by cases h)⟩
  | 10, a, s, r, 10 => ⟨fun h => (by cases h), fun h => (by cases h)⟩
  | 10, a, s, r, 11 => ⟨fun h => (by cases h), fun h => (by cases h)⟩
  | 10, a, s, r, 12 => ⟨fun _ => rfl, fun _ => rfl⟩
  | 10, a, s, r, 13 => ⟨fun h => (by cases h), fun h => (by cases h)⟩
  | 10, a, s, r, 14 => ⟨fun h => (by cases h), fun h => (by cases h)⟩
  | 10, a, s, r, 15 => ⟨fun h => (by cases h), fun h => (by cases h)⟩
  | 10, a, s, r, 16 => ⟨fun h => (by cases h), fun h => (by cases h)⟩
  | 10, a, s, r, 17 => ⟨fun _ => rfl, fun _ => rfl⟩
  | 10, a, s, r, 18 => ⟨fun _ => rfl, fun _ => rfl⟩
  | 10, a, s, r, 19 => ⟨fun h => (by cases h), fun h => (by cases h)⟩
  | 10, a, s, r, 20 => ⟨fun h => (by cases h), fun h => (by cases h)⟩
  | 10, a, s, r, f + 21 => ⟨fun _ => rfl, fun _ => rfl⟩
  | k + 11, a, s, r, f => ⟨fun _ => rfl, fun _ => rfl⟩
theorem kRow_lt : ∀ (k t n : Nat), kRow k = (t + 1, n) → 11 ≤ k
  | 0, t, n, h => by cases h
  | 1, t, n, h => by cases h
  | 2, t, n, h => by cases h
  | 3, t, n, h => by cases h
  | 4, t, n, h => by cases h
  | 5, t, n, h => by cases h
  | 6, t, n, h => by cases h
  | 7, t, n, h => by cases h
  | 8, t, n, h => by cases h
  | 9, t, n, h => by cases h
  | 10, t, n, h => by cases h
  | k + 11, t, n, h => Nat.le_add_left 11 k
theorem kEl_ok : ∀ (k a s r n i : Nat) (o' : mO), okO (k, a, s, r) → kRow k = (5, n) → i < n → kEl i (k, a, s, r) = some o' → okO o'
  | 0, a, s, r, n, i, _, h, hr, hi, hf => by cases hr
  | 1, a, s, r, n, i, _, h, hr, hi, hf => by cases hr
  | 2, a, s, r, n, i, _, h, hr, hi, hf => by cases hr
  | 3, a, s, r, n, i, _, h, hr, hi, hf => by cases hr
  | 4, a, s, r, n, i, _, h, hr, hi, hf => by cases hr
  | 5, a, s, r, n, i, _, h, hr, hi, hf => by cases hr
  | 6, a, s, r, n, i, _, h, hr, hi, hf => by cases hr
  | 7, a, s, r, n, i, _, h, hr, hi, hf => by cases hr
  | 8, a, s, r, n, i, _, h, hr, hi, hf => by cases hr
  | 9, a, s, r, n, i, _, h, hr, hi, hf => by cases hr
  | 10, a, s, r, n, i, _, h, hr, hi, hf => by cases hr
  | 11, a, s, r, n, i, _, h, hr, hi, hf => by cases hr
  | 12, a, s, r, n, i, _, h, hr, hi, hf => by cases hr; cases hf; have h : 12 < 46 ∧ a < 10 ∧ s < 1 ∧ r < 1 := h; show 8 < 46 ∧ a < 10 ∧ i < 6 ∧ 0 < 1; omega
  | 13, a, s, r, n, i, _, h, hr, hi, hf => by cases hr; cases hf; have h : 13 < 46 ∧ a < 10 ∧ s < 6 ∧ r < 1 := h; show 6 < 46 ∧ a < 10 ∧ s < 6 ∧ i < 4; omega
  | 14, a, s, r, n, i, _, h, hr, hi, hf => by cases hr
  | 15, a, s, r, n, i, _, h, hr, hi, hf => by cases hr
  | 16, a, s, r, n, i, _, h, hr, hi, hf => by cases hr
  | 17, a, s, r, n, i, _, h, hr, hi, hf => by cases hr
  | 18, a, s, r, n, i, _, h, hr, hi, hf => by cases hr
  | 19, a, s, r, n, i, _, h, hr, hi, hf => by cases hr
  | 20, a, s, r, n, i, _, h, hr, hi, hf => by cases hr; cases hf; show 0 < 46 ∧ 4 + i < 10 ∧ 0 < 1 ∧ 0 < 1; omega
  | 21, a, s, r, n, i, _, h, hr, hi, hf => by cases hr; cases hf; show 0 < 46 ∧ 2 + i < 10 ∧ 0 < 1 ∧ 0 < 1; omega
  | 22, a, s, r, n, i, _, h, hr, hi, hf => by cases hr
  | 23, a, s, r, n, i, _, h, hr, hi, hf => by cases hr
  | 24, a, s, r, n, i, _, h, hr, hi, hf => by cases hr
  | 25, a, s, r, n, i, _, h, hr, hi, hf => by cases hr
  | 26, a, s, r, n, i, _, h, hr, hi, hf => by cases hr
  | 27, a, s, r, n, i, _, h, hr, hi, hf => by cases hr
  | 28, a, s, r, n, i, _, h, hr, hi, hf => by cases hr
  | 29, a, s, r, n, i, _, h, hr, hi, hf => by cases hr
  | 30, a, s, r, n, i, _, h, hr, hi, hf => by cases hr
  | 31, a, s, r, n, i, _, h, hr, hi, hf => by cases hr
  | 32, a, s, r, n, i, _, h, hr, hi, hf => by cases hr
  | 33, a, s, r, n, i, _, h, hr, hi, hf => by cases hr
  | 34, a, s, r, n, i, _, h, hr, hi, hf => by cases hr
  | 35, a, s, r, n, i, _, h, hr, hi, hf => by cases hr
  | 36, a, s, r, n, i, _, h, hr, hi, hf => by cases hr
  | 37, a, s, r, n, i, _, h, hr, hi, hf => by cases hr
  | 38, a, s, r, n, i, _, h, hr, hi, hf => by cases hr
  | 39, a, s, r, n, i, _, h, hr, hi, hf => by cases hr
  | 40, a, s, r, n, i, _, h, hr, hi, hf => by cases hr
  | 41, a, s, r, n, i, _, h, hr, hi, hf => by cases hr
  | 42, a, s, r, n, i, _, h, hr, hi, hf => by cases hr
  | 43, a, s, r, n, i, _, h, hr, hi, hf => by cases hr
  | 44, a, s, r, n, i, _, h, hr, hi, hf => by cases hr
  | 45, a, s, r, n, i, _, h, hr, hi, hf => by cases hr
  | 46, a, s, r, n, i, _, h, hr, hi, hf => by cases hr
  | 47, a, s, r, n, i, _, h, hr, hi, hf => by cases hr
  | 48, a, s, r, n, i, _, h, hr, hi, hf => by cases hr
  | 49, a, s, r, n, i, _, h, hr, hi, hf => by cases hr
  | 50, a, s, r, n, i, _, h, hr, hi, hf => by cases hr
  | 51, a, s, r, n, i, _, h, hr, hi, hf => by cases hr
  | 52, a, s, r, n, i, _, h, hr, hi, hf => by cases hr
  | k + 53, a, s, r, n, i, _, h, hr, hi, hf => by cases hr
theorem kRow_kind5 : ∀ (k n : Nat), kRow k = (5, n) → (k = 12 ∨ k = 13 ∨ k = 20 ∨ k = 21)
  | 0, n, h => by cases h
  | 1, n, h => by cases h
  | 2, n, h => by cases h
  | 3, n, h => by cases h
  | 4, n, h => by cases h
  | 5, n, h => by cases h
  | 6, n, h => by cases h
  | 7, n, h => by cases h
  | 8, n, h => by cases h
  | 9, n, h => by cases h
  | 10, n, h => by cases h
  | 11, n, h => by cases h
  | 12, n, h => by simp
  | 13, n, h => by simp
  | 14, n, h => by cases h
  | 15, n, h => by cases h
  | 16, n, h => by cases h
  | 17, n, h => by cases h
  | 18, n, h => by cases h
  | 19, n, h => by cases h
  | 20, n, h => by simp
  | 21, n, h => by simp
  | 22, n, h => by cases h
  | 23, n, h => by cases h
  | 24, n, h => by cases h
  | 25, n, h => by cases h
  | 26, n, h => by cases h
  | 27, n, h => by cases h
  | 28, n, h => by cases h
  | 29, n, h => by cases h
  | 30, n, h => by cases h
  | 31, n, h => by cases h
  | 32, n, h => by cases h
  | 33, n, h => by cases h
  | 34, n, h => by cases h
  | 35, n, h => by cases h
  | 36, n, h => by cases h
  | 37, n, h => by cases h
  | 38, n, h => by cases h
  | 39, n, h => by cases h
  | 40, n, h => by cases h
  | 41, n, h => by cases h
  | 42, n, h => by cases h
  | 43, n, h => by cases h
  | 44, n, h => by cases h
  | 45, n, h => by cases h
  | 46, n, h => by cases h
  | 47, n, h => by cases h
  | 48, n, h => by cases h
  | 49, n, h => by cases h
  | 50, n, h => by cases h
  | 51, n, h => by cases h
  | 52, n, h => by cases h
  | k + 53, n, h => by cases h
theorem kRow_46 : ∀ (k n : Nat), kRow k = (6, n) → 46 ≤ k
  | 0, n, h => by cases h
  | 1, n, h => by cases h
  | 2, n, h => by cases h
  | 3, n, h => by cases h
  | 4, n, h => by cases h
  | 5, n, h => by cases h
  | 6, n, h => by cases h
  | 7, n, h => by cases h
  | 8, n, h => by cases h
  | 9, n, h => by cases h
  | 10, n, h => by cases h
  | 11, n, h => by cases h
  | 12, n, h => by cases h
  | 13, n, h => by cases h
  | 14, n, h => by cases h
  | 15, n, h => by cases h
  | 16, n, h => by cases h
  | 17, n, h => by cases h
  | 18, n, h => by cases h
  | 19, n, h => by cases h
  | 20, n, h => by cases h
  | 21, n, h => by cases h
  | 22, n, h => by cases h
  | 23, n, h => by cases h
  | 24, n, h => by cases h
  | 25, n, h => by cases h
  | 26, n, h => by cases h
  | 27, n, h => by cases h
  | 28, n, h => by cases h
  | 29, n, h => by cases h
  | 30, n, h => by cases h
  | 31, n, h => by cases h
  | 32, n, h => by cases h
  | 33, n, h => by cases h
  | 34, n, h => by cases h
  | 35, n, h => by cases h
  | 36, n, h => by cases h
  | 37, n, h => by cases h
  | 38, n, h => by cases h
  | 39, n, h => by cases h
  | 40, n, h => by cases h
  | 41, n, h => by cases h
  | 42, n, h => by cases h
  | 43, n, h => by cases h
  | 44, n, h => by cases h
  | 45, n, h => by cases h
  | 46, n, h => by omega
  | 47, n, h => by cases h
  | 48, n, h => by cases h
  | 49, n, h => by cases h
  | 50, n, h => by cases h
  | 51, n, h => by cases h
  | 52, n, h => by cases h
  | k + 53, n, h => by cases h
theorem kRow_50 : ∀ (k n : Nat), kRow k = (7, n) → 50 ≤ k
  | 0, n, h => by cases h
  | 1, n, h => by cases h
  | 2, n, h => by cases h
  | 3, n, h => by cases h
  | 4, n, h => by cases h
  | 5, n, h => by cases h
  | 6, n, h => by cases h
  | 7, n, h => by cases h
  | 8, n, h => by cases h
  | 9, n, h => by cases h
  | 10, n, h => by cases h
  | 11, n, h => by cases h
  | 12, n, h => by cases h
  | 13, n, h => by cases h
  | 14, n, h => by cases h
  | 15, n, h => by cases h
  | 16, n, h => by cases h
  | 17, n, h => by cases h
  | 18, n, h => by cases h
  | 19, n, h => by cases h
  | 20, n, h => by cases h
  | 21, n, h => by cases h
  | 22, n, h => by cases h
  | 23, n, h => by cases h
  | 24, n, h => by cases h
  | 25, n, h => by cases h
  | 26, n, h => by cases h
  | 27, n, h => by cases h
  | 28, n, h => by cases h
  | 29, n, h => by cases h
  | 30, n, h => by cases h
  | 31, n, h => by cases h
  | 32, n, h => by cases h
  | 33, n, h => by cases h
  | 34, n, h => by cases h
  | 35, n, h => by cases h
  | 36, n, h => by cases h
  | 37, n, h => by cases h
  | 38, n, h => by cases h
  | 39, n, h => by cases h
  | 40, n, h => by cases h
  | 41, n, h => by cases h
  | 42, n, h => by cases h
  | 43, n, h => by cases h
  | 44, n, h => by cases h
  | 45, n, h => by cases h
  | 46, n, h => by cases h
  | 47, n, h => by cases h
  | 48, n, h => by cases h
  | 49, n, h => by cases h
  | 50, n, h => by omega
  | 51, n, h => by omega
  | 52, n, h => by omega
  | k + 53, n, h => by cases h
theorem okR_ok {o : mO} (h : okR o) (hk : o.1 < 46) : okO o := by
  rcases h with h | rfl | rfl
  · exact h
  · exact absurd hk (by decide)
  · exact absurd hk (by decide)
theorem kRow_le : ∀ (k t n : Nat), kRow k = (t, n) → t = 1 ∨ t = 2 ∨ t = 3 ∨ t = 4 ∨ t = 5 → k < 46
  | 0, t, n, h, ht => by cases h; simp at ht
  | 1, t, n, h, ht => by cases h; simp at ht
  | 2, t, n, h, ht => by cases h; simp at ht
  | 3, t, n, h, ht => by cases h; simp at ht
  | 4, t, n, h, ht => by cases h; simp at ht
  | 5, t, n, h, ht => by cases h; simp at ht
  | 6, t, n, h, ht => by cases h; simp at ht
  | 7, t, n, h, ht => by cases h; simp at ht
  | 8, t, n, h, ht => by cases h; simp at ht
  | 9, t, n, h, ht => by cases h; simp at ht
  | 10, t, n, h, ht => by cases h; simp at ht
  | 11, t, n, h, ht => by omega
  | 12, t, n, h, ht => by omega
  | 13, t, n, h, ht => by omega
  | 14, t, n, h, ht => by omega
  | 15, t, n, h, ht => by omega
  | 16, t, n, h, ht => by omega
  | 17, t, n, h, ht => by omega
  | 18, t, n, h, ht => by omega
  | 19, t, n, h, ht => by omega
  | 20, t, n, h, ht => by omega
  | 21, t, n, h, ht => by omega
  | 22, t, n, h, ht => by omega
  | 23, t, n, h, ht => by omega
  | 24, t, n, h, ht => by omega
  | 25, t, n, h, ht => by omega
  | 26, t, n, h, ht => by cases h; simp at ht
  | 27, t, n, h, ht => by cases h; simp at ht
  | 28, t, n, h, ht => by cases h; simp at ht
  | 29, t, n, h, ht => by cases h; simp at ht
  | 30, t, n, h, ht => by omega
  | 31, t, n, h, ht => by omega
  | 32, t, n, h, ht => by omega
  | 33, t, n, h, ht => by omega
  | 34, t, n, h, ht => by omega
  | 35, t, n, h, ht => by omega
  | 36, t, n, h, ht => by omega
  | 37, t, n, h, ht => by omega
  | 38, t, n, h, ht => by omega
  | 39, t, n, h, ht => by omega
  | 40, t, n, h, ht => by omega
  | 41, t, n, h, ht => by omega
  | 42, t, n, h, ht => by cases h; simp at ht
  | 43, t, n, h, ht => by cases h; simp at ht
  | 44, t, n, h, ht => by cases h; simp at ht
  | 45, t, n, h, ht => by omega
  | 46, t, n, h, ht => by cases h; simp at ht
  | 47, t, n, h, ht => by cases h; simp at ht
  | 48, t, n, h, ht => by cases h; simp at ht
  | 49, t, n, h, ht => by cases h; simp at ht
  | 50, t, n, h, ht => by cases h; simp at ht
  | 51, t, n, h, ht => by cases h; simp at ht
  | 52, t, n, h, ht => by cases h; simp at ht
  | k + 53, t, n, h, ht => by cases h; simp at ht
theorem mCell_obj {σ : mS} {o : mO} (h : o.1 < 11) : mCell cy ad σ o = .inr (o.1, (List.range (fN o.1)).map (fCell ad σ o)) := by
  unfold mCell
  rw [show Nat.blt o.1 11 = true from Nat.ble_eq_true_of_le h]
  rfl
theorem mCell_int {σ : mS} {o : mO} {t n : Nat} (h : kRow o.1 = (t, n)) (ht : t = 1 ∨ t = 2 ∨ t = 3) : mCell cy ad σ o = .inl (cy t, n, .inl (σ.1 o)) := by
  have h11 : ¬ o.1 < 11 := by
    rcases ht with rfl | rfl | rfl <;> exact Nat.not_lt.mpr (kRow_lt _ _ _ h)
  unfold mCell
  rw [show Nat.blt o.1 11 = false from Bool.eq_false_iff.mpr (fun q => h11 (Nat.le_of_ble_eq_true q)), h]
  rcases ht with rfl | rfl | rfl <;> rfl
theorem mCell_long {σ : mS} {o : mO} {n : Nat} (h : kRow o.1 = (4, n)) : mCell cy ad σ o = .inl (cy 4, n, .inr (.inl (σ.2 o))) := by
  have h11 : ¬ o.1 < 11 := Nat.not_lt.mpr (kRow_lt _ _ _ h)
  unfold mCell
  rw [show Nat.blt o.1 11 = false from Bool.eq_false_iff.mpr (fun q => h11 (Nat.le_of_ble_eq_true q)), h]
  rfl
theorem mCell_ref {σ : mS} {o : mO} {n : Nat} (h : kRow o.1 = (5, n)) : mCell cy ad σ o = .inl (cy o.1, n, .inr (.inr (.inr (.inr (fun i => (kEl i o).map ad))))) := by
  have h11 : ¬ o.1 < 11 := Nat.not_lt.mpr (kRow_lt _ _ _ h)
  unfold mCell
  rw [show Nat.blt o.1 11 = false from Bool.eq_false_iff.mpr (fun q => h11 (Nat.le_of_ble_eq_true q)), h]
  rfl
theorem mTy1 {t : Nat} (ht : t = 1 ∨ t = 2 ∨ t = 3) : (mTys cy)[t - 1]? = some (cy t, if t = 1 then .int else if t = 2 then .byte else .boolean) := by
  rcases ht with rfl | rfl | rfl <;> rfl
/-- the world behind a write of a number -/
theorem rel_st {σ : mS} {H1 : Heap} {H : Heap} {o : mO} {i : Nat} {v : Int32} {q0 : Nat} {e : va_E} (ho : okO o) (hq : allO[q0]? = some o) (he : e = mCell cy ad (st σ o i v) o) (hRel : mRel D cy ad xs ys XL σ H) (hP : va_P D vwCl ((wsAll cy ad σ).set q0 (ad o, e)) H1) : mRel D cy ad xs ys XL (st σ o i v) H1 := by
  rw [ws_set hq he (fun o' hne => mCell_ne1 (st_ne hne) rfl)] at hP
  have n1 : ((46, 0, 0, 0) : mO) ≠ o := fun q => absurd ho.1 (by rw [← q]; decide)
  have n2 : ((46, 0, 0, 1) : mO) ≠ o := fun q => absurd ho.1 (by rw [← q]; decide)
  have n3 : ((51, 0, 0, 0) : mO) ≠ o := fun q => absurd ho.1 (by rw [← q]; decide)
  refine ⟨hP, ?_, ?_, ?_⟩
  · rw [st_ne n1]; exact hRel.2.1
  · rw [st_ne n2]; exact hRel.2.2.1
  · rw [st_ne n3]; exact hRel.2.2.2
theorem rel_stL {σ : mS} {H1 : Heap} {H : Heap} {o : mO} {i : Nat} {v : Int64} {q0 : Nat} {e : va_E} (hq : allO[q0]? = some o) (he : e = mCell cy ad (stL σ o i v) o) (hRel : mRel D cy ad xs ys XL σ H) (hP : va_P D vwCl ((wsAll cy ad σ).set q0 (ad o, e)) H1) : mRel D cy ad xs ys XL (stL σ o i v) H1 := by
  rw [ws_set (σ := σ) hq he (fun o' hne => mCell_ne1 rfl (stL_ne hne))] at hP
  exact ⟨hP, hRel.2.1, hRel.2.2.1, hRel.2.2.2⟩
theorem rel_stC {σ : mS} {H1 : Heap} {H : Heap} {o1 o : mO} {p1 p2 n : Nat} {q0 : Nat} {e : va_E} (ho : okO o) (hq : allO[q0]? = some o) (he : e = mCell cy ad (stC σ o1 p1 o p2 n) o) (hRel : mRel D cy ad xs ys XL σ H) (hP : va_P D vwCl ((wsAll cy ad σ).set q0 (ad o, e)) H1) : mRel D cy ad xs ys XL (stC σ o1 p1 o p2 n) H1 := by
  rw [ws_set hq he (fun o' hne => mCell_ne1 (stC_ne hne) rfl)] at hP
  have n1 : ((46, 0, 0, 0) : mO) ≠ o := fun q => absurd ho.1 (by rw [← q]; decide)
  have n2 : ((46, 0, 0, 1) : mO) ≠ o := fun q => absurd ho.1 (by rw [← q]; decide)
  have n3 : ((51, 0, 0, 0) : mO) ≠ o := fun q => absurd ho.1 (by rw [← q]; decide)
  refine ⟨hP, ?_, ?_, ?_⟩
  · rw [stC_ne n1]; exact hRel.2.1
  · rw [stC_ne n2]; exact hRel.2.2.1
  · rw [stC_ne n3]; exact hRel.2.2.2
theorem FL_in {a b c d : Nat} (h : FL.contains (a, b, c, d) = true) : FLok (a, b, c, d) := FL_ok _ (List.contains_iff_mem.mp h)
theorem MM_in {a b c : Nat} (h : MM.contains (a, b, c) = true) : MMok (a, b, c) := MM_ok _ (List.contains_iff_mem.mp h)
theorem ML_in {a b c d e : Nat} (h : ML.contains (a, b, c, d, e) = true) : MLok (a, b, c, d, e) := ML_ok _ (List.contains_iff_mem.mp h)
theorem set_map {α : Type} {g g' : Nat → α} {n f : Nat} (hg : ∀ k, k ≠ f → g' k = g k) : ((List.range n).map g).set f (g' f) = (List.range n).map g' := by
  apply List.ext_getElem?
  intro k
  by_cases hk : k = f
  · subst hk
    by_cases hl : k < n
    · rw [List.getElem?_set_self (by simpa using hl)]
      simp [hl]
    · rw [List.getElem?_eq_none (by simpa using hl), List.getElem?_eq_none (by simpa using hl)]
  · rw [List.getElem?_set_ne (Ne.symm hk)]
    by_cases hl : k < n
    · simp [hl, hg k hk]
    · rw [List.getElem?_eq_none (by simpa using hl), List.getElem?_eq_none (by simpa using hl)]

end SB
end
section
/-! One instruction of the small machine is one of the machine: fields, rows, one lemma each -/
section SC
variable {l : Launch} {D : va_G} {cy : Nat → ClassId} {ad : mO → Nat} {xs ys : Nat → Int32} {XL : Nat} {A : Nat → Prop} {b : Nat} {j : Nat}
theorem fDc : ∀ k, k < 11 → ∀ f, f < fN k → (fT k f).1 = cn k
  | 0, _ => (by decide +kernel : ∀ f, f < fN 0 → (TX0 f).1 = RX0)
  | 1, _ => (by decide +kernel : ∀ f, f < fN 1 → (TX1 f).1 = RX1)
  | 2, _ => (by decide +kernel : ∀ f, f < fN 2 → (TX2 f).1 = RX2)
  | 3, _ => (by decide +kernel : ∀ f, f < fN 3 → (TX3 f).1 = RX3)
  | 4, _ => (by decide +kernel : ∀ f, f < fN 4 → (TX4 f).1 = RX4)
  | 5, _ => (by decide +kernel : ∀ f, f < fN 5 → (TX5 f).1 = RX5)
  | 6, _ => (by decide +kernel : ∀ f, f < fN 6 → (TX6 f).1 = RX6)
  | 7, _ => (by decide +kernel : ∀ f, f < fN 7 → (TX7 f).1 = RX7)
  | 8, _ => (by decide +kernel : ∀ f, f < fN 8 → (TX8 f).1 = RX8)
  | 9, _ => (by decide +kernel : ∀ f, f < fN 9 → (TX9 f).1 = RX9)
  | 10, _ => (by decide +kernel : ∀ f, f < fN 10 → (TX10 f).1 = RX10)
  | n + 11, h => by omega
theorem snd_getf {pc idx ci f : Nat} {o : mO} {L : List (Option mV)} {S : List mV} {σ : mS} {r : mR} (hd : decode (mrow j).2.1 pc = .ok (.getfield idx, 3)) (hlk : FLok ((mrow j).2.2.2.2.1, idx, ci, f)) (hk : o.1 = ci) {v : mV} (hv : v = match kFld f o with | some o' => .inr (.inr o') | none => .inl (σ.1 o f))
    (hn : SndB l D cy ad xs ys XL A b (j, pc + 3, L, v :: S, σ) r) : SndB l D cy ad xs ys XL A b (j, pc, L, .inr (.inr o) :: S, σ) r := by
  intro p e R s m args below meth c C hfr hlo Q H locs cells slots ls hc hs hRel hSS hLR hokL hokS hfin
  obtain ⟨hx, hb, hml, hown, hts, hKS, hHS⟩ := id C
  obtain ⟨hl, hci, hfn⟩ := hlk
  dsimp only at hl hci hfn
  have hoR : okR o := hokS.hd
  have hoO : okO o := okR_ok hoR (by omega)
  obtain ⟨q0, hq, hw⟩ := ws_at (cy := cy) (ad := ad) hoO
  have he := hw σ
  rw [mCell_obj (by omega), hk] at he
  have hvv : ((List.range (fN ci)).map (fCell ad σ o))[f]? = some (fCell ad σ o f) := by simp [hfn]
  have key : fCell ad σ o f = toV ad v := by
    rw [hv]
    unfold fCell
    cases kFld f o <;> rfl
  have hokv : okV v := by
    rw [hv]
    cases hkf : kFld f o with
    | none => trivial
    | some o' => exact Or.inl (kFld_ok _ _ _ _ _ _ hoO hkf)
  have kk := hn.go C hfr hlo hc hs hRel hSS hLR hokL (hokS.tl.cs hokv) hfin
  rw [List.map_cons, ← key] at kk
  rcases hl with hl | hl
  · exact va_get hx hb hts (fLay ci hci) hown hKS.1 hRel.1 q0 he (fCl ci hci) f hfn (hts _ hl) (fun _ h => by rw [← fDc ci hci f hfn]; exact h) hvv hd kk
  · exact va_getN hx hb hts (fLay ci hci) hown hKS.1 hRel.1 q0 he (fCl ci hci) f hfn (va_Nw.use rfl (hKS.2 _ hl rfl)) (fun _ h => by rw [← fDc ci hci f hfn]; exact h) hvv hd kk
theorem snd_putf (hF : mFix ad XL A) {pc idx ci f : Nat} {o : mO} {x : Int32} {L : List (Option mV)} {S : List mV} {σ : mS} {r : mR} (hd : decode (mrow j).2.1 pc = .ok (.putfield idx, 3)) (hlk : FLok ((mrow j).2.2.2.2.1, idx, ci, f)) (hk : o.1 = ci) (hfin0 : (fT ci f).2.2.2 = false) {ty : FieldType} (hty : fY ci f = ty) (hnar : narrow ty (.int x) = .int x) (hfit : fits ty (.int x) = true) (hkf : kFld f (ci, 0, 0, 0) = none)
    (hn : SndB l D cy ad xs ys XL A b (j, pc + 3, L, S, st σ o f x) r) : SndB l D cy ad xs ys XL A b (j, pc, L, .inl x :: .inr (.inr o) :: S, σ) r := by
  intro p e R s m args below meth c C hfr hlo Q H locs cells slots ls hc hs hRel hSS hLR hokL hokS hfin
  obtain ⟨hx, hb, hml, hown, hts, hKS, hHS⟩ := id C
  obtain ⟨hl, hci, hfn⟩ := hlk
  dsimp only at hl hci hfn
  have hoR : okR o := hokS.tl.hd
  have hoO : okO o := okR_ok hoR (by omega)
  obtain ⟨q0, hq, hw⟩ := ws_at (cy := cy) (ad := ad) hoO
  have he := hw σ
  rw [mCell_obj (by omega), hk] at he
  have hkf' : kFld f o = none := by
    obtain ⟨k, a, s', r'⟩ := o
    cases hk
    exact (kFld_dep0 _ _ _ _ _).mpr hkf
  have hset : (.inr (ci, ((List.range (fN ci)).map (fCell ad σ o)).set f (.int x)) : va_E) = mCell cy ad (st σ o f x) o := by
    rw [mCell_obj (by omega), hk]
    have e1 : (Value.int x) = fCell ad (st σ o f x) o f := by
      unfold fCell
      rw [hkf']
      simp [st]
    rw [e1, set_map (g := fCell ad σ o) (g' := fCell ad (st σ o f x) o)]
    intro k hkn
    unfold fCell
    cases kFld k o with
    | some o' => rfl
    | none => simp [st, hkn]
  have hty2 : parseFieldDescriptor (fT ci f).2.2.1 = some ty := by rw [fTy ci hci f hfn, hty]
  have hlen : f < ((List.range (fN ci)).map (fCell ad σ o)).length := by simpa using hfn
  have kk : ∀ (H1 : Heap) (locs1 : List Loc), va_P D vwCl ((wsAll cy ad σ).set q0 (ad o, .inr (ci, ((List.range (fN ci)).map (fCell ad σ o)).set f (.int x)))) H1 → va_D A ((wsAll cy ad σ).set q0 (ad o, .inr (ci, ((List.range (fN ci)).map (fCell ad σ o)).set f (.int x)))) → va_S A s.heap H1 locs1 → W p l e R s m args below meth c H1 locs1 cells slots Q (F0 m (pc + 3) ls (S.map (toV ad))) := by
    intro H1 locs1 hP1 hD1 hS1
    exact hn.go C hfr hlo hc hs (rel_st hoO hq hset hRel hP1) hS1 hLR hokL hokS.tl.tl hfin
  rcases hl with hl | hl
  · exact va_put hx hb hts (fLay ci hci) (fY ci) (fTy ci hci) (fNm ci hci) hown hKS.1 hRel.1 ((ws_D hF.1 σ).weaken (fun _ _ _ h => hF.2.2.2.2 _ h)) hSS q0 he (fCl ci hci) f hfn (hts _ hl) (fun _ h => by rw [← fDc ci hci f hfn]; exact h) hfin0 hty2 hnar hfit hlen hd kk
  · exact va_putN hx hb hts (fLay ci hci) (fY ci) (fTy ci hci) (fNm ci hci) hown hKS.1 hRel.1 ((ws_D hF.1 σ).weaken (fun _ _ _ h => hF.2.2.2.2 _ h)) hSS q0 he (fCl ci hci) f hfn (va_Nw.use rfl (hKS.2 _ hl rfl)) (fun _ h => by rw [← fDc ci hci f hfn]; exact h) hfin0 hty2 hnar hfit hlen hd kk
theorem vp_of {i : Int32} {n : Nat} (h : ¬ (i < 0 ∨ n ≤ i.toNatClampNeg)) : vp_in i n := h
theorem row_ok {o : mO} {t n : Nat} (h : okR o) (hr : kRow o.1 = (t, n)) (ht : t = 1 ∨ t = 2 ∨ t = 3 ∨ t = 4 ∨ t = 5) : okO o := okR_ok h (kRow_le _ _ _ hr ht)
/-- a number out of a row of ints, bytes or booleans -/
theorem snd_rld {pc pc' t n : Nat} {o : mO} {i : Int32} {L : List (Option mV)} {S : List mV} {σ : mS} {r : mR} (hr : kRow o.1 = (t, n)) (ht : t = 1 ∨ t = 2 ∨ t = 3) (hin : ¬ (i < 0 ∨ n ≤ i.toNatClampNeg))
    (hrow : ∀ {p : Program} {e : Env} {R : Room} {s : State} {m : MethodId} {args : Array Value} {below : List Frame} {meth : Method} {c : Code} {H : Heap} {locs : List Loc} {cells slots : Nat} {Q : State → Prop} {ls : Array Slot} {ws : va_W} {a q0 : Nat} {f : Nat → Int32}, p.tables.exec = Jvm.exec → c.code = (mrow j).2.1 → va_K D vwCl (mTys cy) s → va_P D vwCl ws H → ws[q0]? = some (a, .inl (cy t, n, .inl f)) →
      W p l e R s m args below meth c H locs cells slots Q (F0 m pc' ls (.int (f i.toNatClampNeg) :: S.map (toV ad))) → W p l e R s m args below meth c H locs cells slots Q (F0 m pc ls (.int i :: .ref a :: S.map (toV ad))))
    (hn : SndB l D cy ad xs ys XL A b (j, pc', L, .inl (σ.1 o i.toNatClampNeg) :: S, σ) r) : SndB l D cy ad xs ys XL A b (j, pc, L, .inl i :: .inr (.inr o) :: S, σ) r := by
  intro p e R s m args below meth c C hfr hlo Q H locs cells slots ls hc hs hRel hSS hLR hokL hokS hfin
  obtain ⟨hx, hb, hml, hown, hts, hKS, hHS⟩ := id C
  have hoO : okO o := row_ok hokS.tl.hd hr (by omega)
  obtain ⟨q0, hq, hw⟩ := ws_at (cy := cy) (ad := ad) hoO
  have he := hw σ
  rw [mCell_int hr ht] at he
  exact hrow hx hb hKS.1 hRel.1 he (hn.go C hfr hlo hc hs hRel hSS hLR hokL (hokS.tl.tl.cs trivial) hfin)
theorem snd_lld {pc n : Nat} {o : mO} {i : Int32} {L : List (Option mV)} {S : List mV} {σ : mS} {r : mR} (hr : kRow o.1 = (4, n)) (hin : ¬ (i < 0 ∨ n ≤ i.toNatClampNeg)) (hd : decode (mrow j).2.1 pc = .ok (.laload, 1))
    (hn : SndB l D cy ad xs ys XL A b (j, pc + 1, L, .inr (.inl (σ.2 o i.toNatClampNeg)) :: S, σ) r) : SndB l D cy ad xs ys XL A b (j, pc, L, .inl i :: .inr (.inr o) :: S, σ) r := by
  intro p e R s m args below meth c C hfr hlo Q H locs cells slots ls hc hs hRel hSS hLR hokL hokS hfin
  obtain ⟨hx, hb, hml, hown, hts, hKS, hHS⟩ := id C
  have hoO : okO o := row_ok hokS.tl.hd hr (by omega)
  obtain ⟨q0, hq, hw⟩ := ws_at (cy := cy) (ad := ad) hoO
  have he := hw σ
  rw [mCell_long hr] at he
  exact va_lald hx hb hKS.1 hRel.1 q0 3 he rfl (vp_of hin) hd (hn.go C hfr hlo hc hs hRel hSS hLR hokL (hokS.tl.tl.cs trivial) hfin)
theorem snd_ald {pc n : Nat} {o o' : mO} {i : Int32} {L : List (Option mV)} {S : List mV} {σ : mS} {r : mR} (hr : kRow o.1 = (5, n)) (hin : ¬ (i < 0 ∨ n ≤ i.toNatClampNeg)) (ho' : kEl i.toNatClampNeg o = some o') (hd : decode (mrow j).2.1 pc = .ok (.aaload, 1))
    (hn : SndB l D cy ad xs ys XL A b (j, pc + 1, L, .inr (.inr o') :: S, σ) r) : SndB l D cy ad xs ys XL A b (j, pc, L, .inl i :: .inr (.inr o) :: S, σ) r := by
  intro p e R s m args below meth c C hfr hlo Q H locs cells slots ls hc hs hRel hSS hLR hokL hokS hfin
  obtain ⟨hx, hb, hml, hown, hts, hKS, hHS⟩ := id C
  have hoO : okO o := row_ok hokS.tl.hd hr (by omega)
  obtain ⟨q0, hq, hw⟩ := ws_at (cy := cy) (ad := ad) hoO
  have he := hw σ
  rw [mCell_ref hr] at he
  have hlt : i.toNatClampNeg < n := Nat.not_le.mp fun q => hin (Or.inr q)
  have hok' : okO o' := by
    obtain ⟨k, a, s', r'⟩ := o
    exact kEl_ok _ _ _ _ _ _ _ hoO hr hlt ho'
  have kk := hn.go C hfr hlo hc hs hRel hSS hLR hokL (hokS.tl.tl.cs (v := .inr (.inr o')) (Or.inl hok')) hfin
  have ev : toV ad (.inr (.inr o')) = va_rf (((fun i => (kEl i o).map ad) : Nat → Option Nat) i.toNatClampNeg) := by
    show Value.ref (ad o') = va_rf ((kEl i.toNatClampNeg o).map ad)
    rw [ho']
    rfl
  rw [List.map_cons, ev] at kk
  rcases kRow_kind5 _ _ hr with h5 | h5 | h5 | h5
  · rw [h5] at he
    exact va_aldq hx hb hKS.1 hRel.1 q0 4 he rfl (vp_of hin) hd kk
  · rw [h5] at he
    exact va_aldq hx hb hKS.1 hRel.1 q0 5 he rfl (vp_of hin) hd kk
  · rw [h5] at he
    exact va_aldq hx hb hKS.1 hRel.1 q0 6 he rfl (vp_of hin) hd kk
  · rw [h5] at he
    exact va_aldq hx hb hKS.1 hRel.1 q0 7 he rfl (vp_of hin) hd kk
/-- the script, and the static row -/
theorem script_o {o : mO} {n : Nat} (h : okR o) (hr : kRow o.1 = (6, n)) : o = (46, 0, 0, 0) := by
  rcases h with h | rfl | rfl
  · have := kRow_46 _ _ hr
    have := h.1
    omega
  · rfl
  · cases hr
theorem static_o {o : mO} {n : Nat} (h : okR o) (hr : kRow o.1 = (7, n)) : o = (51, 0, 0, 0) ∧ n = 12 := by
  rcases h with h | rfl | rfl
  · have := kRow_50 _ _ hr
    have := h.1
    omega
  · cases hr
  · cases hr; exact ⟨rfl, rfl⟩
theorem va_X.lt {b L : Nat} {zs : Nat → Int32} {U : State} {H : Heap} (h : va_X b L zs U H) : b < H.size := by
  obtain ⟨scr, h1, -⟩ := h
  exact (Array.getElem?_eq_some_iff.mp h1).1
theorem snd_sld (hF : mFix ad XL A) {pc n : Nat} {o : mO} {i : Int32} {L : List (Option mV)} {S : List mV} {σ : mS} {r : mR} (hr : kRow o.1 = (6, n)) (hin : ¬ (i < 0 ∨ (σ.1 (46, 0, 0, 1) 0).toNatClampNeg ≤ i.toNatClampNeg)) (hd : decode (mrow j).2.1 pc = .ok (.iaload, 1))
    (hn : SndB l D cy ad xs ys XL A b (j, pc + 1, L, .inl (σ.1 o i.toNatClampNeg) :: S, σ) r) : SndB l D cy ad xs ys XL A b (j, pc, L, .inl i :: .inr (.inr o) :: S, σ) r := by
  intro p e R s m args below meth c C hfr hlo Q H locs cells slots ls hc hs hRel hSS hLR hokL hokS hfin
  obtain ⟨hx, hb, hml, hown, hts, hKS, hHS⟩ := id C
  have ho := script_o hokS.tl.hd hr
  subst ho
  rw [hRel.2.2.1, nI_clamp hF.2.2.2.1] at hin
  have kk := hn.go C hfr hlo hc hs hRel hSS hLR hokL (hokS.tl.tl.cs trivial) hfin
  rw [hRel.2.1] at kk
  exact va_sld hx hb hHS.1 hHS.1.lt hF.2.1 hSS (vp_of hin) hd kk
theorem snd_tld (hF : mFix ad XL A) {pc n : Nat} {o : mO} {i : Int32} {L : List (Option mV)} {S : List mV} {σ : mS} {r : mR} (hr : kRow o.1 = (7, n)) (hin : ¬ (i < 0 ∨ n ≤ i.toNatClampNeg)) (hd : decode (mrow j).2.1 pc = .ok (.iaload, 1))
    (hn : SndB l D cy ad xs ys XL A b (j, pc + 1, L, .inl (σ.1 o i.toNatClampNeg) :: S, σ) r) : SndB l D cy ad xs ys XL A b (j, pc, L, .inl i :: .inr (.inr o) :: S, σ) r := by
  intro p e R s m args below meth c C hfr hlo Q H locs cells slots ls hc hs hRel hSS hLR hokL hokS hfin
  obtain ⟨hx, hb, hml, hown, hts, hKS, hHS⟩ := id C
  obtain ⟨ho, hn12⟩ := static_o hokS.tl.hd hr
  subst ho
  subst hn12
  have kk := hn.go C hfr hlo hc hs hRel hSS hLR hokL (hokS.tl.tl.cs trivial) hfin
  rw [hRel.2.2.2] at kk
  exact va_sld hx hb hHS.2.1 hHS.2.1.lt hF.2.2.1 hSS (vp_of hin) hd kk
theorem snd_slen {pc n : Nat} {o : mO} {L : List (Option mV)} {S : List mV} {σ : mS} {r : mR} (hF : mFix ad XL A) (hr : kRow o.1 = (6, n)) (hd : decode (mrow j).2.1 pc = .ok (.arraylength, 1))
    (hn : SndB l D cy ad xs ys XL A b (j, pc + 1, L, .inl (σ.1 (46, 0, 0, 1) 0) :: S, σ) r) : SndB l D cy ad xs ys XL A b (j, pc, L, .inr (.inr o) :: S, σ) r := by
  intro p e R s m args below meth c C hfr hlo Q H locs cells slots ls hc hs hRel hSS hLR hokL hokS hfin
  obtain ⟨hx, hb, hml, hown, hts, hKS, hHS⟩ := id C
  have ho := script_o hokS.hd hr
  subst ho
  have kk := hn.go C hfr hlo hc hs hRel hSS hLR hokL (hokS.tl.cs trivial) hfin
  rw [hRel.2.2.1] at kk
  exact va_slen hx hb hHS.1 hHS.1.lt hF.2.1 hSS hd kk
theorem snd_ilen {pc n : Nat} {o : mO} {L : List (Option mV)} {S : List mV} {σ : mS} {r : mR} (hr : kRow o.1 = (1, n)) (hd : decode (mrow j).2.1 pc = .ok (.arraylength, 1))
    (hn : SndB l D cy ad xs ys XL A b (j, pc + 1, L, .inl (nI n) :: S, σ) r) : SndB l D cy ad xs ys XL A b (j, pc, L, .inr (.inr o) :: S, σ) r := by
  intro p e R s m args below meth c C hfr hlo Q H locs cells slots ls hc hs hRel hSS hLR hokL hokS hfin
  obtain ⟨hx, hb, hml, hown, hts, hKS, hHS⟩ := id C
  have hoO : okO o := row_ok hokS.hd hr (by omega)
  obtain ⟨q0, hq, hw⟩ := ws_at (cy := cy) (ad := ad) hoO
  have he := hw σ
  rw [mCell_int hr (by omega)] at he
  exact va_alen hx hb hKS.1 hRel.1 q0 0 he rfl rfl hd (hn.go C hfr hlo hc hs hRel hSS hLR hokL (hokS.tl.cs trivial) hfin)
theorem snd_gets {pc idx : Nat} {L : List (Option mV)} {S : List mV} {σ : mS} {r : mR} (hj : (mrow j).2.2.2.2.1 = 9) (hi : idx = 92) (hd : decode (mrow j).2.1 pc = .ok (.getstatic idx, 3))
    (hn : SndB l D cy ad xs ys XL A b (j, pc + 3, L, .inr (.inr (51, 0, 0, 0)) :: S, σ) r) : SndB l D cy ad xs ys XL A b (j, pc, L, S, σ) r := by
  intro p e R s m args below meth c C hfr hlo Q H locs cells slots ls hc hs hRel hSS hLR hokL hokS hfin
  obtain ⟨hx, hb, hml, hown, hts, hKS, hHS⟩ := id C
  subst hi
  rw [hj] at hown
  exact va_gets hx hb hHS.2.2 hSS hown (hts _ gl_0) (fun _ h => h) hd (hn.go C hfr hlo hc hs hRel hSS hLR hokL (hokS.cs (v := .inr (.inr (51, 0, 0, 0))) (Or.inr (Or.inr rfl))) hfin)
/-- a number into a row -/
theorem snd_rst (hF : mFix ad XL A) {pc pc' t n : Nat} {o : mO} {i : Int32} {x y : Int32} {L : List (Option mV)} {S : List mV} {σ : mS} {r : mR} (hr : kRow o.1 = (t, n)) (ht : t = 1 ∨ t = 2 ∨ t = 3)
    (hrow : ∀ {p : Program} {e : Env} {R : Room} {s : State} {m : MethodId} {args : Array Value} {below : List Frame} {meth : Method} {c : Code} {H H0 : Heap} {locs : List Loc} {cells slots : Nat} {Q : State → Prop} {ls : Array Slot} {ws : va_W} {A : Nat → Prop} {a q0 : Nat} {f : Nat → Int32}, p.tables.exec = Jvm.exec → c.code = (mrow j).2.1 → va_K D vwCl (mTys cy) s → va_P D vwCl ws H → va_D A ws → va_S A H0 H locs → ws[q0]? = some (a, .inl (cy t, n, .inl f)) →
      (∀ (H1 : Heap) (locs1 : List Loc), va_P D vwCl (ws.set q0 (a, .inl (cy t, n, .inl (upd f i.toNatClampNeg y)))) H1 → va_S A H0 H1 locs1 → W p l e R s m args below meth c H1 locs1 cells slots Q (F0 m pc' ls (S.map (toV ad)))) → W p l e R s m args below meth c H locs cells slots Q (F0 m pc ls (.int x :: .int i :: .ref a :: S.map (toV ad))))
    (hn : SndB l D cy ad xs ys XL A b (j, pc', L, S, st σ o i.toNatClampNeg y) r) : SndB l D cy ad xs ys XL A b (j, pc, L, .inl x :: .inl i :: .inr (.inr o) :: S, σ) r := by
  intro p e R s m args below meth c C hfr hlo Q H locs cells slots ls hc hs hRel hSS hLR hokL hokS hfin
  obtain ⟨hx, hb, hml, hown, hts, hKS, hHS⟩ := id C
  have hoO : okO o := row_ok hokS.tl.tl.hd hr (by omega)
  obtain ⟨q0, hq, hw⟩ := ws_at (cy := cy) (ad := ad) hoO
  have he := hw σ
  rw [mCell_int hr ht] at he
  refine hrow hx hb hKS.1 hRel.1 ((ws_D hF.1 σ).weaken (fun _ _ _ h => hF.2.2.2.2 _ h)) hSS he (fun H1 locs1 hP1 hS1 => ?_)
  have hset : (.inl (cy t, n, .inl (upd (σ.1 o) i.toNatClampNeg y)) : va_E) = mCell cy ad (st σ o i.toNatClampNeg y) o := by
    rw [mCell_int hr ht, st_self]
  exact hn.go C hfr hlo hc hs (rel_st hoO hq hset hRel hP1) hS1 hLR hokL hokS.tl.tl.tl hfin
theorem snd_lst (hF : mFix ad XL A) {pc n : Nat} {o : mO} {i : Int32} {x : Int64} {L : List (Option mV)} {S : List mV} {σ : mS} {r : mR} (hr : kRow o.1 = (4, n)) (hin : ¬ (i < 0 ∨ n ≤ i.toNatClampNeg)) (hd : decode (mrow j).2.1 pc = .ok (.lastore, 1))
    (hn : SndB l D cy ad xs ys XL A b (j, pc + 1, L, S, stL σ o i.toNatClampNeg x) r) : SndB l D cy ad xs ys XL A b (j, pc, L, .inr (.inl x) :: .inl i :: .inr (.inr o) :: S, σ) r := by
  intro p e R s m args below meth c C hfr hlo Q H locs cells slots ls hc hs hRel hSS hLR hokL hokS hfin
  obtain ⟨hx, hb, hml, hown, hts, hKS, hHS⟩ := id C
  have hoO : okO o := row_ok hokS.tl.tl.hd hr (by omega)
  obtain ⟨q0, hq, hw⟩ := ws_at (cy := cy) (ad := ad) hoO
  have he := hw σ
  rw [mCell_long hr] at he
  refine va_last hx hb hKS.1 hRel.1 ((ws_D hF.1 σ).weaken (fun _ _ _ h => hF.2.2.2.2 _ h)) hSS q0 3 he rfl (vp_of hin) hd (fun H1 locs1 hP1 _ hS1 => ?_)
  have hset : (.inl (cy 4, n, .inr (.inl (vp_updL (σ.2 o) i.toNatClampNeg x))) : va_E) = mCell cy ad (stL σ o i.toNatClampNeg x) o := by
    rw [mCell_long hr, stL_self]
  exact hn.go C hfr hlo hc hs (rel_stL hq hset hRel hP1) hS1 hLR hokL hokS.tl.tl.tl hfin
theorem swords_sum (ad : mO → Nat) : ∀ S : List mV, ((S.map (toV ad)).map fun v => v.category).sum = swords S
  | [] => rfl
  | .inl x :: S => by
    have := swords_sum ad S
    simp only [List.map_cons, List.sum_cons, swords, toV, Value.category] at this ⊢
    omega
  | .inr (.inl y) :: S => by
    have := swords_sum ad S
    simp only [List.map_cons, List.sum_cons, swords, toV, Value.category] at this ⊢
    omega
  | .inr (.inr o) :: S => by
    have := swords_sum ad S
    simp only [List.map_cons, List.sum_cons, swords, toV, Value.category] at this ⊢
    omega
theorem snd_math {pc idx k : Nat} {x y : Int32} {L : List (Option mV)} {S : List mV} {σ : mS} {r : mR} (hk : k = 1000 ∨ k = 1001) (hmm : MMok ((mrow j).2.2.2.2.1, idx, k)) (h1 : 1 ≤ (mrow j).2.2.2.2.2.1) (h2 : 21 ≤ (mrow j).2.2.2.2.2.2) (hw : swords S ≤ 8) (hd : decode (mrow j).2.1 pc = .ok (.invokestatic idx, 3))
    (hn : SndB l D cy ad xs ys XL A b (j, pc + 3, L, .inl (if k = 1000 then (if x < y then y else x) else (if y < x then y else x)) :: S, σ) r) : SndB l D cy ad xs ys XL A b (j, pc, L, .inl y :: .inl x :: S, σ) r := by
  intro p e R s m args below meth c C hfr hlo Q H locs cells slots ls hc hs hRel hSS hLR hokL hokS hfin
  obtain ⟨hx, hb, hml, hown, hts, hKS, hHS⟩ := id C
  have kk := hn.go C hfr hlo hc hs hRel hSS hLR hokL (hokS.tl.tl.cs trivial) hfin
  have hsum := swords_sum ad S
  dsimp only at hfr hlo
  rcases hk with rfl | rfl
  · obtain ⟨a1, a2, a3, a4⟩ := hmm
    exact va_mmax hx hb (hml.trans hLR.1.symm) hown (hts _ a1) (hts _ a2) (hts _ a3) (hts _ a4) (by omega) (by omega) (by omega) (by omega) hd kk
  · obtain ⟨a1, a2, a3, a4⟩ := hmm
    exact va_mmin hx hb (hml.trans hLR.1.symm) hown (hts _ a1) (hts _ a2) (hts _ a3) (hts _ a4) (by omega) (by omega) (by omega) (by omega) hd kk
theorem snd_copy (hF : mFix ad XL A) {pc idx n1 n2 : Nat} {o1 o2 : mO} {p1 p2 nn : Int32} {L : List (Option mV)} {S : List mV} {σ : mS} {r : mR} (hmm : MMok ((mrow j).2.2.2.2.1, idx, 1002)) (h1 : 1 ≤ (mrow j).2.2.2.2.2.1) (h2 : 8 + (nativeFrameWords "java/lang/System" "arraycopy" 5 + 11) ≤ (mrow j).2.2.2.2.2.2) (hw : swords S ≤ 8) (hr1 : kRow o1.1 = (1, n1)) (hr2 : kRow o2.1 = (1, n2)) (hb0 : ¬ (nn < 0 ∨ p1 < 0 ∨ p2 < 0 ∨ n1 < p1.toNatClampNeg + nn.toNatClampNeg ∨ n2 < p2.toNatClampNeg + nn.toNatClampNeg)) (hd : decode (mrow j).2.1 pc = .ok (.invokestatic idx, 3))
    (hn : SndB l D cy ad xs ys XL A b (j, pc + 3, L, S, stC σ o1 p1.toNatClampNeg o2 p2.toNatClampNeg nn.toNatClampNeg) r) : SndB l D cy ad xs ys XL A b (j, pc, L, .inl nn :: .inl p2 :: .inr (.inr o2) :: .inl p1 :: .inr (.inr o1) :: S, σ) r := by
  intro p e R s m args below meth c C hfr hlo Q H locs cells slots ls hc hs hRel hSS hLR hokL hokS hfin
  obtain ⟨hx, hb, hml, hown, hts, hKS, hHS⟩ := id C
  simp only [not_or, Nat.not_lt] at hb0
  obtain ⟨b1, b2, b3, b4, b5⟩ := hb0
  have hoO2 : okO o2 := row_ok hokS.tl.tl.hd hr2 (by omega)
  have hoO1 : okO o1 := row_ok hokS.tl.tl.tl.tl.hd hr1 (by omega)
  obtain ⟨q1, hq1, hw1⟩ := ws_at (cy := cy) (ad := ad) hoO1
  obtain ⟨q2, hq2, hw2⟩ := ws_at (cy := cy) (ad := ad) hoO2
  have he1 := hw1 σ
  rw [mCell_int hr1 (by omega)] at he1
  have he2 := hw2 σ
  rw [mCell_int hr2 (by omega)] at he2
  have hsum := swords_sum ad S
  dsimp only at hfr hlo
  obtain ⟨a1, a2, a3, a4⟩ := hmm
  refine va_copyi hx hb (hml.trans hLR.1.symm) hown (hts _ a1) (hts _ a2) (hts _ a3) (hts _ a4) hKS.1 hRel.1 ((ws_D hF.1 σ).weaken (fun _ _ _ h => hF.2.2.2.2 _ h)) hSS q1 q2 0 0 he1 he2 rfl rfl rfl b2 b3 b1 b4 b5 (fun i hi => rfl) (by omega) (by omega) hd (fun H1 locs1 hP1 _ hS1 => ?_)
  have hset : (.inl (cy 1, n2, .inl (va_cpy (σ.1 o1) (σ.1 o2) p1.toNatClampNeg p2.toNatClampNeg nn.toNatClampNeg)) : va_E) = mCell cy ad (stC σ o1 p1.toNatClampNeg o2 p2.toNatClampNeg nn.toNatClampNeg) o2 := by
    rw [mCell_int hr2 (by omega), stC_self]
  exact hn.go C hfr hlo hc hs (rel_stC hoO2 hq2 hset hRel hP1) hS1 hLR hokL hokS.tl.tl.tl.tl.tl hfin
end SC
end
section
/-! Calls and ends; the whole of it -/
section SD
variable {l : Launch} {D : va_G} {cy : Nat → ClassId} {ad : mO → Nat} {xs ys : Nat → Int32} {XL : Nat} {A : Nat → Prop} {b : Nat} {j : Nat}
def mW (jc : Nat) : List Cond := Cond.code (mrow jc).1 (mrow jc).2.1 (mrow jc).2.2.1 (mrow jc).2.2.2.1 :: mBig
def mRm (jc : Nat) : Room := { frames := (mrow jc).2.2.2.2.2.1, cells := 0, slots := 0, locals := (mrow jc).2.2.2.2.2.2 }
def mQc (D : va_G) (cy : Nat → ClassId) (ad : mO → Nat) (xs ys : Nat → Int32) (XL : Nat) (rv : Option mV) (σ' : mS) : Array Value → State → Outcome → State → Prop := match rv with
  | none => va_Qv (fun _ : Unit => True) (fun _ t => mRel D cy ad xs ys XL σ' t.heap) (mA ad)
  | some (.inl x) => va_Qi (fun (r : Int32) (_ : Unit) => r = x) (fun _ t => mRel D cy ad xs ys XL σ' t.heap) (mA ad)
  | some (.inr (.inl y)) => va_Ql (fun (r : Int64) (_ : Unit) => r = y) (fun _ t => mRel D cy ad xs ys XL σ' t.heap) (mA ad)
  | _ => fun _ _ _ _ => False
def MetJ (l : Launch) (D : va_G) (cy : Nat → ClassId) (ad : mO → Nat) (xs ys : Nat → Int32) (XL : Nat) (jc : Nat) (acc : List mV) (σ : mS) (rv : Option mV) (σ' : mS) : Prop :=
  Met l (mrow jc).1 (mW jc) (mRm jc) (va_Pc (acc.map (toV ad)) (fun U => mRel D cy ad xs ys XL σ U.heap ∧ mKS D cy U ∧ mHS ad xs ys XL (mA ad) U U.heap)) (mQc D cy ad xs ys XL rv σ') 0 0 (mA ad)
theorem cn_plain : ∀ k, plainName (cn k) = true
  | 0 => by decide +kernel | 1 => by decide +kernel | 2 => by decide +kernel | 3 => by decide +kernel | 4 => by decide +kernel | 5 => by decide +kernel | 6 => by decide +kernel | 7 => by decide +kernel | 8 => by decide +kernel | 9 => by decide +kernel | 10 => by decide +kernel | 11 => by decide +kernel
  | n + 12 => (by decide +kernel : plainName RJ6 = true)
theorem largs_pairs : ∀ (n : Nat) (A : List mV) (k i : Nat) (v : mV), lget (largs n A) i = some v → (k + i, toV ad v) ∈ lv_args k (A.map (toV ad))
  | 0, A, k, i, v, h => by simp [largs, lget] at h
  | n + 1, [], k, i, v, h => by
    have : ∀ (n i : Nat), lget (largs n []) i = none := by
      intro n
      induction n with
      | zero => intro i; rfl
      | succ n ih => intro i; cases i with
        | zero => rfl
        | succ i => exact ih i
    rw [this] at h
    cases h
  | n + 1, .inl x :: A, k, 0, v, h => by
    simp only [largs, lget] at h
    cases h
    exact List.mem_cons_self
  | n + 1, .inl x :: A, k, i + 1, v, h => by
    simp only [largs, lget] at h
    have := largs_pairs n A (k + 1) i v h
    rw [show k + (i + 1) = k + 1 + i from by omega]
    exact List.mem_cons_of_mem _ this
  | n + 1, .inr (.inr o) :: A, k, 0, v, h => by
    simp only [largs, lget] at h
    cases h
    exact List.mem_cons_self
  | n + 1, .inr (.inr o) :: A, k, i + 1, v, h => by
    simp only [largs, lget] at h
    have := largs_pairs n A (k + 1) i v h
    rw [show k + (i + 1) = k + 1 + i from by omega]
    exact List.mem_cons_of_mem _ this
  | 1, .inr (.inl x) :: A, k, i, v, h => by
    cases i <;> simp [largs, lget] at h
  | n + 2, .inr (.inl x) :: A, k, 0, v, h => by
    simp only [largs, lget] at h
    cases h
    exact List.mem_cons_self
  | n + 2, .inr (.inl x) :: A, k, 1, v, h => by
    simp [largs, lget] at h
  | n + 2, .inr (.inl x) :: A, k, i + 2, v, h => by
    simp only [largs, lget] at h
    have := largs_pairs n A (k + 2) i v h
    rw [show k + (i + 2) = k + 2 + i from by omega]
    exact List.mem_cons_of_mem _ this
theorem largs_ok {n : Nat} {A : List mV} (h : okS A) : okL (largs n A) := by
  intro i v hv
  have key : ∀ (n : Nat) (A : List mV) (i : Nat) (v : mV), lget (largs n A) i = some v → v ∈ A := by
    intro n
    induction n using Nat.strongRecOn with
    | _ n ih =>
      intro A i v hv
      match n, A, i, hv with
      | 0, A, i, hv => simp [largs, lget] at hv
      | n + 1, [], i, hv =>
        cases i with
        | zero => simp [largs, lget] at hv
        | succ i => simp only [largs, lget] at hv; exact ih n (by omega) [] i v hv
      | n + 1, .inl x :: A, 0, hv => simp only [largs, lget] at hv; cases hv; exact List.mem_cons_self
      | n + 1, .inl x :: A, i + 1, hv => simp only [largs, lget] at hv; exact List.mem_cons_of_mem _ (ih n (by omega) A i v hv)
      | n + 1, .inr (.inr o) :: A, 0, hv => simp only [largs, lget] at hv; cases hv; exact List.mem_cons_self
      | n + 1, .inr (.inr o) :: A, i + 1, hv => simp only [largs, lget] at hv; exact List.mem_cons_of_mem _ (ih n (by omega) A i v hv)
      | 1, .inr (.inl x) :: A, i, hv => cases i <;> simp [largs, lget] at hv
      | n + 2, .inr (.inl x) :: A, 0, hv => simp only [largs, lget] at hv; cases hv; exact List.mem_cons_self
      | n + 2, .inr (.inl x) :: A, 1, hv => simp [largs, lget] at hv
      | n + 2, .inr (.inl x) :: A, i + 2, hv => simp only [largs, lget] at hv; exact List.mem_cons_of_mem _ (ih n (by omega) A i v hv)
  exact h v (key n A i v hv)
theorem lg_words (ad : mO → Nat) : ∀ A : List mV, (lg_sl (A.map (toV ad))).length = swords A
  | [] => rfl
  | .inl x :: A => by
    have := lg_words ad A
    simp only [lg_sl, List.map_cons, List.flatMap_cons, List.length_append, swords, toV, Value.category] at this ⊢
    simp only [show ¬ (1 : Nat) = 2 from by decide, if_false, List.length_cons, List.length_nil]
    omega
  | .inr (.inl y) :: A => by
    have := lg_words ad A
    simp only [lg_sl, List.map_cons, List.flatMap_cons, List.length_append, swords, toV, Value.category] at this ⊢
    simp only [if_true, List.length_cons, List.length_nil]
    omega
  | .inr (.inr o) :: A => by
    have := lg_words ad A
    simp only [lg_sl, List.map_cons, List.flatMap_cons, List.length_append, swords, toV, Value.category] at this ⊢
    simp only [show ¬ (1 : Nat) = 2 from by decide, if_false, List.length_cons, List.length_nil]
    omega
/-- a method's contract out of its first block -/
theorem met_of {jc : Nat} {acc : List mV} {σ : mS} {rv : Option mV} {σ' : mS} (h : SndB l D cy ad xs ys XL (mA ad) 0 (jc, 0, largs (mrow jc).2.2.1 acc, [], σ) (some rv, σ')) (hcl : (mrow jc).1.cls = cn (mrow jc).2.2.2.2.1) (hok : okS acc) (hw : swords acc ≤ (mrow jc).2.2.1) : MetJ l D cy ad xs ys XL jc acc σ rv σ' := by
  refine Met.ofW (cc := (mrow jc).2.1) (maxL := (mrow jc).2.2.1) (ret := (mrow jc).2.2.2.1) (by rw [hcl]; exact cn_plain _) rfl ?_
  intro p e s m args below meth c s₁ B hml hv
  obtain ⟨rfl, hRel, hKS, hHS⟩ := hv
  have hx := B.exec
  have hb := B.bytes
  have hr := B.returns
  have hts0 := atoms_spec (ws := mW jc) B.pre
  have hts : ∀ w ∈ mBig, w.before (acc.map (toV ad)).toArray s = true := fun w hw => hts0 w (List.mem_cons_of_mem _ hw)
  have hown : s.vm.findClass (cn (mrow jc).2.2.2.2.1) = some m.cls := by rw [← hcl]; exact findClass_of_methodNamed B.named
  have hlocks := B.notSynchronized
  have hl := lv_entry (acc.map (toV ad)) (n := (mrow jc).2.2.1) (by rw [lg_words]; exact hw)
  rw [lg_entry_eq]
  generalize (lg_sl (acc.map (toV ad)) ++ List.replicate ((mrow jc).2.2.1 - (lg_sl (acc.map (toV ad))).length) Slot.unset).toArray = ls at hl ⊢
  have hLR : LR ad ls (mrow jc).2.2.1 (largs (mrow jc).2.2.1 acc) := LR.of hl fun i v hv => by
    have := largs_pairs (ad := ad) _ _ 0 i v hv
    rwa [Nat.zero_add] at this
  refine h.go (Q := MQ below (mQc D cy ad xs ys XL rv σ') (acc.map (toV ad)).toArray s 0 0 (mA ad)) ⟨hx, hb, hml, hown, hts, hKS, hHS⟩ (Nat.le_refl _) (Nat.le_refl _) (Nat.zero_le _) (Nat.zero_le _) hRel va_S.rf hLR (largs_ok hok) (fun w hw => absurd hw List.not_mem_nil) ?_
  intro H' locs' cells' slots' ls' pc' S' hc0 hs0 hRel' hSS' hsz hend
  have hc0 : cells' = 0 := by omega
  have hs0 : slots' = 0 := by omega
  subst hc0
  subst hs0
  match rv, hend with
  | none, hend =>
    obtain ⟨hd, rfl, hret⟩ := hend
    exact W.vret hx hb (by rw [hr, hret]) (fun t ht hW => ⟨⟨(), rfl, trivial, by dsimp only; rw [ht]; exact hRel'⟩, hSS'.F ht⟩) hSS'.2.2 hd
  | some (.inl x), hend =>
    obtain ⟨hd, rfl, hret⟩ := hend
    rcases hret with hret | ⟨hret, hx01⟩
    · exact W.zret (ty := .int) hx hb (by rw [hr, hret]) rfl (fun t ht hW => ⟨⟨x, (), rfl, rfl, by dsimp only; rw [ht]; exact hRel'⟩, hSS'.F ht⟩) hSS'.2.2 hd
    · exact W.zret (ty := .boolean) hx hb (by rw [hr, hret]) (by rcases hx01 with rfl | rfl <;> rfl) (fun t ht hW => ⟨⟨x, (), rfl, rfl, by dsimp only; rw [ht]; exact hRel'⟩, hSS'.F ht⟩) hSS'.2.2 hd
  | some (.inr (.inl y)), hend =>
    obtain ⟨hd, rfl, hret⟩ := hend
    exact W.lret hx hb (by rw [hr, hret]) (fun t ht hW => ⟨⟨y, (), rfl, rfl, by dsimp only; rw [ht]; exact hRel'⟩, hSS'.F ht⟩) hSS'.2.2 hd
  | some (.inr (.inr o)), hend => exact absurd hend id
theorem mcall_inv {Rf : mQ → Option mR} {K : mK} {rest : List mE} {info : List Nat} {L : List (Option mV)} {σ : mS} {kr : Nat} : ∀ (n : Nat) (acc S : List mV) (r : mR), mcall Rf K rest info L σ kr n acc S = some r → ∃ bs S', S = bs ++ S' ∧ bs.length = n ∧ mcall Rf K rest info L σ kr 0 (bs.reverse ++ acc) S' = some r
  | 0, acc, S, r, h => ⟨[], S, rfl, rfl, h⟩
  | n + 1, acc, [], r, h => by unfold mcall at h; cases h
  | n + 1, acc, v :: S, r, h => by
    unfold mcall at h
    obtain ⟨bs, S', h1, h2, h3⟩ := mcall_inv n (v :: acc) S r h
    exact ⟨v :: bs, S', by rw [h1]; rfl, by simp [h2], by simpa using h3⟩
/-- the world at a callee's start -/
theorem pre_of (hF : mFix ad XL A) {s U : State} {σ : mS} {H : Heap} {locs : List Loc} (hU : U.heap = H) (hW : s.WarmedH U.vm) (hRel : mRel D cy ad xs ys XL σ H) (hKS : mKS D cy s) (hHS : mHS ad xs ys XL A s s.heap) (hSS : va_S A s.heap H locs) : mRel D cy ad xs ys XL σ U.heap ∧ mKS D cy U ∧ mHS ad xs ys XL (mA ad) U U.heap := by
  have hal := hW.alike
  refine ⟨by rw [hU]; exact hRel, ⟨va_K.moved hal hKS.1, fun w hw hn => nest_warm hn hW (hKS.2 w hw hn)⟩, ?_, ?_, ?_⟩
  · refine va_X.moved hal (hHS.1.kept ?_)
    rw [hU]; exact hSS.2.1 _ hHS.1.lt hF.2.1
  · refine va_X.moved hal (hHS.2.1.kept ?_)
    rw [hU]; exact hSS.2.1 _ hHS.2.1.lt hF.2.2.1
  · refine (va_Z.moved hal (hHS.2.2.kept fun a h1 h2 => ?_)).narrow hF.2.2.2.2
    rw [hU]; exact hSS.2.1 _ h1 h2
theorem blind_of {σ : mS} {As : List Value} : FrameBlind (va_Pc As (fun U => mRel D cy ad xs ys XL σ U.heap ∧ mKS D cy U ∧ mHS ad xs ys XL (mA ad) U U.heap)) := by
  intro a U g mk q
  obtain ⟨q0, q1, q2, q3⟩ := q
  have hal : U.vm.Alike (U.calling g mk a).vm := Vm.Alike.refl U.vm
  refine ⟨q0, q1, ⟨va_K.moved (u := U) (U := U.calling g mk a) hal q2.1, fun w hw hn => va_Nw.same (by cases w <;> first | (simp [isNestW] at hn; done) | rfl) (u := U) (U := U.calling g mk a) rfl (q2.2 w hw hn)⟩, va_X.moved (u := U) (U := U.calling g mk a) hal q3.1, va_X.moved (u := U) (U := U.calling g mk a) hal q3.2.1, va_Z.moved (u := U) (U := U.calling g mk a) hal q3.2.2⟩
end SD
end
section
/-! Calls of the small machine; every step; the whole -/
section SE
variable {l : Launch} {D : va_G} {cy : Nat → ClassId} {ad : mO → Nat} {xs ys : Nat → Int32} {XL : Nat} {A : Nat → Prop} {b : Nat} {j : Nat}
def CallH (l : Launch) (D : va_G) (cy : Nat → ClassId) (ad : mO → Nat) (xs ys : Nat → Int32) (XL : Nat) (Rf : mQ → Option mR) : Prop := ∀ (jc : Nat) (acc : List mV) (σ : mS) (rv : Option mV) (σ' : mS), Rf (jc, 0, largs (mrow jc).2.2.1 acc, [], σ) = some (some rv, σ') → PLs.contains jc = true → okS acc → swords acc ≤ (mrow jc).2.2.1 → (mrow jc).1.cls = cn (mrow jc).2.2.2.2.1 → MetJ l D cy ad xs ys XL jc acc σ rv σ'
theorem good_mW {jc : Nat} (h : MOk jc) : GoodIn mBig (mW jc) := fun w hw => by
  have hm : w ∈ mBig := by
    rcases List.mem_cons.mp hw with rfl | hw
    · exact h
    · exact hw
  exact ⟨hm, good_of_word (List.mem_filter.mp hm).2⟩
theorem okS_split {bs S : List mV} (h : okS (bs ++ S)) : okS bs.reverse ∧ okS S :=
  ⟨fun w hw => h w (List.mem_append_left _ (List.mem_reverse.mp hw)), fun w hw => h w (List.mem_append_right _ hw)⟩
/-- what a call's answer may be, by its kind and its type -/
def retOk (ret : Nat) (t : Option FieldType) : Prop := (ret = 0 ∧ t = none) ∨ (ret = 1 ∧ (t = some .int ∨ t = some .boolean)) ∨ (ret = 2 ∧ t = some .long)
theorem run_virt (hF : mFix ad XL A) {pc idx jc n : Nat} {acc S : List mV} {o : mO} {σ σ' : mS} {rv : Option mV} (hML : MLok ((mrow j).2.2.2.2.1, idx, jc, 0, n)) (hfr0 : (mrow jc).2.2.2.2.2.1 + 1 ≤ (mrow j).2.2.2.2.2.1) (hlo0 : 8 + ((mrow jc).2.2.1 + 11) + (mrow jc).2.2.2.2.2.2 ≤ (mrow j).2.2.2.2.2.2) (hkr : (mrow jc).2.2.2.2.1 < 11) (ho : o.1 = (mrow jc).2.2.2.2.1) (hn : acc.length + 1 = n) (hwS : swords S ≤ 8) (hok : okR o)
    (hM : MetJ l D cy ad xs ys XL jc (.inr (.inr o) :: acc) σ rv σ') (hd : decode (mrow j).2.1 pc = .ok (.invokevirtual idx, 3))
    {p : Program} {e : Env} {R : Room} {s : State} {m : MethodId} {args : Array Value} {below : List Frame} {meth : Method} {c : Code} {H : Heap} {locs : List Loc} {cells slots : Nat} {ls : Array Slot} (C : mCtx D cy ad xs ys XL A j p s m args c) (hfr : (mrow j).2.2.2.2.2.1 ≤ R.frames) (hlo : (mrow j).2.2.2.2.2.2 ≤ R.locals) (hc : cells ≤ R.cells) (hs : slots ≤ R.slots) (hRel : mRel D cy ad xs ys XL σ H) (hSS : va_S A s.heap H locs) (hsz : ls.size = (mrow j).2.2.1) :
    va_Run p l e R s m args below meth c H locs cells slots 0 0 (F0 m pc ls ((acc.map (toV ad)).reverse ++ .ref (ad o) :: S.map (toV ad))) (S.map (toV ad)) (mQc D cy ad xs ys XL rv σ' ((Value.ref (ad o) :: acc.map (toV ad)).toArray)) (mA ad) := by
  obtain ⟨hx, hb, hml, hown, hts, hKS, hHS⟩ := id C
  obtain ⟨m1, m2, m3, m4, ⟨m5, m6, m7⟩, m8, m9⟩ := hML
  dsimp only at m1 m2 m3 m4 m5 m6 m7 m8 m9
  have hoO : okO o := okR_ok hok (by omega)
  obtain ⟨q0, hq, hw⟩ := ws_at (cy := cy) (ad := ad) hoO
  have he := hw σ
  rw [mCell_obj (by omega), ho] at he
  have hdesc : (parseMethodDescriptor (mrow jc).1.desc).map (fun d => d.parameters.length) = some acc.length := by
    cases hq2 : parseMethodDescriptor (mrow jc).1.desc with
    | none => rw [hq2] at m7; cases m7
    | some d =>
      rw [hq2] at m7
      have := Option.some.inj m7
      show some d.parameters.length = some acc.length
      congr 1
      have h3 : d.parameters.length + 1 = n := this
      omega
  have hsum := swords_sum ad S
  refine va_runV (As := acc.map (toV ad)) (rest := S.map (toV ad)) (n := acc.length) (C := cn (mrow jc).2.2.2.2.1) ⟨hx, hb, hml, hown, hts⟩ hM ⟨callB_of acc.length hts (good_mW m8) rfl rfl rfl (hts _ m4) (hts _ m1) ⟨m5, m6, hdesc⟩ ⟨Nat.le_trans hfr0 hfr, Nat.le_trans hlo0 hlo⟩, hts _ m2, by rw [← m9]; exact hts _ m3⟩ ⟨blind_of, va_recv hKS.1 hRel.1 (fCl _ hkr) he, fun U hU hW => ⟨rfl, pre_of hF hU hW hRel hKS hHS hSS⟩⟩ rfl (by simp) hsz rfl (by show 2 * 0 + _ ≤ 8; omega) hd ⟨hc, hs⟩
theorem run_stat (hF : mFix ad XL A) {pc idx jc n : Nat} {acc S : List mV} {σ σ' : mS} {rv : Option mV} (hML : MLok ((mrow j).2.2.2.2.1, idx, jc, 1, n)) (hfr0 : (mrow jc).2.2.2.2.2.1 + 1 ≤ (mrow j).2.2.2.2.2.1) (hlo0 : 8 + ((mrow jc).2.2.1 + 11) + (mrow jc).2.2.2.2.2.2 ≤ (mrow j).2.2.2.2.2.2) (hn : acc.length = n) (hwS : swords S ≤ 8)
    (hM : MetJ l D cy ad xs ys XL jc acc σ rv σ') (hd : decode (mrow j).2.1 pc = .ok (.invokestatic idx, 3))
    {p : Program} {e : Env} {R : Room} {s : State} {m : MethodId} {args : Array Value} {below : List Frame} {meth : Method} {c : Code} {H : Heap} {locs : List Loc} {cells slots : Nat} {ls : Array Slot} (C : mCtx D cy ad xs ys XL A j p s m args c) (hfr : (mrow j).2.2.2.2.2.1 ≤ R.frames) (hlo : (mrow j).2.2.2.2.2.2 ≤ R.locals) (hc : cells ≤ R.cells) (hs : slots ≤ R.slots) (hRel : mRel D cy ad xs ys XL σ H) (hSS : va_S A s.heap H locs) (hsz : ls.size = (mrow j).2.2.1) :
    va_Run p l e R s m args below meth c H locs cells slots 0 0 (F0 m pc ls ((acc.map (toV ad)).reverse ++ S.map (toV ad))) (S.map (toV ad)) (mQc D cy ad xs ys XL rv σ' ((acc.map (toV ad)).toArray)) (mA ad) := by
  obtain ⟨hx, hb, hml, hown, hts, hKS, hHS⟩ := id C
  obtain ⟨m1, m2, m4, ⟨m5, m6, m7⟩, m8, m9⟩ := hML
  dsimp only at m1 m2 m4 m5 m6 m7 m8 m9
  have hdesc : (parseMethodDescriptor (mrow jc).1.desc).map (fun d => d.parameters.length) = some acc.length := by rw [m7, hn]
  have hsum := swords_sum ad S
  rcases m1 with m1 | m1
  · exact va_runS (As := acc.map (toV ad)) (rest := S.map (toV ad)) (n := acc.length) ⟨hx, hb, hml, hown, hts⟩ hM ⟨callB_of acc.length hts (good_mW m8) rfl rfl rfl (hts _ m4) (hts _ m1) ⟨m5, m6, hdesc⟩ ⟨Nat.le_trans hfr0 hfr, Nat.le_trans hlo0 hlo⟩, hts _ m2⟩ ⟨blind_of, fun U hU hW => ⟨rfl, pre_of hF hU hW hRel hKS hHS hSS⟩⟩ rfl (by simp) hsz rfl (by show 2 * 0 + _ ≤ 8; omega) hd ⟨hc, hs⟩
  · exact va_runSN (As := acc.map (toV ad)) (rest := S.map (toV ad)) (n := acc.length) (host := "SharedAir") ⟨hx, hb, hml, hown, hts⟩ hM ⟨va_cnB acc.length hts (good_mW m8) rfl rfl rfl (hKS.2 _ m1 rfl) (hts _ m4) ⟨m5, m6, hdesc⟩ ⟨Nat.le_trans hfr0 hfr, Nat.le_trans hlo0 hlo⟩, hts _ m2, trivial⟩ ⟨blind_of, fun U hU hW => ⟨rfl, pre_of hF hU hW hRel hKS hHS hSS⟩⟩ rfl (by simp) hsz rfl (by show 2 * 0 + _ ≤ 8; omega) hd ⟨hc, hs⟩
def pushR (rv : Option mV) (S : List mV) : List mV := match rv with
  | some v => v :: S
  | none => S
/-- behind a call -/
theorem snd_behind (hF : mFix ad XL A) {pc jc : Nat} {acc S : List mV} {σ σ' : mS} {rv : Option mV} {L : List (Option mV)} {st0 : List mV} {a : Array Value} {r : mR}
    (hrun : ∀ {p : Program} {e : Env} {R : Room} {s : State} {m : MethodId} {args : Array Value} {below : List Frame} {meth : Method} {c : Code} {H : Heap} {locs : List Loc} {cells slots : Nat} {ls : Array Slot}, mCtx D cy ad xs ys XL A j p s m args c → (mrow j).2.2.2.2.2.1 ≤ R.frames → (mrow j).2.2.2.2.2.2 ≤ R.locals → cells ≤ R.cells → slots ≤ R.slots → mRel D cy ad xs ys XL σ H → va_S A s.heap H locs → ls.size = (mrow j).2.2.1 → okS st0 →
      va_Run p l e R s m args below meth c H locs cells slots 0 0 (F0 m pc ls (st0.map (toV ad))) (S.map (toV ad)) (mQc D cy ad xs ys XL rv σ' a) (mA ad))
    (hokS0 : okS st0 → okS S)
    (hn : ∃ S1 : List mV, S1 = pushR rv S ∧ (rv = none ∨ (∃ x, rv = some (.inl x)) ∨ ∃ y, rv = some (.inr (.inl y))) ∧ SndB l D cy ad xs ys XL A b (j, pc + 3, L, S1, σ') r) : SndB l D cy ad xs ys XL A b (j, pc, L, st0, σ) r := by
  intro p e R s m args below meth c C hfr hlo Q H locs cells slots ls hc hs hRel hSS hLR hokL hokS hfin
  have hr := hrun (e := e) (below := below) (meth := meth) C hfr hlo (Nat.le_trans (Nat.le_add_right _ _) hc) (Nat.le_trans (Nat.le_add_right _ _) hs) hRel hSS hLR.1 hokS
  obtain ⟨S1, rfl, hrv, hn⟩ := hn
  rcases hrv with rfl | ⟨x, rfl⟩ | ⟨y, rfl⟩
  · exact va_callv (a := a) hr hSS (fun q _ h => hF.2.2.2.2 q h) (fun q h => hF.2.2.2.2 q h) (fun u t H1 locs1 ht hvm hp hB hz hk hS1 => hn.go C hfr hlo hc hs (by have hB : mRel D cy ad xs ys XL σ' t.heap := hB; rw [ht] at hB; exact hB) hS1 hLR hokL (hokS0 hokS) hfin)
  · refine va_calli (a := a) hr hSS (fun q _ h => hF.2.2.2.2 q h) (fun q h => hF.2.2.2.2 q h) (fun r1 u t H1 locs1 ht hvm hp hB hz hk hS1 => ?_)
    have hp : r1 = x := hp
    subst hp
    exact hn.go C hfr hlo hc hs (by have hB : mRel D cy ad xs ys XL σ' t.heap := hB; rw [ht] at hB; exact hB) hS1 hLR hokL ((hokS0 hokS).cs trivial) hfin
  · refine va_calll (a := a) hr hSS (fun q _ h => hF.2.2.2.2 q h) (fun q h => hF.2.2.2.2 q h) (fun r1 u t H1 locs1 ht hvm hp hB hz hk hS1 => ?_)
    have hp : r1 = y := hp
    subst hp
    exact hn.go C hfr hlo hc hs (by have hB : mRel D cy ad xs ys XL σ' t.heap := hB; rw [ht] at hB; exact hB) hS1 hLR hokL ((hokS0 hokS).cs trivial) hfin
theorem snd_mcall (hF : mFix ad XL A) {Rf : mQ → Option mR} {K : mK} (hCall : CallH l D cy ad xs ys XL Rf) {rest : List mE} {pc idx n jc ml ret k kr : Nat} (hPL : PLs.contains jc = true) (hML : MLok ((mrow j).2.2.2.2.1, idx, jc, k, n)) (hk : (k = 0 ∧ kr < 11 ∧ kr = (mrow jc).2.2.2.2.1 ∧ decode (mrow j).2.1 pc = .ok (.invokevirtual idx, 3)) ∨ (k = 1 ∧ kr = 1000 ∧ decode (mrow j).2.1 pc = .ok (.invokestatic idx, 3)))
    (hml : ml = (mrow jc).2.2.1) (hret : retOk ret (mrow jc).2.2.2.1) (hfr0 : (mrow jc).2.2.2.2.2.1 + 1 ≤ (mrow j).2.2.2.2.2.1) (hlo0 : 8 + (ml + 11) + (mrow jc).2.2.2.2.2.2 ≤ (mrow j).2.2.2.2.2.2) {L : List (Option mV)} {S : List mV} {σ : mS} {r : mR} (hnx : ∀ (L : List (Option mV)) (S : List mV) (σ : mS), K rest L S σ = some r → SndB l D cy ad xs ys XL A b (j, pc + 3, L, S, σ) r)
    (h : mcall Rf K rest [jc, ml, ret] L σ kr n [] S = some r) : SndB l D cy ad xs ys XL A b (j, pc, L, S, σ) r := by
  obtain ⟨bs, S', rfl, hlen, h0⟩ := mcall_inv n [] S r h
  rw [List.append_nil] at h0
  unfold mcall at h0
  cases hb : (Nat.ble (swords S') 8 && Nat.ble (swords bs.reverse) ([jc, ml, ret].getD 1 0) && mrc kr bs.reverse)
  · rw [hb] at h0; cases h0
  · rw [hb] at h0
    simp only [cond_true] at h0
    simp only [Bool.and_eq_true] at hb
    obtain ⟨⟨hw1, hw2⟩, hrc⟩ := hb
    have hw1 : swords S' ≤ 8 := Nat.le_of_ble_eq_true hw1
    have hw2 : swords bs.reverse ≤ (mrow jc).2.2.1 := by rw [← hml]; exact Nat.le_of_ble_eq_true hw2
    have hres : ∃ (rv : Option mV) (σ' : mS), Rf (jc, 0, largs ml bs.reverse, [], σ) = some (some rv, σ') ∧ ∃ S1 : List mV, S1 = pushR rv S' ∧ (rv = none ∨ (∃ x, rv = some (.inl x)) ∨ ∃ y, rv = some (.inr (.inl y))) ∧ SndB l D cy ad xs ys XL A b (j, pc + 3, L, S1, σ') r := by
      rcases hret with ⟨rfl, -⟩ | ⟨rfl, -⟩ | ⟨rfl, -⟩
      · change bdV (Rf (jc, 0, largs ml bs.reverse, [], σ)) (fun σ' => K rest L S' σ') = some r at h0
        unfold bdV at h0
        split at h0
        · rename_i σ' heq
          exact ⟨none, σ', heq, S', rfl, Or.inl rfl, hnx _ _ _ h0⟩
        · cases h0
      · change bdI (Rf (jc, 0, largs ml bs.reverse, [], σ)) (fun x σ' => K rest L (.inl x :: S') σ') = some r at h0
        unfold bdI at h0
        split at h0
        · rename_i x σ' heq
          exact ⟨some (.inl x), σ', heq, .inl x :: S', rfl, Or.inr (Or.inl ⟨x, rfl⟩), hnx _ _ _ h0⟩
        · cases h0
      · change bdL (Rf (jc, 0, largs ml bs.reverse, [], σ)) (fun x σ' => K rest L (.inr (.inl x) :: S') σ') = some r at h0
        unfold bdL at h0
        split at h0
        · rename_i y σ' heq
          exact ⟨some (.inr (.inl y)), σ', heq, .inr (.inl y) :: S', rfl, Or.inr (Or.inr ⟨y, rfl⟩), hnx _ _ _ h0⟩
        · cases h0
    obtain ⟨rv, σ', hRf, hS1⟩ := hres
    rw [hml] at hRf hlo0
    rcases hk with ⟨rfl, hk11, hkr, hd⟩ | ⟨rfl, hkr, hd⟩
    · have hcl : (mrow jc).1.cls = cn (mrow jc).2.2.2.2.1 := hML.2.2.2.2.2.2
      have hacc : ∃ (o : mO) (acc : List mV), bs.reverse = .inr (.inr o) :: acc ∧ o.1 = kr := by
        unfold mrc at hrc
        rw [show Nat.beq kr 1000 = false from Bool.eq_false_iff.mpr (fun q => by have := Nat.eq_of_beq_eq_true q; omega)] at hrc
        simp only [cond_false] at hrc
        split at hrc
        · rename_i o acc heq
          exact ⟨o, acc, heq, Nat.eq_of_beq_eq_true hrc⟩
        · cases hrc
      obtain ⟨o, acc, hacc, hok⟩ := hacc
      have hbs : bs = acc.reverse ++ [.inr (.inr o)] := by
        have := congrArg List.reverse hacc
        simpa using this
      refine snd_behind hF (S := S') (a := (Value.ref (ad o) :: acc.map (toV ad)).toArray) (rv := rv) (σ' := σ') (jc := jc) (acc := acc) ?_ (fun q => (okS_split q).2) hS1
      intro p e R s m args below meth c H locs cells slots ls C hfr hlo hc hs hRel hSS hsz hokS
      have hM := hCall jc bs.reverse σ rv σ' hRf hPL (okS_split hokS).1 hw2 hcl
      rw [hacc] at hM
      have hoR : okR o := (okS_split hokS).1 (.inr (.inr o)) (by rw [hacc]; exact List.mem_cons_self)
      have := run_virt (S := S') hF hML hfr0 hlo0 (by omega) (by omega) (by rw [hbs] at hlen; simpa using hlen) hw1 hoR hM hd (e := e) (below := below) (meth := meth) C hfr hlo hc hs hRel hSS hsz
      rw [hbs]
      simpa [toV] using this
    · have hcl : (mrow jc).1.cls = cn (mrow jc).2.2.2.2.1 := hML.2.2.2.2.2
      refine snd_behind hF (S := S') (a := (bs.reverse.map (toV ad)).toArray) (rv := rv) (σ' := σ') (jc := jc) (acc := bs) ?_ (fun q => (okS_split q).2) hS1
      intro p e R s m args below meth c H locs cells slots ls C hfr hlo hc hs hRel hSS hsz hokS
      have hM := hCall jc bs.reverse σ rv σ' hRf hPL (okS_split hokS).1 hw2 hcl
      have := run_stat (S := S') hF hML hfr0 hlo0 (by simpa using hlen) hw1 hM hd (e := e) (below := below) (meth := meth) C hfr hlo hc hs hRel hSS hsz
      simpa using this
theorem retB_ok {ret : Nat} {t : Option FieldType} (h : retB ret t = true) : retOk ret t := by
  unfold retB at h
  split at h
  · exact Or.inl ⟨rfl, rfl⟩
  · exact Or.inr (Or.inl ⟨rfl, Or.inl rfl⟩)
  · exact Or.inr (Or.inl ⟨rfl, Or.inr rfl⟩)
  · exact Or.inr (Or.inr ⟨rfl, rfl⟩)
  · cases h
theorem eCall_of {own i k fr lo n jc : Nat} {info : List Nat} (h : eCall own i k fr lo (n :: jc :: info) = true) : ∃ ml ret : Nat, info = [ml, ret] ∧ PLs.contains jc = true ∧ MLok (own, i, jc, k, n) ∧ ml = (mrow jc).2.2.1 ∧ retOk ret (mrow jc).2.2.2.1 ∧ (mrow jc).2.2.2.2.2.1 + 1 ≤ fr ∧ 8 + (ml + 11) + (mrow jc).2.2.2.2.2.2 ≤ lo := by
  unfold eCall at h
  split at h
  · rename_i n' jc' ml ret heq
    cases heq
    obtain ⟨h, h5⟩ := (Bool.and_eq_true _ _).mp h
    obtain ⟨h, h4⟩ := (Bool.and_eq_true _ _).mp h
    obtain ⟨h, h3⟩ := (Bool.and_eq_true _ _).mp h
    obtain ⟨h, h2⟩ := (Bool.and_eq_true _ _).mp h
    obtain ⟨h0, h1⟩ := (Bool.and_eq_true _ _).mp h
    exact ⟨ml, ret, rfl, h0, ML_in h1, Nat.eq_of_beq_eq_true h2, retB_ok h3, Nat.le_of_ble_eq_true h4, Nat.le_of_ble_eq_true h5⟩
  · cases h
theorem snd_B (hF : mFix ad XL A) {Rf : mQ → Option mR} {K : mK} (hCall : CallH l D cy ad xs ys XL Rf) (hK : KOk l D cy ad xs ys XL A b j K) {e : mE} {rest : List mE} (hc : cOk j (e :: rest) = true) {L : List (Option mV)} {S : List mV} {σ : mS} {r : mR} (h : mstepB Rf K e rest L S σ = some r) : SndB l D cy ad xs ys XL A b (j, e.1, L, S, σ) r := by
  obtain ⟨hd, hl, ho, -, hcr⟩ := cOk_inv hc
  obtain ⟨pc, i, len, info, cut⟩ := e
  cases i
  case getfield idx =>
    have hlen : len = 3 := Nat.eq_of_beq_eq_true hl
    subst hlen
    simp only [mstepB] at h
    split at h
    · rename_i o S ci f
      cases hb : Nat.beq o.1 ci
      · rw [hb] at h; cases h
      · rw [hb] at h
        simp only [cond_true] at h
        have ho : FL.contains ((mrow j).2.2.2.2.1, idx, ci, f) = true := ho
        split at h
        · rename_i o' hko
          exact snd_getf hd (FL_in ho) (Nat.eq_of_beq_eq_true hb) (by rw [hko]) (hK.nx hc rfl h)
        · rename_i hko
          exact snd_getf hd (FL_in ho) (Nat.eq_of_beq_eq_true hb) (by rw [hko]) (hK.nx hc rfl h)
    · cases h
  case putfield idx =>
    have hlen : len = 3 := Nat.eq_of_beq_eq_true hl
    subst hlen
    simp only [mstepB] at h
    split at h
    · rename_i x o S ci f
      cases hb : Nat.beq o.1 ci
      · rw [hb] at h; cases h
      · rw [hb] at h
        simp only [cond_true] at h
        have ho : (FL.contains ((mrow j).2.2.2.2.1, idx, ci, f) && !(fT ci f).2.2.2 && decide (fY ci f = .int) && decide (kFld f (ci, 0, 0, 0) = none)) = true := ho
        obtain ⟨ho, h4⟩ := (Bool.and_eq_true _ _).mp ho
        obtain ⟨ho, h3⟩ := (Bool.and_eq_true _ _).mp ho
        obtain ⟨h1, h2⟩ := (Bool.and_eq_true _ _).mp ho
        exact snd_putf hF hd (FL_in h1) (Nat.eq_of_beq_eq_true hb) (by simpa using h2) (of_decide_eq_true h3) rfl rfl (of_decide_eq_true h4) (hK.nx hc rfl h)
    · rename_i x o S ci f z
      cases hb : Nat.beq o.1 ci
      · rw [hb] at h; cases h
      · rw [hb] at h
        simp only [cond_true] at h
        have ho : (FL.contains ((mrow j).2.2.2.2.1, idx, ci, f) && !(fT ci f).2.2.2 && decide (fY ci f = .boolean) && decide (kFld f (ci, 0, 0, 0) = none)) = true := ho
        obtain ⟨ho, h4⟩ := (Bool.and_eq_true _ _).mp ho
        obtain ⟨ho, h3⟩ := (Bool.and_eq_true _ _).mp ho
        obtain ⟨h1, h2⟩ := (Bool.and_eq_true _ _).mp ho
        split at h
        · rename_i hx
          exact snd_putf hF hd (FL_in h1) (Nat.eq_of_beq_eq_true hb) (by simpa using h2) (of_decide_eq_true h3) (by rcases hx with rfl | rfl <;> rfl) (by rcases hx with rfl | rfl <;> rfl) (of_decide_eq_true h4) (hK.nx hc rfl h)
        · cases h
    · cases h
  case getstatic idx =>
    have hlen : len = 3 := Nat.eq_of_beq_eq_true hl
    subst hlen
    simp only [mstepB] at h
    split at h
    · rename_i k
      have ho : (Nat.beq (mrow j).2.2.2.2.1 9 && Nat.beq idx 92 && Nat.beq k 51) = true := ho
      obtain ⟨ho, h3⟩ := (Bool.and_eq_true _ _).mp ho
      obtain ⟨h1, h2⟩ := (Bool.and_eq_true _ _).mp ho
      have hk : k = 51 := Nat.eq_of_beq_eq_true h3
      subst hk
      exact snd_gets (Nat.eq_of_beq_eq_true h1) (Nat.eq_of_beq_eq_true h2) hd (hK.nx hc rfl h)
    · cases h
  case iaload =>
    have hlen : len = 1 := Nat.eq_of_beq_eq_true hl
    subst hlen
    simp only [mstepB] at h
    split at h
    · rename_i i o S
      split at h
      · rename_i n hr
        split at h
        · cases h
        · rename_i hin
          exact snd_rld hr (Or.inl rfl) hin (fun hx hb hK' hP he k' => va_iald hx hb hK' hP _ 0 he rfl (vp_of hin) hd k') (hK.nx hc rfl h)
      · rename_i n hr
        split at h
        · cases h
        · rename_i hin
          exact snd_tld hF hr hin hd (hK.nx hc rfl h)
      · rename_i n hr
        split at h
        · cases h
        · rename_i hin
          exact snd_sld hF hr hin hd (hK.nx hc rfl h)
      · cases h
    · cases h
  case baload =>
    have hlen : len = 1 := Nat.eq_of_beq_eq_true hl
    subst hlen
    simp only [mstepB] at h
    split at h
    · rename_i i o S
      split at h
      · rename_i n hr
        split at h
        · cases h
        · rename_i hin
          exact snd_rld hr (Or.inr (Or.inl rfl)) hin (fun hx hb hK' hP he k' => va_bald hx hb hK' hP _ 1 he rfl (vp_of hin) hd k') (hK.nx hc rfl h)
      · rename_i n hr
        split at h
        · cases h
        · rename_i hin
          exact snd_rld hr (Or.inr (Or.inr rfl)) hin (fun hx hb hK' hP he k' => va_zald hx hb hK' hP _ 2 he rfl (vp_of hin) hd k') (hK.nx hc rfl h)
      · cases h
    · cases h
  case laload =>
    have hlen : len = 1 := Nat.eq_of_beq_eq_true hl
    subst hlen
    simp only [mstepB] at h
    split at h
    · rename_i i o S
      split at h
      · rename_i n hr
        split at h
        · cases h
        · rename_i hin
          exact snd_lld hr hin hd (hK.nx hc rfl h)
      · cases h
    · cases h
  case aaload =>
    have hlen : len = 1 := Nat.eq_of_beq_eq_true hl
    subst hlen
    simp only [mstepB] at h
    split at h
    · rename_i i o S
      split at h
      · rename_i n hr
        split at h
        · cases h
        · rename_i hin
          split at h
          · rename_i o' ho'
            exact snd_ald hr hin ho' hd (hK.nx hc rfl h)
          · cases h
      · cases h
    · cases h
  case iastore =>
    have hlen : len = 1 := Nat.eq_of_beq_eq_true hl
    subst hlen
    simp only [mstepB] at h
    split at h
    · rename_i x i o S
      split at h
      · rename_i n hr
        split at h
        · cases h
        · rename_i hin
          exact snd_rst hF hr (Or.inl rfl) (fun hx hb hK' hP hD hS he k' => va_iast hx hb hK' hP hD hS _ 0 he rfl (vp_of hin) hd (fun H1 l1 h1 _ h3 => k' H1 l1 h1 h3)) (hK.nx hc rfl h)
      · cases h
    · cases h
  case bastore =>
    have hlen : len = 1 := Nat.eq_of_beq_eq_true hl
    subst hlen
    simp only [mstepB] at h
    split at h
    · rename_i x i o S
      split at h
      · rename_i n hr
        split at h
        · cases h
        · rename_i hin
          exact snd_rst hF hr (Or.inr (Or.inl rfl)) (fun hx hb hK' hP hD hS he k' => va_bast hx hb hK' hP hD hS _ 1 he rfl (vp_of hin) hd (fun H1 l1 h1 _ h3 => k' H1 l1 h1 h3)) (hK.nx hc rfl h)
      · rename_i n hr
        split at h
        · cases h
        · rename_i hin
          split at h
          · rename_i hx01
            have hnb : vp_nar .boolean x = x := by rcases hx01 with rfl | rfl <;> rfl
            exact snd_rst hF hr (Or.inr (Or.inr rfl)) (fun hx hb hK' hP hD hS he k' => va_zast hx hb hK' hP hD hS _ 2 he rfl (vp_of hin) hd (fun H1 l1 h1 _ h3 => k' H1 l1 (by rw [hnb] at h1; exact h1) h3)) (hK.nx hc rfl h)
          · cases h
      · cases h
    · cases h
  case lastore =>
    have hlen : len = 1 := Nat.eq_of_beq_eq_true hl
    subst hlen
    simp only [mstepB] at h
    split at h
    · rename_i x i o S
      split at h
      · rename_i n hr
        split at h
        · cases h
        · rename_i hin
          exact snd_lst hF hr hin hd (hK.nx hc rfl h)
      · cases h
    · cases h
  case arraylength =>
    have hlen : len = 1 := Nat.eq_of_beq_eq_true hl
    subst hlen
    simp only [mstepB] at h
    split at h
    · rename_i o S
      split at h
      · rename_i n hr
        exact snd_ilen hr hd (hK.nx hc rfl h)
      · rename_i n hr
        exact snd_slen hF hr hd (hK.nx hc rfl h)
      · cases h
    · cases h
  case invokevirtual idx =>
    have hlen : len = 3 := Nat.eq_of_beq_eq_true hl
    subst hlen
    simp only [mstepB] at h
    split at h
    · rename_i n k info
      cases info with
      | nil => cases ho
      | cons jc info =>
        have ho : (Nat.blt k 11 && Nat.beq k (mrow jc).2.2.2.2.1 && eCall (mrow j).2.2.2.2.1 idx 0 (mrow j).2.2.2.2.2.1 (mrow j).2.2.2.2.2.2 (n :: jc :: info)) = true := ho
        obtain ⟨ho, h3⟩ := (Bool.and_eq_true _ _).mp ho
        obtain ⟨h1, h2⟩ := (Bool.and_eq_true _ _).mp ho
        obtain ⟨ml, ret, rfl, a0, a1, a2, a3, a4, a5⟩ := eCall_of h3
        exact snd_mcall hF hCall a0 a1 (Or.inl ⟨rfl, Nat.le_of_ble_eq_true h1, Nat.eq_of_beq_eq_true h2, hd⟩) a2 a3 a4 a5 (fun L S σ h => hK.nx hc rfl h) h
    · cases h
  case invokestatic idx =>
    have hlen : len = 3 := Nat.eq_of_beq_eq_true hl
    subst hlen
    simp only [mstepB] at h
    split at h
    · have ho : (MM.contains ((mrow j).2.2.2.2.1, idx, 1000) && Nat.ble 1 (mrow j).2.2.2.2.2.1 && Nat.ble 21 (mrow j).2.2.2.2.2.2 && Nat.ble (8 + (nativeFrameWords "java/lang/System" "arraycopy" 5 + 11)) (mrow j).2.2.2.2.2.2) = true := ho
      obtain ⟨ho, h4⟩ := (Bool.and_eq_true _ _).mp ho
      obtain ⟨ho, h3⟩ := (Bool.and_eq_true _ _).mp ho
      obtain ⟨h1, h2⟩ := (Bool.and_eq_true _ _).mp ho
      simp only [ml1] at h
      split at h
      · rename_i y x S
        cases hb : Nat.ble (swords S) 8
        · rw [hb] at h; cases h
        · rw [hb] at h
          exact snd_math (Or.inl rfl) (MM_in h1) (Nat.le_of_ble_eq_true h2) (Nat.le_of_ble_eq_true h3) (Nat.le_of_ble_eq_true hb) hd (hK.nx hc rfl h)
      · cases h
    · have ho : (MM.contains ((mrow j).2.2.2.2.1, idx, 1001) && Nat.ble 1 (mrow j).2.2.2.2.2.1 && Nat.ble 21 (mrow j).2.2.2.2.2.2 && Nat.ble (8 + (nativeFrameWords "java/lang/System" "arraycopy" 5 + 11)) (mrow j).2.2.2.2.2.2) = true := ho
      obtain ⟨ho, h4⟩ := (Bool.and_eq_true _ _).mp ho
      obtain ⟨ho, h3⟩ := (Bool.and_eq_true _ _).mp ho
      obtain ⟨h1, h2⟩ := (Bool.and_eq_true _ _).mp ho
      simp only [ml1] at h
      split at h
      · rename_i y x S
        cases hb : Nat.ble (swords S) 8
        · rw [hb] at h; cases h
        · rw [hb] at h
          exact snd_math (Or.inr rfl) (MM_in h1) (Nat.le_of_ble_eq_true h2) (Nat.le_of_ble_eq_true h3) (Nat.le_of_ble_eq_true hb) hd (hK.nx hc rfl h)
      · cases h
    · have ho : (MM.contains ((mrow j).2.2.2.2.1, idx, 1002) && Nat.ble 1 (mrow j).2.2.2.2.2.1 && Nat.ble 21 (mrow j).2.2.2.2.2.2 && Nat.ble (8 + (nativeFrameWords "java/lang/System" "arraycopy" 5 + 11)) (mrow j).2.2.2.2.2.2) = true := ho
      obtain ⟨ho, h4⟩ := (Bool.and_eq_true _ _).mp ho
      obtain ⟨ho, h3⟩ := (Bool.and_eq_true _ _).mp ho
      obtain ⟨h1, h2⟩ := (Bool.and_eq_true _ _).mp ho
      split at h
      · rename_i nn p2 o2 p1 o1 S
        split at h
        · rename_i n1 n2 hr1 hr2
          cases hb : Nat.ble (swords S) 8
          · rw [hb] at h; cases h
          · rw [hb] at h
            simp only [cond_true] at h
            split at h
            · cases h
            · rename_i hb0
              exact snd_copy hF (MM_in h1) (Nat.le_of_ble_eq_true h2) (Nat.le_of_ble_eq_true h4) (Nat.le_of_ble_eq_true hb) hr1 hr2 hb0 hd (hK.nx hc rfl h)
        · cases h
      · cases h
    · rename_i n info hn1 hn2 hn3
      cases info with
      | nil =>
        obtain ⟨bs, S', -, -, h0⟩ := mcall_inv n [] S r h
        unfold mcall at h0
        cases hb : (Nat.ble (swords S') 8 && Nat.ble (swords (bs.reverse ++ [])) (([] : List Nat).getD 1 0) && mrc 1000 (bs.reverse ++ [])) <;> rw [hb] at h0 <;> cases h0
      | cons jc info =>
        obtain ⟨ml, ret, rfl, a0, a1, a2, a3, a4, a5⟩ := eCall_of (own := (mrow j).2.2.2.2.1) (i := idx) (k := 1) (fr := (mrow j).2.2.2.2.2.1) (lo := (mrow j).2.2.2.2.2.2) (n := n) ho
        exact snd_mcall hF hCall a0 a1 (Or.inr ⟨rfl, rfl, hd⟩) a2 a3 a4 a5 (fun L S σ h => hK.nx hc rfl h) h
    · cases h
  case ireturn =>
    have hlen : len = 1 := Nat.eq_of_beq_eq_true hl
    subst hlen
    simp only [mstepB] at h
    split at h
    · rename_i x
      cases h
      intro p e R s m args below meth c C hfr hlo Q H locs cells slots ls hc hs hRel hSS hLR hokL hokS hfin
      exact hfin H locs cells slots ls _ _ (Nat.le_add_right _ _) (Nat.le_add_right _ _) hRel hSS hLR.1 ⟨hd, rfl, Or.inl (of_decide_eq_true ho)⟩
    · rename_i x hne
      split at h
      · rename_i hx
        cases h
        intro p e R s m args below meth c C hfr hlo Q H locs cells slots ls hc hs hRel hSS hLR hokL hokS hfin
        refine hfin H locs cells slots ls _ _ (Nat.le_add_right _ _) (Nat.le_add_right _ _) hRel hSS hLR.1 ⟨hd, rfl, Or.inr ⟨?_, hx⟩⟩
        cases info with
        | nil => exact absurd rfl hne
        | cons a info => exact of_decide_eq_true ho
      · cases h
    · cases h
  case lreturn =>
    have hlen : len = 1 := Nat.eq_of_beq_eq_true hl
    subst hlen
    simp only [mstepB] at h
    split at h
    · rename_i x
      cases h
      intro p e R s m args below meth c C hfr hlo Q H locs cells slots ls hc hs hRel hSS hLR hokL hokS hfin
      exact hfin H locs cells slots ls _ _ (Nat.le_add_right _ _) (Nat.le_add_right _ _) hRel hSS hLR.1 ⟨hd, rfl, of_decide_eq_true ho⟩
    · cases h
  case return_ =>
    have hlen : len = 1 := Nat.eq_of_beq_eq_true hl
    subst hlen
    simp only [mstepB] at h
    split at h
    · cases h
      intro p e R s m args below meth c C hfr hlo Q H locs cells slots ls hc hs hRel hSS hLR hokL hokS hfin
      exact hfin H locs cells slots ls _ _ (Nat.le_add_right _ _) (Nat.le_add_right _ _) hRel hSS hLR.1 ⟨hd, rfl, of_decide_eq_true ho⟩
    · cases h
  case new idx =>
    have hlen : len = 3 := Nat.eq_of_beq_eq_true hl
    subst hlen
    simp only [mstepB] at h
    split at h
    · cases h
      intro p e R s m args below meth c C hfr hlo Q H locs cells slots ls hc hs hRel hSS hLR hokL hokS hfin
      exact hfin H locs cells slots ls _ _ (Nat.le_add_right _ _) (Nat.le_add_right _ _) hRel hSS hLR.1 ⟨idx, hd, rfl⟩
    · cases h
  all_goals (cases h; done)
theorem goF_ok {Rf : mQ → Option mR} {k : mK} (hR : ∀ q r, Rf q = some r → q.1 = j → SndB l D cy ad xs ys XL A b q r) (hK : KOk l D cy ad xs ys XL A b j k) : KOk l D cy ad xs ys XL A b j (goF Rf j k) := by
  intro rest L S σ r hc h
  unfold goF at h
  split at h
  · cases h
  · rename_i e rest'
    split at h
    · exact hK _ L S σ r hc h
    · exact ⟨e, rest', rfl, (hR _ _ h rfl).mask⟩
theorem stepN_ok (hF : mFix ad XL A) {Rf : mQ → Option mR} (hR : ∀ q r, Rf q = some r → q.1 = j → SndB l D cy ad xs ys XL A b q r) (hCall : CallH l D cy ad xs ys XL Rf) : ∀ n, KOk l D cy ad xs ys XL A b j (stepN Rf j n)
  | 0 => fun rest L S σ r hc h => by unfold stepN at h; cases h
  | n + 1 => fun rest L S σ r hc h => by
    cases rest with
    | nil => unfold stepN at h; cases h
    | cons e rest =>
      unfold stepN at h
      refine ⟨e, rest, rfl, ?_⟩
      cases hb : mGrp e.2.1
      · rw [hb] at h
        exact snd_A hR (goF_ok hR (stepN_ok hF hR hCall n)) hc h
      · rw [hb] at h
        exact snd_B hF hCall (goF_ok hR (stepN_ok hF hR hCall n)) hc h
theorem block_ok (hF : mFix ad XL A) {Rf : mQ → Option mR} {pc : Nat} {L : List (Option mV)} {S : List mV} {σ : mS} {r : mR} (hcj : cOk j (mcode j) = true) (hR : ∀ q r, Rf q = some r → q.1 = j → SndB l D cy ad xs ys XL A b q r) (hCall : CallH l D cy ad xs ys XL Rf) (h : mblockOf mcode Rf (j, pc, L, S, σ) = some r) : SndB l D cy ad xs ys XL A b (j, pc, L, S, σ) r := by
  obtain ⟨e, rest, he, hS⟩ := stepN_ok hF hR hCall 3000 _ L S σ r (cOk_drop _ pc hcj) h
  have := dropTo_head _ _ _ _ he
  rw [← this]
  exact hS
/-- what the small machine answers, the machine answers -/
theorem snd_all (hF : mFix ad XL (mA ad)) (hPL : ∀ jc, PLs.contains jc = true → cOk jc (mcode jc) = true) {q : mQ} {r : mR} (h : EvR mcode q r) : cOk q.1 (mcode q.1) = true → SndB l D cy ad xs ys XL (mA ad) 0 q r := by
  refine h (fun q r => cOk q.1 (mcode q.1) = true → SndB l D cy ad xs ys XL (mA ad) 0 q r) ?_
  intro Rf q r hR hb hcj
  obtain ⟨j, pc, L, S, σ⟩ := q
  refine block_ok hF hcj (fun q' r' h' hj => hR q' r' h' (by rw [hj]; exact hcj)) ?_ hb
  intro jc acc σ rv σ' h' hpl hok hw hcl
  exact met_of (hR _ _ h' (hPL jc hpl)) hcl hok hw
end SE
end
