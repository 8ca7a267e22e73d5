section
-- ===== PART A: goes FIRST, ahead of the names: the tables' words, and 'selects' of the private methods out of them =====
/-- a private method of a class that the tables say can be made, by its rows of tables_1 -/
def lw_okq (q : MethodName × Nat) : Prop := (q.1.cls ≠ "java/lang/invoke/MethodHandle" ∧ q.1.cls ≠ "java/lang/invoke/VarHandle") ∧ Cond.instantiable q.1.cls q.2 ∈ tables_1 ∧ Cond.privateMethod q.1 ∈ tables_1 ∧ Cond.instanceMethod q.1 ∈ tables_1
theorem lw_p0 : lw_okq (⟨"DoorsBehind", "found", "(I)I"⟩, 16) := ⟨⟨by decide +kernel, by decide +kernel⟩, List.mem_of_getElem? (i := 18) (by decide +kernel), List.mem_of_getElem? (i := 258) (by decide +kernel), List.mem_of_getElem? (i := 259) (by decide +kernel)⟩
theorem lw_p1 : lw_okq (⟨"DoorsBehind", "well", "(I)I"⟩, 16) := ⟨⟨by decide +kernel, by decide +kernel⟩, List.mem_of_getElem? (i := 18) (by decide +kernel), List.mem_of_getElem? (i := 271) (by decide +kernel), List.mem_of_getElem? (i := 272) (by decide +kernel)⟩
theorem lw_p2 : lw_okq (⟨"DoorsBehind$Reader", "readLaw", "()V"⟩, 5) := ⟨⟨by decide +kernel, by decide +kernel⟩, List.mem_of_getElem? (i := 28) (by decide +kernel), List.mem_of_getElem? (i := 333) (by decide +kernel), List.mem_of_getElem? (i := 334) (by decide +kernel)⟩
theorem lw_p3 : lw_okq (⟨"DoorsBehind$Reader", "readSign", "(I)V"⟩, 5) := ⟨⟨by decide +kernel, by decide +kernel⟩, List.mem_of_getElem? (i := 28) (by decide +kernel), List.mem_of_getElem? (i := 337) (by decide +kernel), List.mem_of_getElem? (i := 338) (by decide +kernel)⟩
theorem lw_p4 : lw_okq (⟨"DoorsBehind$Reader", "sees", "(I)Z"⟩, 5) := ⟨⟨by decide +kernel, by decide +kernel⟩, List.mem_of_getElem? (i := 28) (by decide +kernel), List.mem_of_getElem? (i := 341) (by decide +kernel), List.mem_of_getElem? (i := 342) (by decide +kernel)⟩
theorem lw_p5 : lw_okq (⟨"DoorsBehind$Reader", "signHere", "()I"⟩, 5) := ⟨⟨by decide +kernel, by decide +kernel⟩, List.mem_of_getElem? (i := 28) (by decide +kernel), List.mem_of_getElem? (i := 345) (by decide +kernel), List.mem_of_getElem? (i := 346) (by decide +kernel)⟩
theorem lw_p6 : lw_okq (⟨"DoorsBehind$Reader", "fail", "(I)V"⟩, 5) := ⟨⟨by decide +kernel, by decide +kernel⟩, List.mem_of_getElem? (i := 28) (by decide +kernel), List.mem_of_getElem? (i := 349) (by decide +kernel), List.mem_of_getElem? (i := 350) (by decide +kernel)⟩
theorem lw_p7 : lw_okq (⟨"DoorsBehind$Reader", "readNumber", "(III)I"⟩, 5) := ⟨⟨by decide +kernel, by decide +kernel⟩, List.mem_of_getElem? (i := 28) (by decide +kernel), List.mem_of_getElem? (i := 353) (by decide +kernel), List.mem_of_getElem? (i := 354) (by decide +kernel)⟩
theorem lw_p8 : lw_okq (⟨"DoorsBehind$Reader", "figures", "()I"⟩, 5) := ⟨⟨by decide +kernel, by decide +kernel⟩, List.mem_of_getElem? (i := 28) (by decide +kernel), List.mem_of_getElem? (i := 357) (by decide +kernel), List.mem_of_getElem? (i := 358) (by decide +kernel)⟩
theorem lw_p9 : lw_okq (⟨"DoorsBehind$Reader", "readRoom", "()V"⟩, 5) := ⟨⟨by decide +kernel, by decide +kernel⟩, List.mem_of_getElem? (i := 28) (by decide +kernel), List.mem_of_getElem? (i := 361) (by decide +kernel), List.mem_of_getElem? (i := 362) (by decide +kernel)⟩
theorem lw_p10 : lw_okq (⟨"DoorsBehind$Reader", "sortSeen", "()I"⟩, 5) := ⟨⟨by decide +kernel, by decide +kernel⟩, List.mem_of_getElem? (i := 28) (by decide +kernel), List.mem_of_getElem? (i := 369) (by decide +kernel), List.mem_of_getElem? (i := 370) (by decide +kernel)⟩
theorem lw_p11 : lw_okq (⟨"DoorsBehind$Reader", "readDoor", "()V"⟩, 5) := ⟨⟨by decide +kernel, by decide +kernel⟩, List.mem_of_getElem? (i := 28) (by decide +kernel), List.mem_of_getElem? (i := 373) (by decide +kernel), List.mem_of_getElem? (i := 374) (by decide +kernel)⟩
theorem lw_p12 : lw_okq (⟨"DoorsBehind", "forgetActs", "()V"⟩, 16) := ⟨⟨by decide +kernel, by decide +kernel⟩, List.mem_of_getElem? (i := 18) (by decide +kernel), List.mem_of_getElem? (i := 473) (by decide +kernel), List.mem_of_getElem? (i := 474) (by decide +kernel)⟩
theorem lw_p13 : lw_okq (⟨"DoorsBehind", "lackOfRoute", "(III)I"⟩, 16) := ⟨⟨by decide +kernel, by decide +kernel⟩, List.mem_of_getElem? (i := 18) (by decide +kernel), List.mem_of_getElem? (i := 501) (by decide +kernel), List.mem_of_getElem? (i := 502) (by decide +kernel)⟩
theorem lw_p14 : lw_okq (⟨"DoorsBehind", "keepAct", "()V"⟩, 16) := ⟨⟨by decide +kernel, by decide +kernel⟩, List.mem_of_getElem? (i := 18) (by decide +kernel), List.mem_of_getElem? (i := 505) (by decide +kernel), List.mem_of_getElem? (i := 506) (by decide +kernel)⟩
theorem lw_p15 : lw_okq (⟨"DoorsBehind$Walk", "begin", "()V"⟩, 11) := ⟨⟨by decide +kernel, by decide +kernel⟩, List.mem_of_getElem? (i := 110) (by decide +kernel), List.mem_of_getElem? (i := 513) (by decide +kernel), List.mem_of_getElem? (i := 514) (by decide +kernel)⟩
def lw_privs_1 : List (MethodName × Nat) := [(⟨"DoorsBehind", "found", "(I)I"⟩, 16), (⟨"DoorsBehind", "well", "(I)I"⟩, 16), (⟨"DoorsBehind$Reader", "readLaw", "()V"⟩, 5), (⟨"DoorsBehind$Reader", "readSign", "(I)V"⟩, 5), (⟨"DoorsBehind$Reader", "sees", "(I)Z"⟩, 5), (⟨"DoorsBehind$Reader", "signHere", "()I"⟩, 5), (⟨"DoorsBehind$Reader", "fail", "(I)V"⟩, 5), (⟨"DoorsBehind$Reader", "readNumber", "(III)I"⟩, 5), (⟨"DoorsBehind$Reader", "figures", "()I"⟩, 5), (⟨"DoorsBehind$Reader", "readRoom", "()V"⟩, 5), (⟨"DoorsBehind$Reader", "sortSeen", "()I"⟩, 5), (⟨"DoorsBehind$Reader", "readDoor", "()V"⟩, 5), (⟨"DoorsBehind", "forgetActs", "()V"⟩, 16), (⟨"DoorsBehind", "lackOfRoute", "(III)I"⟩, 16), (⟨"DoorsBehind", "keepAct", "()V"⟩, 16), (⟨"DoorsBehind$Walk", "begin", "()V"⟩, 11)]
theorem lw_r1 : ∀ q ∈ lw_privs_1, lw_okq q := List.forall_mem_cons.mpr ⟨lw_p0, List.forall_mem_cons.mpr ⟨lw_p1, List.forall_mem_cons.mpr ⟨lw_p2, List.forall_mem_cons.mpr ⟨lw_p3, List.forall_mem_cons.mpr ⟨lw_p4, List.forall_mem_cons.mpr ⟨lw_p5, List.forall_mem_cons.mpr ⟨lw_p6, List.forall_mem_cons.mpr ⟨lw_p7, List.forall_mem_cons.mpr ⟨lw_p8, List.forall_mem_cons.mpr ⟨lw_p9, List.forall_mem_cons.mpr ⟨lw_p10, List.forall_mem_cons.mpr ⟨lw_p11, List.forall_mem_cons.mpr ⟨lw_p12, List.forall_mem_cons.mpr ⟨lw_p13, List.forall_mem_cons.mpr ⟨lw_p14, List.forall_mem_cons.mpr ⟨lw_p15, fun _ h => absurd h List.not_mem_nil⟩⟩⟩⟩⟩⟩⟩⟩⟩⟩⟩⟩⟩⟩⟩⟩
theorem lw_p16 : lw_okq (⟨"DoorsBehind$Walk", "pass", "(I)I"⟩, 11) := ⟨⟨by decide +kernel, by decide +kernel⟩, List.mem_of_getElem? (i := 110) (by decide +kernel), List.mem_of_getElem? (i := 518) (by decide +kernel), List.mem_of_getElem? (i := 519) (by decide +kernel)⟩
theorem lw_p17 : lw_okq (⟨"DoorsBehind$Walk", "open", "(LDoorsBehind$Door;)I"⟩, 11) := ⟨⟨by decide +kernel, by decide +kernel⟩, List.mem_of_getElem? (i := 110) (by decide +kernel), List.mem_of_getElem? (i := 539) (by decide +kernel), List.mem_of_getElem? (i := 540) (by decide +kernel)⟩
theorem lw_p18 : lw_okq (⟨"DoorsBehind$Walk", "take", "()I"⟩, 11) := ⟨⟨by decide +kernel, by decide +kernel⟩, List.mem_of_getElem? (i := 110) (by decide +kernel), List.mem_of_getElem? (i := 608) (by decide +kernel), List.mem_of_getElem? (i := 609) (by decide +kernel)⟩
theorem lw_p19 : lw_okq (⟨"DoorsBehind", "foretell", "([III)V"⟩, 16) := ⟨⟨by decide +kernel, by decide +kernel⟩, List.mem_of_getElem? (i := 18) (by decide +kernel), List.mem_of_getElem? (i := 671) (by decide +kernel), List.mem_of_getElem? (i := 672) (by decide +kernel)⟩
theorem lw_p20 : lw_okq (⟨"DoorsBehind", "findWay", "(IIII)Z"⟩, 16) := ⟨⟨by decide +kernel, by decide +kernel⟩, List.mem_of_getElem? (i := 18) (by decide +kernel), List.mem_of_getElem? (i := 683) (by decide +kernel), List.mem_of_getElem? (i := 684) (by decide +kernel)⟩
theorem lw_p21 : lw_okq (⟨"DoorsBehind", "playTurns", "(II)I"⟩, 16) := ⟨⟨by decide +kernel, by decide +kernel⟩, List.mem_of_getElem? (i := 18) (by decide +kernel), List.mem_of_getElem? (i := 718) (by decide +kernel), List.mem_of_getElem? (i := 719) (by decide +kernel)⟩
theorem lw_p22 : lw_okq (⟨"DoorsBehind", "kindsFor", "(I[IIII)I"⟩, 16) := ⟨⟨by decide +kernel, by decide +kernel⟩, List.mem_of_getElem? (i := 18) (by decide +kernel), List.mem_of_getElem? (i := 730) (by decide +kernel), List.mem_of_getElem? (i := 731) (by decide +kernel)⟩
theorem lw_p23 : lw_okq (⟨"DoorsBehind", "numbersFor", "(I[IIII)I"⟩, 16) := ⟨⟨by decide +kernel, by decide +kernel⟩, List.mem_of_getElem? (i := 18) (by decide +kernel), List.mem_of_getElem? (i := 742) (by decide +kernel), List.mem_of_getElem? (i := 743) (by decide +kernel)⟩
theorem lw_p24 : lw_okq (⟨"DoorsBehind", "keysFor", "(Z[IIII)I"⟩, 16) := ⟨⟨by decide +kernel, by decide +kernel⟩, List.mem_of_getElem? (i := 18) (by decide +kernel), List.mem_of_getElem? (i := 768) (by decide +kernel), List.mem_of_getElem? (i := 769) (by decide +kernel)⟩
theorem lw_p25 : lw_okq (⟨"DoorsBehind", "goDrawn", "(J)V"⟩, 16) := ⟨⟨by decide +kernel, by decide +kernel⟩, List.mem_of_getElem? (i := 18) (by decide +kernel), List.mem_of_getElem? (i := 791) (by decide +kernel), List.mem_of_getElem? (i := 792) (by decide +kernel)⟩
theorem lw_p26 : lw_okq (⟨"DoorsBehind", "rowsThere", "()I"⟩, 16) := ⟨⟨by decide +kernel, by decide +kernel⟩, List.mem_of_getElem? (i := 18) (by decide +kernel), List.mem_of_getElem? (i := 899) (by decide +kernel), List.mem_of_getElem? (i := 900) (by decide +kernel)⟩
theorem lw_p27 : lw_okq (⟨"DoorsBehindModel", "finding", "(I)I"⟩, 32) := ⟨⟨by decide +kernel, by decide +kernel⟩, List.mem_of_getElem? (i := 911) (by decide +kernel), List.mem_of_getElem? (i := 1028) (by decide +kernel), List.mem_of_getElem? (i := 1029) (by decide +kernel)⟩
theorem lw_p28 : lw_okq (⟨"DoorsBehindModel", "begin", "()V"⟩, 32) := ⟨⟨by decide +kernel, by decide +kernel⟩, List.mem_of_getElem? (i := 911) (by decide +kernel), List.mem_of_getElem? (i := 1059) (by decide +kernel), List.mem_of_getElem? (i := 1060) (by decide +kernel)⟩
theorem lw_p29 : lw_okq (⟨"DoorsBehindModel", "nextToken", "()V"⟩, 32) := ⟨⟨by decide +kernel, by decide +kernel⟩, List.mem_of_getElem? (i := 911) (by decide +kernel), List.mem_of_getElem? (i := 1063) (by decide +kernel), List.mem_of_getElem? (i := 1064) (by decide +kernel)⟩
theorem lw_p30 : lw_okq (⟨"DoorsBehindModel", "isLetter", "(I)Z"⟩, 32) := ⟨⟨by decide +kernel, by decide +kernel⟩, List.mem_of_getElem? (i := 911) (by decide +kernel), List.mem_of_getElem? (i := 1072) (by decide +kernel), List.mem_of_getElem? (i := 1073) (by decide +kernel)⟩
theorem lw_p31 : lw_okq (⟨"DoorsBehindModel", "must", "(Z)V"⟩, 32) := ⟨⟨by decide +kernel, by decide +kernel⟩, List.mem_of_getElem? (i := 911) (by decide +kernel), List.mem_of_getElem? (i := 1076) (by decide +kernel), List.mem_of_getElem? (i := 1077) (by decide +kernel)⟩
def lw_privs_2 : List (MethodName × Nat) := [(⟨"DoorsBehind$Walk", "pass", "(I)I"⟩, 11), (⟨"DoorsBehind$Walk", "open", "(LDoorsBehind$Door;)I"⟩, 11), (⟨"DoorsBehind$Walk", "take", "()I"⟩, 11), (⟨"DoorsBehind", "foretell", "([III)V"⟩, 16), (⟨"DoorsBehind", "findWay", "(IIII)Z"⟩, 16), (⟨"DoorsBehind", "playTurns", "(II)I"⟩, 16), (⟨"DoorsBehind", "kindsFor", "(I[IIII)I"⟩, 16), (⟨"DoorsBehind", "numbersFor", "(I[IIII)I"⟩, 16), (⟨"DoorsBehind", "keysFor", "(Z[IIII)I"⟩, 16), (⟨"DoorsBehind", "goDrawn", "(J)V"⟩, 16), (⟨"DoorsBehind", "rowsThere", "()I"⟩, 16), (⟨"DoorsBehindModel", "finding", "(I)I"⟩, 32), (⟨"DoorsBehindModel", "begin", "()V"⟩, 32), (⟨"DoorsBehindModel", "nextToken", "()V"⟩, 32), (⟨"DoorsBehindModel", "isLetter", "(I)Z"⟩, 32), (⟨"DoorsBehindModel", "must", "(Z)V"⟩, 32)]
theorem lw_r2 : ∀ q ∈ lw_privs_2, lw_okq q := List.forall_mem_cons.mpr ⟨lw_p16, List.forall_mem_cons.mpr ⟨lw_p17, List.forall_mem_cons.mpr ⟨lw_p18, List.forall_mem_cons.mpr ⟨lw_p19, List.forall_mem_cons.mpr ⟨lw_p20, List.forall_mem_cons.mpr ⟨lw_p21, List.forall_mem_cons.mpr ⟨lw_p22, List.forall_mem_cons.mpr ⟨lw_p23, List.forall_mem_cons.mpr ⟨lw_p24, List.forall_mem_cons.mpr ⟨lw_p25, List.forall_mem_cons.mpr ⟨lw_p26, List.forall_mem_cons.mpr ⟨lw_p27, List.forall_mem_cons.mpr ⟨lw_p28, List.forall_mem_cons.mpr ⟨lw_p29, List.forall_mem_cons.mpr ⟨lw_p30, List.forall_mem_cons.mpr ⟨lw_p31, fun _ h => absurd h List.not_mem_nil⟩⟩⟩⟩⟩⟩⟩⟩⟩⟩⟩⟩⟩⟩⟩⟩
theorem lw_p32 : lw_okq (⟨"DoorsBehindModel", "bad", "(I)V"⟩, 32) := ⟨⟨by decide +kernel, by decide +kernel⟩, List.mem_of_getElem? (i := 911) (by decide +kernel), List.mem_of_getElem? (i := 1080) (by decide +kernel), List.mem_of_getElem? (i := 1081) (by decide +kernel)⟩
theorem lw_p33 : lw_okq (⟨"DoorsBehindModel", "number", "(II)I"⟩, 32) := ⟨⟨by decide +kernel, by decide +kernel⟩, List.mem_of_getElem? (i := 911) (by decide +kernel), List.mem_of_getElem? (i := 1084) (by decide +kernel), List.mem_of_getElem? (i := 1085) (by decide +kernel)⟩
theorem lw_p34 : lw_okq (⟨"DoorsBehindModel", "mustSign", "(I)V"⟩, 32) := ⟨⟨by decide +kernel, by decide +kernel⟩, List.mem_of_getElem? (i := 911) (by decide +kernel), List.mem_of_getElem? (i := 1088) (by decide +kernel), List.mem_of_getElem? (i := 1089) (by decide +kernel)⟩
theorem lw_p35 : lw_okq (⟨"DoorsBehindModel", "isRoomNext", "()Z"⟩, 32) := ⟨⟨by decide +kernel, by decide +kernel⟩, List.mem_of_getElem? (i := 911) (by decide +kernel), List.mem_of_getElem? (i := 1092) (by decide +kernel), List.mem_of_getElem? (i := 1093) (by decide +kernel)⟩
theorem lw_p36 : lw_okq (⟨"DoorsBehindModel", "readRoom", "()V"⟩, 32) := ⟨⟨by decide +kernel, by decide +kernel⟩, List.mem_of_getElem? (i := 911) (by decide +kernel), List.mem_of_getElem? (i := 1096) (by decide +kernel), List.mem_of_getElem? (i := 1097) (by decide +kernel)⟩
theorem lw_p37 : lw_okq (⟨"DoorsBehindModel", "isSort", "()Z"⟩, 32) := ⟨⟨by decide +kernel, by decide +kernel⟩, List.mem_of_getElem? (i := 911) (by decide +kernel), List.mem_of_getElem? (i := 1100) (by decide +kernel), List.mem_of_getElem? (i := 1101) (by decide +kernel)⟩
theorem lw_p38 : lw_okq (⟨"DoorsBehindModel", "readDoor", "()V"⟩, 32) := ⟨⟨by decide +kernel, by decide +kernel⟩, List.mem_of_getElem? (i := 911) (by decide +kernel), List.mem_of_getElem? (i := 1107) (by decide +kernel), List.mem_of_getElem? (i := 1108) (by decide +kernel)⟩
theorem lw_p39 : lw_okq (⟨"DoorsBehindModel", "otherRoom", "(I)I"⟩, 32) := ⟨⟨by decide +kernel, by decide +kernel⟩, List.mem_of_getElem? (i := 911) (by decide +kernel), List.mem_of_getElem? (i := 1111) (by decide +kernel), List.mem_of_getElem? (i := 1112) (by decide +kernel)⟩
theorem lw_p40 : lw_okq (⟨"DoorsBehindModel", "failed", "()Z"⟩, 32) := ⟨⟨by decide +kernel, by decide +kernel⟩, List.mem_of_getElem? (i := 911) (by decide +kernel), List.mem_of_getElem? (i := 1115) (by decide +kernel), List.mem_of_getElem? (i := 1116) (by decide +kernel)⟩
theorem lw_p41 : lw_okq (⟨"DoorsBehindModel", "isThere", "()Z"⟩, 32) := ⟨⟨by decide +kernel, by decide +kernel⟩, List.mem_of_getElem? (i := 911) (by decide +kernel), List.mem_of_getElem? (i := 1124) (by decide +kernel), List.mem_of_getElem? (i := 1125) (by decide +kernel)⟩
theorem lw_p42 : lw_okq (⟨"DoorsBehindModel", "rowFound", "(III)I"⟩, 32) := ⟨⟨by decide +kernel, by decide +kernel⟩, List.mem_of_getElem? (i := 911) (by decide +kernel), List.mem_of_getElem? (i := 1133) (by decide +kernel), List.mem_of_getElem? (i := 1134) (by decide +kernel)⟩
theorem lw_p43 : lw_okq (⟨"DoorsBehindModel", "keep", "()V"⟩, 32) := ⟨⟨by decide +kernel, by decide +kernel⟩, List.mem_of_getElem? (i := 911) (by decide +kernel), List.mem_of_getElem? (i := 1137) (by decide +kernel), List.mem_of_getElem? (i := 1138) (by decide +kernel)⟩
theorem lw_p44 : lw_okq (⟨"DoorsBehindModel", "goOut", "([II)I"⟩, 32) := ⟨⟨by decide +kernel, by decide +kernel⟩, List.mem_of_getElem? (i := 911) (by decide +kernel), List.mem_of_getElem? (i := 1141) (by decide +kernel), List.mem_of_getElem? (i := 1142) (by decide +kernel)⟩
theorem lw_p45 : lw_okq (⟨"DoorsBehindModel", "goThrough", "([II)I"⟩, 32) := ⟨⟨by decide +kernel, by decide +kernel⟩, List.mem_of_getElem? (i := 911) (by decide +kernel), List.mem_of_getElem? (i := 1145) (by decide +kernel), List.mem_of_getElem? (i := 1146) (by decide +kernel)⟩
theorem lw_p46 : lw_okq (⟨"DoorsBehindModel", "isOpen", "(I)Z"⟩, 32) := ⟨⟨by decide +kernel, by decide +kernel⟩, List.mem_of_getElem? (i := 911) (by decide +kernel), List.mem_of_getElem? (i := 1152) (by decide +kernel), List.mem_of_getElem? (i := 1153) (by decide +kernel)⟩
theorem lw_p47 : lw_okq (⟨"DoorsBehindModel", "open", "([II)I"⟩, 32) := ⟨⟨by decide +kernel, by decide +kernel⟩, List.mem_of_getElem? (i := 911) (by decide +kernel), List.mem_of_getElem? (i := 1156) (by decide +kernel), List.mem_of_getElem? (i := 1157) (by decide +kernel)⟩
def lw_privs_3 : List (MethodName × Nat) := [(⟨"DoorsBehindModel", "bad", "(I)V"⟩, 32), (⟨"DoorsBehindModel", "number", "(II)I"⟩, 32), (⟨"DoorsBehindModel", "mustSign", "(I)V"⟩, 32), (⟨"DoorsBehindModel", "isRoomNext", "()Z"⟩, 32), (⟨"DoorsBehindModel", "readRoom", "()V"⟩, 32), (⟨"DoorsBehindModel", "isSort", "()Z"⟩, 32), (⟨"DoorsBehindModel", "readDoor", "()V"⟩, 32), (⟨"DoorsBehindModel", "otherRoom", "(I)I"⟩, 32), (⟨"DoorsBehindModel", "failed", "()Z"⟩, 32), (⟨"DoorsBehindModel", "isThere", "()Z"⟩, 32), (⟨"DoorsBehindModel", "rowFound", "(III)I"⟩, 32), (⟨"DoorsBehindModel", "keep", "()V"⟩, 32), (⟨"DoorsBehindModel", "goOut", "([II)I"⟩, 32), (⟨"DoorsBehindModel", "goThrough", "([II)I"⟩, 32), (⟨"DoorsBehindModel", "isOpen", "(I)Z"⟩, 32), (⟨"DoorsBehindModel", "open", "([II)I"⟩, 32)]
theorem lw_r3 : ∀ q ∈ lw_privs_3, lw_okq q := List.forall_mem_cons.mpr ⟨lw_p32, List.forall_mem_cons.mpr ⟨lw_p33, List.forall_mem_cons.mpr ⟨lw_p34, List.forall_mem_cons.mpr ⟨lw_p35, List.forall_mem_cons.mpr ⟨lw_p36, List.forall_mem_cons.mpr ⟨lw_p37, List.forall_mem_cons.mpr ⟨lw_p38, List.forall_mem_cons.mpr ⟨lw_p39, List.forall_mem_cons.mpr ⟨lw_p40, List.forall_mem_cons.mpr ⟨lw_p41, List.forall_mem_cons.mpr ⟨lw_p42, List.forall_mem_cons.mpr ⟨lw_p43, List.forall_mem_cons.mpr ⟨lw_p44, List.forall_mem_cons.mpr ⟨lw_p45, List.forall_mem_cons.mpr ⟨lw_p46, List.forall_mem_cons.mpr ⟨lw_p47, fun _ h => absurd h List.not_mem_nil⟩⟩⟩⟩⟩⟩⟩⟩⟩⟩⟩⟩⟩⟩⟩⟩
theorem lw_p48 : lw_okq (⟨"DoorsBehindModel", "draughtNow", "([I)I"⟩, 32) := ⟨⟨by decide +kernel, by decide +kernel⟩, List.mem_of_getElem? (i := 911) (by decide +kernel), List.mem_of_getElem? (i := 1169) (by decide +kernel), List.mem_of_getElem? (i := 1170) (by decide +kernel)⟩
theorem lw_p49 : lw_okq (⟨"DoorsBehindModel", "writes", "(I)V"⟩, 32) := ⟨⟨by decide +kernel, by decide +kernel⟩, List.mem_of_getElem? (i := 911) (by decide +kernel), List.mem_of_getElem? (i := 1176) (by decide +kernel), List.mem_of_getElem? (i := 1177) (by decide +kernel)⟩
theorem lw_p50 : lw_okq (⟨"DoorsBehindModel", "isDoor", "(I)Z"⟩, 32) := ⟨⟨by decide +kernel, by decide +kernel⟩, List.mem_of_getElem? (i := 911) (by decide +kernel), List.mem_of_getElem? (i := 1188) (by decide +kernel), List.mem_of_getElem? (i := 1189) (by decide +kernel)⟩
theorem lw_p51 : lw_okq (⟨"DoorsBehindModel", "isRoom", "(I)Z"⟩, 32) := ⟨⟨by decide +kernel, by decide +kernel⟩, List.mem_of_getElem? (i := 911) (by decide +kernel), List.mem_of_getElem? (i := 1196) (by decide +kernel), List.mem_of_getElem? (i := 1197) (by decide +kernel)⟩
theorem lw_p52 : lw_okq (⟨"DoorsBehindModel", "layThen", "()V"⟩, 32) := ⟨⟨by decide +kernel, by decide +kernel⟩, List.mem_of_getElem? (i := 911) (by decide +kernel), List.mem_of_getElem? (i := 1228) (by decide +kernel), List.mem_of_getElem? (i := 1229) (by decide +kernel)⟩
theorem lw_p53 : lw_okq (⟨"DoorsBehindModel", "isWell", "(II)Z"⟩, 32) := ⟨⟨by decide +kernel, by decide +kernel⟩, List.mem_of_getElem? (i := 911) (by decide +kernel), List.mem_of_getElem? (i := 1236) (by decide +kernel), List.mem_of_getElem? (i := 1237) (by decide +kernel)⟩
theorem lw_p54 : lw_okq (⟨"DoorsBehindModel", "sleepFor", "(I)I"⟩, 32) := ⟨⟨by decide +kernel, by decide +kernel⟩, List.mem_of_getElem? (i := 911) (by decide +kernel), List.mem_of_getElem? (i := 1244) (by decide +kernel), List.mem_of_getElem? (i := 1245) (by decide +kernel)⟩
theorem lw_p55 : lw_okq (⟨"DoorsBehindModel", "keysFor", "(II)I"⟩, 32) := ⟨⟨by decide +kernel, by decide +kernel⟩, List.mem_of_getElem? (i := 911) (by decide +kernel), List.mem_of_getElem? (i := 1248) (by decide +kernel), List.mem_of_getElem? (i := 1249) (by decide +kernel)⟩
theorem lw_p56 : lw_okq (⟨"DoorsBehindModel", "afterTurns", "(III)I"⟩, 32) := ⟨⟨by decide +kernel, by decide +kernel⟩, List.mem_of_getElem? (i := 911) (by decide +kernel), List.mem_of_getElem? (i := 1270) (by decide +kernel), List.mem_of_getElem? (i := 1271) (by decide +kernel)⟩
theorem lw_p57 : lw_okq (⟨"DoorsBehindModel", "doesComeTo", "(II)Z"⟩, 32) := ⟨⟨by decide +kernel, by decide +kernel⟩, List.mem_of_getElem? (i := 911) (by decide +kernel), List.mem_of_getElem? (i := 1280) (by decide +kernel), List.mem_of_getElem? (i := 1281) (by decide +kernel)⟩
theorem lw_p58 : lw_okq (⟨"DoorsBehindModel", "sizeOf", "(I)I"⟩, 32) := ⟨⟨by decide +kernel, by decide +kernel⟩, List.mem_of_getElem? (i := 911) (by decide +kernel), List.mem_of_getElem? (i := 1323) (by decide +kernel), List.mem_of_getElem? (i := 1324) (by decide +kernel)⟩
theorem lw_p59 : lw_okq (⟨"DoorsBehindModel", "lockSize", "(I)I"⟩, 32) := ⟨⟨by decide +kernel, by decide +kernel⟩, List.mem_of_getElem? (i := 911) (by decide +kernel), List.mem_of_getElem? (i := 1327) (by decide +kernel), List.mem_of_getElem? (i := 1328) (by decide +kernel)⟩
theorem lw_p60 : lw_okq (⟨"DoorsBehindModel", "began", "(I)V"⟩, 32) := ⟨⟨by decide +kernel, by decide +kernel⟩, List.mem_of_getElem? (i := 911) (by decide +kernel), List.mem_of_getElem? (i := 1331) (by decide +kernel), List.mem_of_getElem? (i := 1332) (by decide +kernel)⟩
theorem lw_p61 : lw_okq (⟨"DoorsBehindModel", "plainSize", "(I)I"⟩, 32) := ⟨⟨by decide +kernel, by decide +kernel⟩, List.mem_of_getElem? (i := 911) (by decide +kernel), List.mem_of_getElem? (i := 1335) (by decide +kernel), List.mem_of_getElem? (i := 1336) (by decide +kernel)⟩
theorem lw_p62 : lw_okq (⟨"DoorsBehindModel", "markOf", "(I)I"⟩, 32) := ⟨⟨by decide +kernel, by decide +kernel⟩, List.mem_of_getElem? (i := 911) (by decide +kernel), List.mem_of_getElem? (i := 1339) (by decide +kernel), List.mem_of_getElem? (i := 1340) (by decide +kernel)⟩
def lw_privs_4 : List (MethodName × Nat) := [(⟨"DoorsBehindModel", "draughtNow", "([I)I"⟩, 32), (⟨"DoorsBehindModel", "writes", "(I)V"⟩, 32), (⟨"DoorsBehindModel", "isDoor", "(I)Z"⟩, 32), (⟨"DoorsBehindModel", "isRoom", "(I)Z"⟩, 32), (⟨"DoorsBehindModel", "layThen", "()V"⟩, 32), (⟨"DoorsBehindModel", "isWell", "(II)Z"⟩, 32), (⟨"DoorsBehindModel", "sleepFor", "(I)I"⟩, 32), (⟨"DoorsBehindModel", "keysFor", "(II)I"⟩, 32), (⟨"DoorsBehindModel", "afterTurns", "(III)I"⟩, 32), (⟨"DoorsBehindModel", "doesComeTo", "(II)Z"⟩, 32), (⟨"DoorsBehindModel", "sizeOf", "(I)I"⟩, 32), (⟨"DoorsBehindModel", "lockSize", "(I)I"⟩, 32), (⟨"DoorsBehindModel", "began", "(I)V"⟩, 32), (⟨"DoorsBehindModel", "plainSize", "(I)I"⟩, 32), (⟨"DoorsBehindModel", "markOf", "(I)I"⟩, 32)]
theorem lw_r4 : ∀ q ∈ lw_privs_4, lw_okq q := List.forall_mem_cons.mpr ⟨lw_p48, List.forall_mem_cons.mpr ⟨lw_p49, List.forall_mem_cons.mpr ⟨lw_p50, List.forall_mem_cons.mpr ⟨lw_p51, List.forall_mem_cons.mpr ⟨lw_p52, List.forall_mem_cons.mpr ⟨lw_p53, List.forall_mem_cons.mpr ⟨lw_p54, List.forall_mem_cons.mpr ⟨lw_p55, List.forall_mem_cons.mpr ⟨lw_p56, List.forall_mem_cons.mpr ⟨lw_p57, List.forall_mem_cons.mpr ⟨lw_p58, List.forall_mem_cons.mpr ⟨lw_p59, List.forall_mem_cons.mpr ⟨lw_p60, List.forall_mem_cons.mpr ⟨lw_p61, List.forall_mem_cons.mpr ⟨lw_p62, fun _ h => absurd h List.not_mem_nil⟩⟩⟩⟩⟩⟩⟩⟩⟩⟩⟩⟩⟩⟩⟩
def lw_privs : List (MethodName × Nat) := lw_privs_1 ++ (lw_privs_2 ++ (lw_privs_3 ++ (lw_privs_4)))
def lw_tbl : List Cond := k2_sels lw_privs ++ tables_1
theorem lw_privs_ok : ∀ q ∈ lw_privs, lw_okq q := by
  show ∀ q ∈ lw_privs_1 ++ (lw_privs_2 ++ (lw_privs_3 ++ (lw_privs_4))), lw_okq q
  exact List.forall_mem_append.mpr ⟨lw_r1, List.forall_mem_append.mpr ⟨lw_r2, List.forall_mem_append.mpr ⟨lw_r3, lw_r4⟩⟩⟩
end
section
def RX0 : String := "DoorsBehind$Bolt"
def TX0 : u_T := fun k => match k with
  | 0 => ("DoorsBehind$Door", "number", "I", true)
  | 1 => ("DoorsBehind$Door", "from", "I", true)
  | 2 => ("DoorsBehind$Door", "to", "I", true)
  | _ => ("DoorsBehind$Door", "n", "I", true)
def tyX0 : Nat → FieldType := fun k => match k with
  | 0 => .int
  | 1 => .int
  | 2 => .int
  | _ => .int
theorem nmX0 : ∀ a, a < 4 → ∀ b, b < 4 → a ≠ b → (TX0 a).2.1 ≠ (TX0 b).2.1 := by decide +kernel
theorem tyX0_ok : ∀ k, k < 4 → parseFieldDescriptor (TX0 k).2.2.1 = some (tyX0 k) := by decide +kernel
abbrev cX0_init : ByteArray := prog_2_method_1_code
def yX0_init : MethodName := ⟨RX0, "<init>", "(IIII)V"⟩
abbrev cX0_sort : ByteArray := prog_2_method_2_code
def yX0_sort : MethodName := ⟨RX0, "sort", "()I"⟩
abbrev cX0_is : ByteArray := prog_2_method_3_code
def yX0_is : MethodName := ⟨RX0, "is", "(I)Z"⟩
abbrev cX0_loud : ByteArray := prog_2_method_4_code
def yX0_loud : MethodName := ⟨RX0, "loud", "(I)I"⟩
abbrev cX0_gap : ByteArray := prog_2_method_5_code
def yX0_gap : MethodName := ⟨RX0, "gap", "()I"⟩
abbrev cX0_size : ByteArray := prog_2_method_6_code
def yX0_size : MethodName := ⟨RX0, "size", "(ILDoorsBehind$Numbers;)I"⟩
abbrev cX0_mark : ByteArray := prog_2_method_7_code
def yX0_mark : MethodName := ⟨RX0, "mark", "(ILDoorsBehind$Numbers;)I"⟩
def RX1 : String := "DoorsBehind$Creaker"
def TX1 : u_T := fun k => match k with
  | 0 => ("DoorsBehind$Door", "number", "I", true)
  | 1 => ("DoorsBehind$Door", "from", "I", true)
  | 2 => ("DoorsBehind$Door", "to", "I", true)
  | _ => ("DoorsBehind$Door", "n", "I", true)
def tyX1 : Nat → FieldType := fun k => match k with
  | 0 => .int
  | 1 => .int
  | 2 => .int
  | _ => .int
theorem nmX1 : ∀ a, a < 4 → ∀ b, b < 4 → a ≠ b → (TX1 a).2.1 ≠ (TX1 b).2.1 := by decide +kernel
theorem tyX1_ok : ∀ k, k < 4 → parseFieldDescriptor (TX1 k).2.2.1 = some (tyX1 k) := by decide +kernel
abbrev cX1_init : ByteArray := prog_3_method_1_code
def yX1_init : MethodName := ⟨RX1, "<init>", "(IIII)V"⟩
abbrev cX1_sort : ByteArray := prog_3_method_2_code
def yX1_sort : MethodName := ⟨RX1, "sort", "()I"⟩
abbrev cX1_is : ByteArray := prog_3_method_3_code
def yX1_is : MethodName := ⟨RX1, "is", "(I)Z"⟩
abbrev cX1_loud : ByteArray := prog_3_method_4_code
def yX1_loud : MethodName := ⟨RX1, "loud", "(I)I"⟩
abbrev cX1_mark : ByteArray := prog_3_method_5_code
def yX1_mark : MethodName := ⟨RX1, "mark", "(ILDoorsBehind$Numbers;)I"⟩
def RX2 : String := "DoorsBehind$Door"
def TX2 : u_T := fun k => match k with
  | _ => ("", "", "", false)
def tyX2 : Nat → FieldType := fun k => match k with
  | _ => .int
theorem nmX2 : ∀ a, a < 0 → ∀ b, b < 0 → a ≠ b → (TX2 a).2.1 ≠ (TX2 b).2.1 := by decide +kernel
theorem tyX2_ok : ∀ k, k < 0 → parseFieldDescriptor (TX2 k).2.2.1 = some (tyX2 k) := by decide +kernel
abbrev cX2_init : ByteArray := prog_4_method_1_code
def yX2_init : MethodName := ⟨RX2, "<init>", "(IIII)V"⟩
abbrev cX2_of : ByteArray := prog_4_method_2_code
def yX2_of : MethodName := ⟨RX2, "of", "(IIIII)LDoorsBehind$Door;"⟩
abbrev cX2_is : ByteArray := prog_4_method_5_code
def yX2_is : MethodName := ⟨RX2, "is", "(I)Z"⟩
abbrev cX2_gap : ByteArray := prog_4_method_6_code
def yX2_gap : MethodName := ⟨RX2, "gap", "()I"⟩
abbrev cX2_keyBit : ByteArray := prog_4_method_7_code
def yX2_keyBit : MethodName := ⟨RX2, "keyBit", "()I"⟩
abbrev cX2_isBroken : ByteArray := prog_4_method_8_code
def yX2_isBroken : MethodName := ⟨RX2, "isBroken", "(I)Z"⟩
abbrev cX2_leadsFrom : ByteArray := prog_4_method_9_code
def yX2_leadsFrom : MethodName := ⟨RX2, "leadsFrom", "(I)Z"⟩
abbrev cX2_beyond : ByteArray := prog_4_method_10_code
def yX2_beyond : MethodName := ⟨RX2, "beyond", "(I)I"⟩
abbrev cX2_size : ByteArray := prog_4_method_11_code
def yX2_size : MethodName := ⟨RX2, "size", "(ILDoorsBehind$Numbers;)I"⟩
abbrev cX2_mark : ByteArray := prog_4_method_12_code
def yX2_mark : MethodName := ⟨RX2, "mark", "(ILDoorsBehind$Numbers;)I"⟩
def RX3 : String := "DoorsBehind$House"
def TX3 : u_T := fun k => match k with
  | 0 => ("DoorsBehind$House", "weight", "[I", true)
  | 1 => ("DoorsBehind$House", "wear", "[I", true)
  | 2 => ("DoorsBehind$House", "doors", "[LDoorsBehind$Door;", true)
  | 3 => ("DoorsBehind$House", "roomCount", "I", false)
  | 4 => ("DoorsBehind$House", "doorCount", "I", false)
  | 5 => ("DoorsBehind$House", "light", "I", false)
  | 6 => ("DoorsBehind$House", "sleep", "I", false)
  | 7 => ("DoorsBehind$House", "keys", "I", false)
  | _ => ("DoorsBehind$House", "taken", "I", false)
def tyX3 : Nat → FieldType := fun k => match k with
  | 0 => .array .int
  | 1 => .array .int
  | 2 => .array (.object "DoorsBehind$Door")
  | 3 => .int
  | 4 => .int
  | 5 => .int
  | 6 => .int
  | 7 => .int
  | _ => .int
theorem nmX3 : ∀ a, a < 9 → ∀ b, b < 9 → a ≠ b → (TX3 a).2.1 ≠ (TX3 b).2.1 := by decide +kernel
theorem tyX3_ok : ∀ k, k < 9 → parseFieldDescriptor (TX3 k).2.2.1 = some (tyX3 k) := by decide +kernel
abbrev cX3_init : ByteArray := prog_5_method_1_code
def yX3_init : MethodName := ⟨RX3, "<init>", "()V"⟩
abbrev cX3_stands : ByteArray := prog_5_method_2_code
def yX3_stands : MethodName := ⟨RX3, "stands", "()Z"⟩
abbrev cX3_clear : ByteArray := prog_5_method_3_code
def yX3_clear : MethodName := ⟨RX3, "clear", "()V"⟩
abbrev cX3_become : ByteArray := prog_5_method_4_code
def yX3_become : MethodName := ⟨RX3, "become", "(LDoorsBehind$House;)V"⟩
abbrev cX3_lacksRoom : ByteArray := prog_5_method_5_code
def yX3_lacksRoom : MethodName := ⟨RX3, "lacksRoom", "(I)Z"⟩
abbrev cX3_lacksDoor : ByteArray := prog_5_method_6_code
def yX3_lacksDoor : MethodName := ⟨RX3, "lacksDoor", "(I)Z"⟩
abbrev cX3_doorAt : ByteArray := prog_5_method_7_code
def yX3_doorAt : MethodName := ⟨RX3, "doorAt", "(I)LDoorsBehind$Door;"⟩
abbrev cX3_addRoom : ByteArray := prog_5_method_8_code
def yX3_addRoom : MethodName := ⟨RX3, "addRoom", "(I)V"⟩
abbrev cX3_addDoor : ByteArray := prog_5_method_9_code
def yX3_addDoor : MethodName := ⟨RX3, "addDoor", "(IIII)V"⟩
abbrev cX3_sortOf : ByteArray := prog_5_method_10_code
def yX3_sortOf : MethodName := ⟨RX3, "sortOf", "(I)I"⟩
abbrev cX3_numberOf : ByteArray := prog_5_method_11_code
def yX3_numberOf : MethodName := ⟨RX3, "numberOf", "(I)I"⟩
abbrev cX3_changeDoor : ByteArray := prog_5_method_12_code
def yX3_changeDoor : MethodName := ⟨RX3, "changeDoor", "(III)V"⟩
abbrev cX3_doorsOf : ByteArray := prog_5_method_13_code
def yX3_doorsOf : MethodName := ⟨RX3, "doorsOf", "(I)I"⟩
abbrev cX3_filledRooms : ByteArray := prog_5_method_14_code
def yX3_filledRooms : MethodName := ⟨RX3, "filledRooms", "()I"⟩
abbrev cX3_weightOf : ByteArray := prog_5_method_15_code
def yX3_weightOf : MethodName := ⟨RX3, "weightOf", "(I)I"⟩
abbrev cX3_weightOfAll : ByteArray := prog_5_method_16_code
def yX3_weightOfAll : MethodName := ⟨RX3, "weightOfAll", "()I"⟩
abbrev cX3_wearOfAll : ByteArray := prog_5_method_17_code
def yX3_wearOfAll : MethodName := ⟨RX3, "wearOfAll", "()I"⟩
def RX4 : String := "DoorsBehind$Latch"
def TX4 : u_T := fun k => match k with
  | 0 => ("DoorsBehind$Door", "number", "I", true)
  | 1 => ("DoorsBehind$Door", "from", "I", true)
  | 2 => ("DoorsBehind$Door", "to", "I", true)
  | _ => ("DoorsBehind$Door", "n", "I", true)
def tyX4 : Nat → FieldType := fun k => match k with
  | 0 => .int
  | 1 => .int
  | 2 => .int
  | _ => .int
theorem nmX4 : ∀ a, a < 4 → ∀ b, b < 4 → a ≠ b → (TX4 a).2.1 ≠ (TX4 b).2.1 := by decide +kernel
theorem tyX4_ok : ∀ k, k < 4 → parseFieldDescriptor (TX4 k).2.2.1 = some (tyX4 k) := by decide +kernel
abbrev cX4_init : ByteArray := prog_6_method_1_code
def yX4_init : MethodName := ⟨RX4, "<init>", "(IIII)V"⟩
abbrev cX4_sort : ByteArray := prog_6_method_2_code
def yX4_sort : MethodName := ⟨RX4, "sort", "()I"⟩
abbrev cX4_is : ByteArray := prog_6_method_3_code
def yX4_is : MethodName := ⟨RX4, "is", "(I)Z"⟩
abbrev cX4_loud : ByteArray := prog_6_method_4_code
def yX4_loud : MethodName := ⟨RX4, "loud", "(I)I"⟩
abbrev cX4_size : ByteArray := prog_6_method_5_code
def yX4_size : MethodName := ⟨RX4, "size", "(ILDoorsBehind$Numbers;)I"⟩
abbrev cX4_mark : ByteArray := prog_6_method_6_code
def yX4_mark : MethodName := ⟨RX4, "mark", "(ILDoorsBehind$Numbers;)I"⟩
def RX5 : String := "DoorsBehind$Lock"
def TX5 : u_T := fun k => match k with
  | 0 => ("DoorsBehind$Door", "number", "I", true)
  | 1 => ("DoorsBehind$Door", "from", "I", true)
  | 2 => ("DoorsBehind$Door", "to", "I", true)
  | _ => ("DoorsBehind$Door", "n", "I", true)
def tyX5 : Nat → FieldType := fun k => match k with
  | 0 => .int
  | 1 => .int
  | 2 => .int
  | _ => .int
theorem nmX5 : ∀ a, a < 4 → ∀ b, b < 4 → a ≠ b → (TX5 a).2.1 ≠ (TX5 b).2.1 := by decide +kernel
theorem tyX5_ok : ∀ k, k < 4 → parseFieldDescriptor (TX5 k).2.2.1 = some (tyX5 k) := by decide +kernel
abbrev cX5_init : ByteArray := prog_7_method_1_code
def yX5_init : MethodName := ⟨RX5, "<init>", "(IIII)V"⟩
abbrev cX5_sort : ByteArray := prog_7_method_2_code
def yX5_sort : MethodName := ⟨RX5, "sort", "()I"⟩
abbrev cX5_is : ByteArray := prog_7_method_3_code
def yX5_is : MethodName := ⟨RX5, "is", "(I)Z"⟩
abbrev cX5_loud : ByteArray := prog_7_method_4_code
def yX5_loud : MethodName := ⟨RX5, "loud", "(I)I"⟩
abbrev cX5_keyBit : ByteArray := prog_7_method_5_code
def yX5_keyBit : MethodName := ⟨RX5, "keyBit", "()I"⟩
abbrev cX5_size : ByteArray := prog_7_method_6_code
def yX5_size : MethodName := ⟨RX5, "size", "(ILDoorsBehind$Numbers;)I"⟩
abbrev cX5_mark : ByteArray := prog_7_method_7_code
def yX5_mark : MethodName := ⟨RX5, "mark", "(ILDoorsBehind$Numbers;)I"⟩
def RX6 : String := "DoorsBehind$Numbers"
def TX6 : u_T := fun k => match k with
  | 0 => ("DoorsBehind$Numbers", "numbers", "[I", true)
  | _ => ("DoorsBehind$Numbers", "length", "I", false)
def tyX6 : Nat → FieldType := fun k => match k with
  | 0 => .array .int
  | _ => .int
theorem nmX6 : ∀ a, a < 2 → ∀ b, b < 2 → a ≠ b → (TX6 a).2.1 ≠ (TX6 b).2.1 := by decide +kernel
theorem tyX6_ok : ∀ k, k < 2 → parseFieldDescriptor (TX6 k).2.2.1 = some (tyX6 k) := by decide +kernel
abbrev cX6_init : ByteArray := prog_8_method_1_code
def yX6_init : MethodName := ⟨RX6, "<init>", "(I)V"⟩
abbrev cX6_clear : ByteArray := prog_8_method_2_code
def yX6_clear : MethodName := ⟨RX6, "clear", "()V"⟩
abbrev cX6_add : ByteArray := prog_8_method_3_code
def yX6_add : MethodName := ⟨RX6, "add", "(I)V"⟩
abbrev cX6_at : ByteArray := prog_8_method_4_code
def yX6_at : MethodName := ⟨RX6, "at", "(I)I"⟩
def RX7 : String := "DoorsBehind$Reader"
def TX7 : u_T := fun k => match k with
  | 0 => ("DoorsBehind$Reader", "tape", "[I", true)
  | 1 => ("DoorsBehind$Reader", "draft", "LDoorsBehind$House;", true)
  | 2 => ("DoorsBehind$Reader", "length", "I", false)
  | 3 => ("DoorsBehind$Reader", "at", "I", false)
  | _ => ("DoorsBehind$Reader", "fault", "I", false)
def tyX7 : Nat → FieldType := fun k => match k with
  | 0 => .array .int
  | 1 => .object "DoorsBehind$House"
  | 2 => .int
  | 3 => .int
  | _ => .int
theorem nmX7 : ∀ a, a < 5 → ∀ b, b < 5 → a ≠ b → (TX7 a).2.1 ≠ (TX7 b).2.1 := by decide +kernel
theorem tyX7_ok : ∀ k, k < 5 → parseFieldDescriptor (TX7 k).2.2.1 = some (tyX7 k) := by decide +kernel
abbrev cX7_init : ByteArray := prog_9_method_1_code
def yX7_init : MethodName := ⟨RX7, "<init>", "()V"⟩
abbrev cX7_isFull : ByteArray := prog_9_method_2_code
def yX7_isFull : MethodName := ⟨RX7, "isFull", "()Z"⟩
abbrev cX7_take : ByteArray := prog_9_method_3_code
def yX7_take : MethodName := ⟨RX7, "take", "(I)I"⟩
abbrev cX7_read : ByteArray := prog_9_method_4_code
def yX7_read : MethodName := ⟨RX7, "read", "()V"⟩
abbrev cX7_readLaw : ByteArray := prog_9_method_5_code
def yX7_readLaw : MethodName := ⟨RX7, "readLaw", "()V"⟩
abbrev cX7_readRoom : ByteArray := prog_9_method_6_code
def yX7_readRoom : MethodName := ⟨RX7, "readRoom", "()V"⟩
abbrev cX7_readDoor : ByteArray := prog_9_method_7_code
def yX7_readDoor : MethodName := ⟨RX7, "readDoor", "()V"⟩
abbrev cX7_fail : ByteArray := prog_9_method_8_code
def yX7_fail : MethodName := ⟨RX7, "fail", "(I)V"⟩
abbrev cX7_signHere : ByteArray := prog_9_method_9_code
def yX7_signHere : MethodName := ⟨RX7, "signHere", "()I"⟩
abbrev cX7_sees : ByteArray := prog_9_method_10_code
def yX7_sees : MethodName := ⟨RX7, "sees", "(I)Z"⟩
abbrev cX7_sortSeen : ByteArray := prog_9_method_11_code
def yX7_sortSeen : MethodName := ⟨RX7, "sortSeen", "()I"⟩
abbrev cX7_readSign : ByteArray := prog_9_method_12_code
def yX7_readSign : MethodName := ⟨RX7, "readSign", "(I)V"⟩
abbrev cX7_figures : ByteArray := prog_9_method_13_code
def yX7_figures : MethodName := ⟨RX7, "figures", "()I"⟩
abbrev cX7_readNumber : ByteArray := prog_9_method_14_code
def yX7_readNumber : MethodName := ⟨RX7, "readNumber", "(III)I"⟩
def RX8 : String := "DoorsBehind$Row"
def TX8 : u_T := fun k => match k with
  | 0 => ("DoorsBehind$Row", "items", "[I", true)
  | 1 => ("DoorsBehind$Row", "lane", "I", false)
  | _ => ("DoorsBehind$Row", "length", "I", false)
def tyX8 : Nat → FieldType := fun k => match k with
  | 0 => .array .int
  | 1 => .int
  | _ => .int
theorem nmX8 : ∀ a, a < 3 → ∀ b, b < 3 → a ≠ b → (TX8 a).2.1 ≠ (TX8 b).2.1 := by decide +kernel
theorem tyX8_ok : ∀ k, k < 3 → parseFieldDescriptor (TX8 k).2.2.1 = some (tyX8 k) := by decide +kernel
abbrev cX8_init : ByteArray := prog_10_method_1_code
def yX8_init : MethodName := ⟨RX8, "<init>", "()V"⟩
abbrev cX8_isMissing : ByteArray := prog_10_method_2_code
def yX8_isMissing : MethodName := ⟨RX8, "isMissing", "()Z"⟩
abbrev cX8_begin : ByteArray := prog_10_method_3_code
def yX8_begin : MethodName := ⟨RX8, "begin", "(II)V"⟩
abbrev cX8_end : ByteArray := prog_10_method_4_code
def yX8_end : MethodName := ⟨RX8, "end", "()V"⟩
abbrev cX8_holds : ByteArray := prog_10_method_5_code
def yX8_holds : MethodName := ⟨RX8, "holds", "(II)Z"⟩
abbrev cX8_put : ByteArray := prog_10_method_6_code
def yX8_put : MethodName := ⟨RX8, "put", "(II)I"⟩
def RX9 : String := "DoorsBehind$Seal"
def TX9 : u_T := fun k => match k with
  | 0 => ("DoorsBehind$Door", "number", "I", true)
  | 1 => ("DoorsBehind$Door", "from", "I", true)
  | 2 => ("DoorsBehind$Door", "to", "I", true)
  | _ => ("DoorsBehind$Door", "n", "I", true)
def tyX9 : Nat → FieldType := fun k => match k with
  | 0 => .int
  | 1 => .int
  | 2 => .int
  | _ => .int
theorem nmX9 : ∀ a, a < 4 → ∀ b, b < 4 → a ≠ b → (TX9 a).2.1 ≠ (TX9 b).2.1 := by decide +kernel
theorem tyX9_ok : ∀ k, k < 4 → parseFieldDescriptor (TX9 k).2.2.1 = some (tyX9 k) := by decide +kernel
abbrev cX9_init : ByteArray := prog_11_method_1_code
def yX9_init : MethodName := ⟨RX9, "<init>", "(IIII)V"⟩
abbrev cX9_sort : ByteArray := prog_11_method_2_code
def yX9_sort : MethodName := ⟨RX9, "sort", "()I"⟩
abbrev cX9_is : ByteArray := prog_11_method_3_code
def yX9_is : MethodName := ⟨RX9, "is", "(I)Z"⟩
abbrev cX9_gap : ByteArray := prog_11_method_4_code
def yX9_gap : MethodName := ⟨RX9, "gap", "()I"⟩
abbrev cX9_isBroken : ByteArray := prog_11_method_5_code
def yX9_isBroken : MethodName := ⟨RX9, "isBroken", "(I)Z"⟩
abbrev cX9_size : ByteArray := prog_11_method_6_code
def yX9_size : MethodName := ⟨RX9, "size", "(ILDoorsBehind$Numbers;)I"⟩
def RX10 : String := "DoorsBehind$Walk"
def TX10 : u_T := fun k => match k with
  | 0 => ("DoorsBehind$Walk", "house", "LDoorsBehind$House;", true)
  | 1 => ("DoorsBehind$Walk", "ledger", "LDoorsBehind$Numbers;", true)
  | 2 => ("DoorsBehind$Walk", "opened", "[I", true)
  | 3 => ("DoorsBehind$Walk", "openedCount", "I", false)
  | 4 => ("DoorsBehind$Walk", "openBits", "I", false)
  | 5 => ("DoorsBehind$Walk", "room", "I", false)
  | 6 => ("DoorsBehind$Walk", "noise", "I", false)
  | 7 => ("DoorsBehind$Walk", "draught", "I", false)
  | 8 => ("DoorsBehind$Walk", "keysUsed", "I", false)
  | 9 => ("DoorsBehind$Walk", "weight", "I", false)
  | _ => ("DoorsBehind$Walk", "finding", "I", false)
def tyX10 : Nat → FieldType := fun k => match k with
  | 0 => .object "DoorsBehind$House"
  | 1 => .object "DoorsBehind$Numbers"
  | 2 => .array .int
  | 3 => .int
  | 4 => .int
  | 5 => .int
  | 6 => .int
  | 7 => .int
  | 8 => .int
  | 9 => .int
  | _ => .int
theorem nmX10 : ∀ a, a < 11 → ∀ b, b < 11 → a ≠ b → (TX10 a).2.1 ≠ (TX10 b).2.1 := by decide +kernel
theorem tyX10_ok : ∀ k, k < 11 → parseFieldDescriptor (TX10 k).2.2.1 = some (tyX10 k) := by decide +kernel
abbrev cX10_init : ByteArray := prog_12_method_1_code
def yX10_init : MethodName := ⟨RX10, "<init>", "()V"⟩
abbrev cX10_go : ByteArray := prog_12_method_2_code
def yX10_go : MethodName := ⟨RX10, "go", "([III)V"⟩
abbrev cX10_outcome : ByteArray := prog_12_method_3_code
def yX10_outcome : MethodName := ⟨RX10, "outcome", "()I"⟩
abbrev cX10_begin : ByteArray := prog_12_method_4_code
def yX10_begin : MethodName := ⟨RX10, "begin", "()V"⟩
abbrev cX10_pass : ByteArray := prog_12_method_5_code
def yX10_pass : MethodName := ⟨RX10, "pass", "(I)I"⟩
abbrev cX10_open : ByteArray := prog_12_method_6_code
def yX10_open : MethodName := ⟨RX10, "open", "(LDoorsBehind$Door;)I"⟩
abbrev cX10_take : ByteArray := prog_12_method_7_code
def yX10_take : MethodName := ⟨RX10, "take", "()I"⟩
def RX11 : String := "DoorsBehind"
def TX11 : u_T := fun k => match k with
  | 0 => ("DoorsBehind", "rows", "[LDoorsBehind$Row;", true)
  | 1 => ("DoorsBehind", "reader", "LDoorsBehind$Reader;", true)
  | 2 => ("DoorsBehind", "real", "LDoorsBehind$Walk;", true)
  | 3 => ("DoorsBehind", "house", "LDoorsBehind$House;", true)
  | 4 => ("DoorsBehind", "ledger", "LDoorsBehind$Numbers;", true)
  | 5 => ("DoorsBehind", "dream", "LDoorsBehind$Walk;", true)
  | 6 => ("DoorsBehind", "dreamt", "LDoorsBehind$House;", true)
  | 7 => ("DoorsBehind", "acts", "[LDoorsBehind$House;", true)
  | 8 => ("DoorsBehind", "images", "[LDoorsBehind$House;", true)
  | 9 => ("DoorsBehind", "trace", "LDoorsBehind$Numbers;", true)
  | 10 => ("DoorsBehind", "turns", "[LDoorsBehind$House;", true)
  | 11 => ("DoorsBehind", "route", "[I", true)
  | 12 => ("DoorsBehind", "oldestAct", "I", false)
  | 13 => ("DoorsBehind", "actCount", "I", false)
  | 14 => ("DoorsBehind", "latestFault", "I", false)
  | _ => ("DoorsBehind", "latestFinding", "I", false)
def tyX11 : Nat → FieldType := fun k => match k with
  | 0 => .array (.object "DoorsBehind$Row")
  | 1 => .object "DoorsBehind$Reader"
  | 2 => .object "DoorsBehind$Walk"
  | 3 => .object "DoorsBehind$House"
  | 4 => .object "DoorsBehind$Numbers"
  | 5 => .object "DoorsBehind$Walk"
  | 6 => .object "DoorsBehind$House"
  | 7 => .array (.object "DoorsBehind$House")
  | 8 => .array (.object "DoorsBehind$House")
  | 9 => .object "DoorsBehind$Numbers"
  | 10 => .array (.object "DoorsBehind$House")
  | 11 => .array .int
  | 12 => .int
  | 13 => .int
  | 14 => .int
  | _ => .int
theorem nmX11 : ∀ a, a < 16 → ∀ b, b < 16 → a ≠ b → (TX11 a).2.1 ≠ (TX11 b).2.1 := by decide +kernel
theorem tyX11_ok : ∀ k, k < 16 → parseFieldDescriptor (TX11 k).2.2.1 = some (tyX11 k) := by decide +kernel
abbrev cX11_init : ByteArray := prog_1_method_1_code
def yX11_init : MethodName := ⟨RX11, "<init>", "()V"⟩
abbrev cX11_row : ByteArray := prog_1_method_2_code
def yX11_row : MethodName := ⟨RX11, "row", "(III)I"⟩
abbrev cX11_set : ByteArray := prog_1_method_3_code
def yX11_set : MethodName := ⟨RX11, "set", "(III)I"⟩
abbrev cX11_copy : ByteArray := prog_1_method_4_code
def yX11_copy : MethodName := ⟨RX11, "copy", "(IIIII)I"⟩
abbrev cX11_drop : ByteArray := prog_1_method_5_code
def yX11_drop : MethodName := ⟨RX11, "drop", "(I)I"⟩
abbrev cX11_feed : ByteArray := prog_1_method_6_code
def yX11_feed : MethodName := ⟨RX11, "feed", "(I)I"⟩
abbrev cX11_house : ByteArray := prog_1_method_7_code
def yX11_house : MethodName := ⟨RX11, "house", "()I"⟩
abbrev cX11_fault : ByteArray := prog_1_method_8_code
def yX11_fault : MethodName := ⟨RX11, "fault", "()I"⟩
abbrev cX11_undo : ByteArray := prog_1_method_9_code
def yX11_undo : MethodName := ⟨RX11, "undo", "()I"⟩
abbrev cX11_errand : ByteArray := prog_1_method_10_code
def yX11_errand : MethodName := ⟨RX11, "errand", "(III)I"⟩
abbrev cX11_ledger : ByteArray := prog_1_method_11_code
def yX11_ledger : MethodName := ⟨RX11, "ledger", "(I)I"⟩
abbrev cX11_oil : ByteArray := prog_1_method_12_code
def yX11_oil : MethodName := ⟨RX11, "oil", "(I)I"⟩
abbrev cX11_bring : ByteArray := prog_1_method_13_code
def yX11_bring : MethodName := ⟨RX11, "bring", "(II)I"⟩
abbrev cX11_rule : ByteArray := prog_1_method_14_code
def yX11_rule : MethodName := ⟨RX11, "rule", "(II)I"⟩
abbrev cX11_door : ByteArray := prog_1_method_15_code
def yX11_door : MethodName := ⟨RX11, "door", "(II)I"⟩
abbrev cX11_room : ByteArray := prog_1_method_16_code
def yX11_room : MethodName := ⟨RX11, "room", "(II)I"⟩
abbrev cX11_would : ByteArray := prog_1_method_17_code
def yX11_would : MethodName := ⟨RX11, "would", "(IIII)I"⟩
abbrev cX11_way : ByteArray := prog_1_method_18_code
def yX11_way : MethodName := ⟨RX11, "way", "(II)I"⟩
abbrev cX11_needs : ByteArray := prog_1_method_19_code
def yX11_needs : MethodName := ⟨RX11, "needs", "(IIII)I"⟩
abbrev cX11_sets : ByteArray := prog_1_method_20_code
def yX11_sets : MethodName := ⟨RX11, "sets", "(II)I"⟩
abbrev cX11_share : ByteArray := prog_1_method_21_code
def yX11_share : MethodName := ⟨RX11, "share", "(II)I"⟩
abbrev cX11_byTurns : ByteArray := prog_1_method_22_code
def yX11_byTurns : MethodName := ⟨RX11, "byTurns", "(I)I"⟩
abbrev cX11_who : ByteArray := prog_1_method_23_code
def yX11_who : MethodName := ⟨RX11, "who", "(IIIIII)I"⟩
abbrev cX11_sticks : ByteArray := prog_1_method_24_code
def yX11_sticks : MethodName := ⟨RX11, "sticks", "(IIIII)J"⟩
abbrev cX11_drawn : ByteArray := prog_1_method_25_code
def yX11_drawn : MethodName := ⟨RX11, "drawn", "(III)I"⟩
abbrev cX11_image : ByteArray := prog_1_method_26_code
def yX11_image : MethodName := ⟨RX11, "image", "(I)I"⟩
abbrev cX11_restore : ByteArray := prog_1_method_27_code
def yX11_restore : MethodName := ⟨RX11, "restore", "(I)I"⟩
abbrev cX11_kind : ByteArray := prog_1_method_28_code
def yX11_kind : MethodName := ⟨RX11, "kind", "(I)I"⟩
abbrev cX11_as : ByteArray := prog_1_method_29_code
def yX11_as : MethodName := ⟨RX11, "as", "(II)I"⟩
abbrev cX11_ask : ByteArray := prog_1_method_30_code
def yX11_ask : MethodName := ⟨RX11, "ask", "(II)I"⟩
abbrev cX11_trace : ByteArray := prog_1_method_31_code
def yX11_trace : MethodName := ⟨RX11, "trace", "(I)I"⟩
abbrev cX11_count : ByteArray := prog_1_method_32_code
def yX11_count : MethodName := ⟨RX11, "count", "(I)I"⟩
abbrev cX11_status : ByteArray := prog_1_method_33_code
def yX11_status : MethodName := ⟨RX11, "status", "()I"⟩
abbrev cX11_found : ByteArray := prog_1_method_34_code
def yX11_found : MethodName := ⟨RX11, "found", "(I)I"⟩
abbrev cX11_well : ByteArray := prog_1_method_35_code
def yX11_well : MethodName := ⟨RX11, "well", "(I)I"⟩
abbrev cX11_lacksRow : ByteArray := prog_1_method_36_code
def yX11_lacksRow : MethodName := ⟨RX11, "lacksRow", "(I)Z"⟩
abbrev cX11_isBadRoute : ByteArray := prog_1_method_37_code
def yX11_isBadRoute : MethodName := ⟨RX11, "isBadRoute", "(II)Z"⟩
abbrev cX11_lackOfRoute : ByteArray := prog_1_method_38_code
def yX11_lackOfRoute : MethodName := ⟨RX11, "lackOfRoute", "(III)I"⟩
abbrev cX11_isRule : ByteArray := prog_1_method_39_code
def yX11_isRule : MethodName := ⟨RX11, "isRule", "(II)Z"⟩
abbrev cX11_isOutcome : ByteArray := prog_1_method_40_code
def yX11_isOutcome : MethodName := ⟨RX11, "isOutcome", "(I)Z"⟩
abbrev cX11_rowsThere : ByteArray := prog_1_method_41_code
def yX11_rowsThere : MethodName := ⟨RX11, "rowsThere", "()I"⟩
abbrev cX11_keepAct : ByteArray := prog_1_method_42_code
def yX11_keepAct : MethodName := ⟨RX11, "keepAct", "()V"⟩
abbrev cX11_forgetActs : ByteArray := prog_1_method_43_code
def yX11_forgetActs : MethodName := ⟨RX11, "forgetActs", "()V"⟩
abbrev cX11_foretell : ByteArray := prog_1_method_44_code
def yX11_foretell : MethodName := ⟨RX11, "foretell", "([III)V"⟩
abbrev cX11_findWay : ByteArray := prog_1_method_45_code
def yX11_findWay : MethodName := ⟨RX11, "findWay", "(IIII)Z"⟩
abbrev cX11_playTurns : ByteArray := prog_1_method_46_code
def yX11_playTurns : MethodName := ⟨RX11, "playTurns", "(II)I"⟩
abbrev cX11_kindsFor : ByteArray := prog_1_method_47_code
def yX11_kindsFor : MethodName := ⟨RX11, "kindsFor", "(I[IIII)I"⟩
abbrev cX11_numbersFor : ByteArray := prog_1_method_48_code
def yX11_numbersFor : MethodName := ⟨RX11, "numbersFor", "(I[IIII)I"⟩
abbrev cX11_keysFor : ByteArray := prog_1_method_49_code
def yX11_keysFor : MethodName := ⟨RX11, "keysFor", "(Z[IIII)I"⟩
abbrev cX11_goDrawn : ByteArray := prog_1_method_50_code
def yX11_goDrawn : MethodName := ⟨RX11, "goDrawn", "(J)V"⟩
abbrev cX11_commonDivisor : ByteArray := prog_1_method_51_code
def yX11_commonDivisor : MethodName := ⟨RX11, "commonDivisor", "(II)I"⟩
abbrev cX11_power : ByteArray := prog_1_method_52_code
def yX11_power : MethodName := ⟨RX11, "power", "(II)J"⟩
def RX12 : String := "DoorsBehindModel"
def TX12 : u_T := fun k => match k with
  | 0 => ("DoorsBehindModel", "thrown", "I", false)
  | 1 => ("DoorsBehindModel", "status", "I", false)
  | 2 => ("DoorsBehindModel", "lane", "[I", true)
  | 3 => ("DoorsBehindModel", "many", "[I", true)
  | 4 => ("DoorsBehindModel", "item", "[I", true)
  | 5 => ("DoorsBehindModel", "house", "[I", true)
  | 6 => ("DoorsBehindModel", "fresh", "[I", true)
  | 7 => ("DoorsBehindModel", "then", "[I", true)
  | 8 => ("DoorsBehindModel", "was", "[I", true)
  | 9 => ("DoorsBehindModel", "acts", "I", false)
  | 10 => ("DoorsBehindModel", "tape", "[I", true)
  | 11 => ("DoorsBehindModel", "taped", "I", false)
  | 12 => ("DoorsBehindModel", "cursor", "I", false)
  | 13 => ("DoorsBehindModel", "start", "I", false)
  | 14 => ("DoorsBehindModel", "token", "I", false)
  | 15 => ("DoorsBehindModel", "value", "I", false)
  | 16 => ("DoorsBehindModel", "fault", "I", false)
  | 17 => ("DoorsBehindModel", "faultAt", "I", false)
  | 18 => ("DoorsBehindModel", "latest", "I", false)
  | 19 => ("DoorsBehindModel", "doors", "[I", true)
  | 20 => ("DoorsBehindModel", "opened", "[I", true)
  | 21 => ("DoorsBehindModel", "turned", "I", false)
  | 22 => ("DoorsBehindModel", "noise", "I", false)
  | 23 => ("DoorsBehindModel", "draught", "I", false)
  | 24 => ("DoorsBehindModel", "stood", "I", false)
  | 25 => ("DoorsBehindModel", "came", "I", false)
  | 26 => ("DoorsBehindModel", "ledger", "[I", true)
  | 27 => ("DoorsBehindModel", "ledgers", "I", false)
  | 28 => ("DoorsBehindModel", "isKept", "[Z", true)
  | 29 => ("DoorsBehindModel", "kept", "[I", true)
  | 30 => ("DoorsBehindModel", "trace", "[I", true)
  | _ => ("DoorsBehindModel", "traced", "I", false)
def tyX12 : Nat → FieldType := fun k => match k with
  | 0 => .int
  | 1 => .int
  | 2 => .array .int
  | 3 => .array .int
  | 4 => .array .int
  | 5 => .array .int
  | 6 => .array .int
  | 7 => .array .int
  | 8 => .array .int
  | 9 => .int
  | 10 => .array .int
  | 11 => .int
  | 12 => .int
  | 13 => .int
  | 14 => .int
  | 15 => .int
  | 16 => .int
  | 17 => .int
  | 18 => .int
  | 19 => .array .int
  | 20 => .array .int
  | 21 => .int
  | 22 => .int
  | 23 => .int
  | 24 => .int
  | 25 => .int
  | 26 => .array .int
  | 27 => .int
  | 28 => .array .boolean
  | 29 => .array .int
  | 30 => .array .int
  | _ => .int
theorem nmX12 : ∀ a, a < 32 → ∀ b, b < 32 → a ≠ b → (TX12 a).2.1 ≠ (TX12 b).2.1 := by decide +kernel
theorem tyX12_ok : ∀ k, k < 32 → parseFieldDescriptor (TX12 k).2.2.1 = some (tyX12 k) := by decide +kernel
abbrev cX12_init : ByteArray := prog_14_method_1_code
def yX12_init : MethodName := ⟨RX12, "<init>", "()V"⟩
abbrev cX12_in : ByteArray := prog_14_method_3_code
def yX12_in : MethodName := ⟨RX12, "in", "(JJJ)Z"⟩
abbrev cX12_finding : ByteArray := prog_14_method_4_code
def yX12_finding : MethodName := ⟨RX12, "finding", "(I)I"⟩
abbrev cX12_isRow : ByteArray := prog_14_method_5_code
def yX12_isRow : MethodName := ⟨RX12, "isRow", "(I)Z"⟩
abbrev cX12_row : ByteArray := prog_14_method_6_code
def yX12_row : MethodName := ⟨RX12, "row", "(III)I"⟩
abbrev cX12_set : ByteArray := prog_14_method_7_code
def yX12_set : MethodName := ⟨RX12, "set", "(III)I"⟩
abbrev cX12_copy : ByteArray := prog_14_method_8_code
def yX12_copy : MethodName := ⟨RX12, "copy", "(IIIII)I"⟩
abbrev cX12_drop : ByteArray := prog_14_method_9_code
def yX12_drop : MethodName := ⟨RX12, "drop", "(I)I"⟩
abbrev cX12_feed : ByteArray := prog_14_method_10_code
def yX12_feed : MethodName := ⟨RX12, "feed", "(I)I"⟩
abbrev cX12_bad : ByteArray := prog_14_method_11_code
def yX12_bad : MethodName := ⟨RX12, "bad", "(I)V"⟩
abbrev cX12_nextToken : ByteArray := prog_14_method_12_code
def yX12_nextToken : MethodName := ⟨RX12, "nextToken", "()V"⟩
abbrev cX12_must : ByteArray := prog_14_method_13_code
def yX12_must : MethodName := ⟨RX12, "must", "(Z)V"⟩
abbrev cX12_isLetter : ByteArray := prog_14_method_14_code
def yX12_isLetter : MethodName := ⟨RX12, "isLetter", "(I)Z"⟩
abbrev cX12_number : ByteArray := prog_14_method_15_code
def yX12_number : MethodName := ⟨RX12, "number", "(II)I"⟩
abbrev cX12_mustSign : ByteArray := prog_14_method_16_code
def yX12_mustSign : MethodName := ⟨RX12, "mustSign", "(I)V"⟩
abbrev cX12_begin : ByteArray := prog_14_method_17_code
def yX12_begin : MethodName := ⟨RX12, "begin", "()V"⟩
abbrev cX12_failed : ByteArray := prog_14_method_18_code
def yX12_failed : MethodName := ⟨RX12, "failed", "()Z"⟩
abbrev cX12_fault : ByteArray := prog_14_method_19_code
def yX12_fault : MethodName := ⟨RX12, "fault", "()I"⟩
abbrev cX12_kindBy : ByteArray := prog_14_method_20_code
def yX12_kindBy : MethodName := ⟨RX12, "kindBy", "(I)I"⟩
abbrev cX12_isSort : ByteArray := prog_14_method_21_code
def yX12_isSort : MethodName := ⟨RX12, "isSort", "()Z"⟩
abbrev cX12_isRoomNext : ByteArray := prog_14_method_22_code
def yX12_isRoomNext : MethodName := ⟨RX12, "isRoomNext", "()Z"⟩
abbrev cX12_readRoom : ByteArray := prog_14_method_23_code
def yX12_readRoom : MethodName := ⟨RX12, "readRoom", "()V"⟩
abbrev cX12_otherRoom : ByteArray := prog_14_method_24_code
def yX12_otherRoom : MethodName := ⟨RX12, "otherRoom", "(I)I"⟩
abbrev cX12_readDoor : ByteArray := prog_14_method_25_code
def yX12_readDoor : MethodName := ⟨RX12, "readDoor", "()V"⟩
abbrev cX12_house : ByteArray := prog_14_method_26_code
def yX12_house : MethodName := ⟨RX12, "house", "()I"⟩
abbrev cX12_isThere : ByteArray := prog_14_method_27_code
def yX12_isThere : MethodName := ⟨RX12, "isThere", "()Z"⟩
abbrev cX12_isDoor : ByteArray := prog_14_method_28_code
def yX12_isDoor : MethodName := ⟨RX12, "isDoor", "(I)Z"⟩
abbrev cX12_isRoom : ByteArray := prog_14_method_29_code
def yX12_isRoom : MethodName := ⟨RX12, "isRoom", "(I)Z"⟩
abbrev cX12_bits : ByteArray := prog_14_method_30_code
def yX12_bits : MethodName := ⟨RX12, "bits", "(I)I"⟩
abbrev cX12_has : ByteArray := prog_14_method_31_code
def yX12_has : MethodName := ⟨RX12, "has", "(II)Z"⟩
abbrev cX12_of : ByteArray := prog_14_method_32_code
def yX12_of : MethodName := ⟨RX12, "of", "([III)I"⟩
abbrev cX12_be : ByteArray := prog_14_method_33_code
def yX12_be : MethodName := ⟨RX12, "be", "([IIII)V"⟩
abbrev cX12_loudOf : ByteArray := prog_14_method_34_code
def yX12_loudOf : MethodName := ⟨RX12, "loudOf", "([II)I"⟩
abbrev cX12_gapOf : ByteArray := prog_14_method_35_code
def yX12_gapOf : MethodName := ⟨RX12, "gapOf", "([II)I"⟩
abbrev cX12_isOpen : ByteArray := prog_14_method_36_code
def yX12_isOpen : MethodName := ⟨RX12, "isOpen", "(I)Z"⟩
abbrev cX12_draughtNow : ByteArray := prog_14_method_37_code
def yX12_draughtNow : MethodName := ⟨RX12, "draughtNow", "([I)I"⟩
abbrev cX12_open : ByteArray := prog_14_method_38_code
def yX12_open : MethodName := ⟨RX12, "open", "([II)I"⟩
abbrev cX12_goThrough : ByteArray := prog_14_method_39_code
def yX12_goThrough : MethodName := ⟨RX12, "goThrough", "([II)I"⟩
abbrev cX12_goOut : ByteArray := prog_14_method_40_code
def yX12_goOut : MethodName := ⟨RX12, "goOut", "([II)I"⟩
abbrev cX12_layThen : ByteArray := prog_14_method_41_code
def yX12_layThen : MethodName := ⟨RX12, "layThen", "()V"⟩
abbrev cX12_writes : ByteArray := prog_14_method_42_code
def yX12_writes : MethodName := ⟨RX12, "writes", "(I)V"⟩
abbrev cX12_keep : ByteArray := prog_14_method_43_code
def yX12_keep : MethodName := ⟨RX12, "keep", "()V"⟩
abbrev cX12_isErrand : ByteArray := prog_14_method_44_code
def yX12_isErrand : MethodName := ⟨RX12, "isErrand", "(II)Z"⟩
abbrev cX12_rowFound : ByteArray := prog_14_method_45_code
def yX12_rowFound : MethodName := ⟨RX12, "rowFound", "(III)I"⟩
abbrev cX12_errand : ByteArray := prog_14_method_46_code
def yX12_errand : MethodName := ⟨RX12, "errand", "(III)I"⟩
abbrev cX12_ledger : ByteArray := prog_14_method_47_code
def yX12_ledger : MethodName := ⟨RX12, "ledger", "(I)I"⟩
abbrev cX12_oil : ByteArray := prog_14_method_48_code
def yX12_oil : MethodName := ⟨RX12, "oil", "(I)I"⟩
abbrev cX12_weightOf : ByteArray := prog_14_method_49_code
def yX12_weightOf : MethodName := ⟨RX12, "weightOf", "([I)I"⟩
abbrev cX12_bring : ByteArray := prog_14_method_50_code
def yX12_bring : MethodName := ⟨RX12, "bring", "(II)I"⟩
abbrev cX12_rule : ByteArray := prog_14_method_51_code
def yX12_rule : MethodName := ⟨RX12, "rule", "(II)I"⟩
abbrev cX12_undo : ByteArray := prog_14_method_52_code
def yX12_undo : MethodName := ⟨RX12, "undo", "()I"⟩
abbrev cX12_door : ByteArray := prog_14_method_53_code
def yX12_door : MethodName := ⟨RX12, "door", "(II)I"⟩
abbrev cX12_room : ByteArray := prog_14_method_54_code
def yX12_room : MethodName := ⟨RX12, "room", "(II)I"⟩
abbrev cX12_would : ByteArray := prog_14_method_55_code
def yX12_would : MethodName := ⟨RX12, "would", "(IIII)I"⟩
abbrev cX12_isWell : ByteArray := prog_14_method_56_code
def yX12_isWell : MethodName := ⟨RX12, "isWell", "(II)Z"⟩
abbrev cX12_way : ByteArray := prog_14_method_57_code
def yX12_way : MethodName := ⟨RX12, "way", "(II)I"⟩
abbrev cX12_keysFor : ByteArray := prog_14_method_58_code
def yX12_keysFor : MethodName := ⟨RX12, "keysFor", "(II)I"⟩
abbrev cX12_sleepFor : ByteArray := prog_14_method_59_code
def yX12_sleepFor : MethodName := ⟨RX12, "sleepFor", "(I)I"⟩
abbrev cX12_needs : ByteArray := prog_14_method_60_code
def yX12_needs : MethodName := ⟨RX12, "needs", "(IIII)I"⟩
abbrev cX12_sets : ByteArray := prog_14_method_61_code
def yX12_sets : MethodName := ⟨RX12, "sets", "(II)I"⟩
abbrev cX12_share : ByteArray := prog_14_method_62_code
def yX12_share : MethodName := ⟨RX12, "share", "(II)I"⟩
abbrev cX12_afterTurns : ByteArray := prog_14_method_63_code
def yX12_afterTurns : MethodName := ⟨RX12, "afterTurns", "(III)I"⟩
abbrev cX12_byTurns : ByteArray := prog_14_method_64_code
def yX12_byTurns : MethodName := ⟨RX12, "byTurns", "(I)I"⟩
abbrev cX12_doesComeTo : ByteArray := prog_14_method_65_code
def yX12_doesComeTo : MethodName := ⟨RX12, "doesComeTo", "(II)Z"⟩
abbrev cX12_who : ByteArray := prog_14_method_66_code
def yX12_who : MethodName := ⟨RX12, "who", "(IIIIII)I"⟩
abbrev cX12_sticks : ByteArray := prog_14_method_67_code
def yX12_sticks : MethodName := ⟨RX12, "sticks", "(IIIII)J"⟩
abbrev cX12_drawn : ByteArray := prog_14_method_68_code
def yX12_drawn : MethodName := ⟨RX12, "drawn", "(III)I"⟩
abbrev cX12_image : ByteArray := prog_14_method_69_code
def yX12_image : MethodName := ⟨RX12, "image", "(I)I"⟩
abbrev cX12_restore : ByteArray := prog_14_method_70_code
def yX12_restore : MethodName := ⟨RX12, "restore", "(I)I"⟩
abbrev cX12_isOf : ByteArray := prog_14_method_71_code
def yX12_isOf : MethodName := ⟨RX12, "isOf", "(II)Z"⟩
abbrev cX12_kind : ByteArray := prog_14_method_72_code
def yX12_kind : MethodName := ⟨RX12, "kind", "(I)I"⟩
abbrev cX12_as : ByteArray := prog_14_method_73_code
def yX12_as : MethodName := ⟨RX12, "as", "(II)I"⟩
abbrev cX12_began : ByteArray := prog_14_method_74_code
def yX12_began : MethodName := ⟨RX12, "began", "(I)V"⟩
abbrev cX12_plainSize : ByteArray := prog_14_method_75_code
def yX12_plainSize : MethodName := ⟨RX12, "plainSize", "(I)I"⟩
abbrev cX12_lockSize : ByteArray := prog_14_method_76_code
def yX12_lockSize : MethodName := ⟨RX12, "lockSize", "(I)I"⟩
abbrev cX12_markOf : ByteArray := prog_14_method_77_code
def yX12_markOf : MethodName := ⟨RX12, "markOf", "(I)I"⟩
abbrev cX12_sizeOf : ByteArray := prog_14_method_78_code
def yX12_sizeOf : MethodName := ⟨RX12, "sizeOf", "(I)I"⟩
abbrev cX12_ask : ByteArray := prog_14_method_79_code
def yX12_ask : MethodName := ⟨RX12, "ask", "(II)I"⟩
abbrev cX12_trace : ByteArray := prog_14_method_80_code
def yX12_trace : MethodName := ⟨RX12, "trace", "(I)I"⟩
abbrev cX12_count : ByteArray := prog_14_method_81_code
def yX12_count : MethodName := ⟨RX12, "count", "(I)I"⟩
abbrev cX12_status : ByteArray := prog_14_method_82_code
def yX12_status : MethodName := ⟨RX12, "status", "()I"⟩
def RJ6 : String := "java/lang/Integer"
def TJ6 : u_T := fun k => match k with
  | _ => ("", "", "", false)
def tyJ6 : Nat → FieldType := fun k => match k with
  | _ => .int
theorem nmJ6 : ∀ a, a < 0 → ∀ b, b < 0 → a ≠ b → (TJ6 a).2.1 ≠ (TJ6 b).2.1 := by decide +kernel
theorem tyJ6_ok : ∀ k, k < 0 → parseFieldDescriptor (TJ6 k).2.2.1 = some (tyJ6 k) := by decide +kernel
abbrev cJ6_bitCount_0f7a4 : ByteArray := prog_15_method_49_code
def yJ6_bitCount_0f7a4 : MethodName := ⟨RJ6, "bitCount", "(I)I"⟩
def RJ9 : String := "java/lang/Math"
def TJ9 : u_T := fun k => match k with
  | _ => ("", "", "", false)
def tyJ9 : Nat → FieldType := fun k => match k with
  | _ => .int
theorem nmJ9 : ∀ a, a < 0 → ∀ b, b < 0 → a ≠ b → (TJ9 a).2.1 ≠ (TJ9 b).2.1 := by decide +kernel
theorem tyJ9_ok : ∀ k, k < 0 → parseFieldDescriptor (TJ9 k).2.2.1 = some (tyJ9 k) := by decide +kernel
abbrev cJ9_max_7cf53 : ByteArray := prog_16_method_65_code
def yJ9_max_7cf53 : MethodName := ⟨RJ9, "max", "(II)I"⟩
abbrev cJ9_min_7cf53 : ByteArray := prog_16_method_69_code
def yJ9_min_7cf53 : MethodName := ⟨RJ9, "min", "(II)I"⟩
def RJ10 : String := "java/lang/System"
def TJ10 : u_T := fun k => match k with
  | _ => ("", "", "", false)
def tyJ10 : Nat → FieldType := fun k => match k with
  | _ => .int
theorem nmJ10 : ∀ a, a < 0 → ∀ b, b < 0 → a ≠ b → (TJ10 a).2.1 ≠ (TJ10 b).2.1 := by decide +kernel
theorem tyJ10_ok : ∀ k, k < 0 → parseFieldDescriptor (TJ10 k).2.2.1 = some (tyJ10 k) := by decide +kernel
def RL : String := "DoorsBehindLaw"
abbrev cL_law : ByteArray := code
def yL_law : MethodName := ⟨RL, "law", "([I)Z"⟩
abbrev vwCl : List vw_C := [(RX0, TX0, 4), (RX1, TX1, 4), (RX3, TX3, 9), (RX4, TX4, 4), (RX5, TX5, 4), (RX6, TX6, 2), (RX7, TX7, 5), (RX8, TX8, 3), (RX9, TX9, 4), (RX10, TX10, 11), (RX11, TX11, 16), (RX12, TX12, 32)]
def gw : List Cond := lw_tbl.filter goodWord
theorem gwm {w : Cond} (k : Nat) (h : lw_tbl[k]? = some w) (g : goodWord w = true) : w ∈ gw := List.mem_filter.mpr ⟨List.mem_of_getElem? h, g⟩
theorem gwl {w : Cond} (k : Nat) (h : lw_tbl[k]? = some w) : w ∈ lw_tbl := List.mem_of_getElem? h
theorem inX0 : ∀ w ∈ u_ws RX0 TX0 4, w ∈ gw := by decide +kernel
theorem inX1 : ∀ w ∈ u_ws RX1 TX1 4, w ∈ gw := by decide +kernel
theorem inX3 : ∀ w ∈ u_ws RX3 TX3 9, w ∈ gw := by decide +kernel
theorem inX4 : ∀ w ∈ u_ws RX4 TX4 4, w ∈ gw := by decide +kernel
theorem inX5 : ∀ w ∈ u_ws RX5 TX5 4, w ∈ gw := by decide +kernel
theorem inX6 : ∀ w ∈ u_ws RX6 TX6 2, w ∈ gw := by decide +kernel
theorem inX7 : ∀ w ∈ u_ws RX7 TX7 5, w ∈ gw := by decide +kernel
theorem inX8 : ∀ w ∈ u_ws RX8 TX8 3, w ∈ gw := by decide +kernel
theorem inX9 : ∀ w ∈ u_ws RX9 TX9 4, w ∈ gw := by decide +kernel
theorem inX10 : ∀ w ∈ u_ws RX10 TX10 11, w ∈ gw := by decide +kernel
theorem inX11 : ∀ w ∈ u_ws RX11 TX11 16, w ∈ gw := by decide +kernel
theorem inX12 : ∀ w ∈ u_ws RX12 TX12 32, w ∈ gw := by decide +kernel
theorem ini_L : Cond.initialized RL ∈ gw := gwm 63 (by decide +kernel) rfl
theorem ini_X11 : Cond.initialized RX11 ∈ gw := gwm 64 (by decide +kernel) rfl
theorem ini_X7 : Cond.initialized RX7 ∈ gw := gwm 65 (by decide +kernel) rfl
theorem ini_X3 : Cond.initialized RX3 ∈ gw := gwm 66 (by decide +kernel) rfl
theorem ini_X10 : Cond.initialized RX10 ∈ gw := gwm 67 (by decide +kernel) rfl
theorem ini_X6 : Cond.initialized RX6 ∈ gw := gwm 68 (by decide +kernel) rfl
theorem ini_J9 : Cond.initialized RJ9 ∈ gw := gwm 69 (by decide +kernel) rfl
theorem ini_X8 : Cond.initialized RX8 ∈ gw := gwm 70 (by decide +kernel) rfl
theorem ini_X12 : Cond.initialized RX12 ∈ gw := gwm 71 (by decide +kernel) rfl
theorem ini_J10 : Cond.initialized RJ10 ∈ gw := gwm 72 (by decide +kernel) rfl
theorem ini_X2 : Cond.initialized RX2 ∈ gw := gwm 73 (by decide +kernel) rfl
theorem ini_X4 : Cond.initialized RX4 ∈ gw := gwm 74 (by decide +kernel) rfl
theorem ini_X0 : Cond.initialized RX0 ∈ gw := gwm 75 (by decide +kernel) rfl
theorem ini_X1 : Cond.initialized RX1 ∈ gw := gwm 76 (by decide +kernel) rfl
theorem ini_X5 : Cond.initialized RX5 ∈ gw := gwm 77 (by decide +kernel) rfl
theorem ini_X9 : Cond.initialized RX9 ∈ gw := gwm 78 (by decide +kernel) rfl
theorem ini_J6 : Cond.initialized RJ6 ∈ gw := gwm 79 (by decide +kernel) rfl
theorem kl_L_7 : Cond.classLink RL 7 RX11 ∈ gw := gwm 80 (by decide +kernel) rfl
theorem ins_X11 : Cond.instantiable RX11 16 ∈ gw := gwm 81 (by decide +kernel) rfl
theorem ml_L_9 : Cond.methodLink RL 9 yX11_init ∈ gw := gwm 82 (by decide +kernel) rfl
theorem im_X11_init : Cond.instanceMethod yX11_init ∈ gw := gwm 83 (by decide +kernel) rfl
theorem co_X11_init : Cond.code yX11_init cX11_init 2 none ∈ gw := gwm 84 (by decide +kernel) rfl
theorem ml_X11_3 : Cond.methodLink RX11 3 ⟨"java/lang/Object", "<init>", "()V"⟩ ∈ gw := gwm 85 (by decide +kernel) rfl
theorem im_objinit : Cond.instanceMethod ⟨"java/lang/Object", "<init>", "()V"⟩ ∈ gw := gwm 86 (by decide +kernel) rfl
theorem co_objinit : Cond.code ⟨"java/lang/Object", "<init>", "()V"⟩ object_method_1_code 1 none ∈ gw := gwm 87 (by decide +kernel) rfl
theorem kl_X11_9 : Cond.classLink RX11 9 RX8 ∈ gw := gwm 88 (by decide +kernel) rfl
theorem kl_X11_15 : Cond.classLink RX11 15 RX7 ∈ gw := gwm 90 (by decide +kernel) rfl
theorem ins_X7 : Cond.instantiable RX7 5 ∈ gw := gwm 91 (by decide +kernel) rfl
theorem im_X7_init : Cond.instanceMethod yX7_init ∈ gw := gwm 93 (by decide +kernel) rfl
theorem co_X7_init : Cond.code yX7_init cX7_init 1 none ∈ gw := gwm 94 (by decide +kernel) rfl
theorem ml_X7_3 : Cond.methodLink RX7 3 ⟨"java/lang/Object", "<init>", "()V"⟩ ∈ gw := gwm 95 (by decide +kernel) rfl
theorem kl_X7_15 : Cond.classLink RX7 15 RX3 ∈ gw := gwm 96 (by decide +kernel) rfl
theorem ins_X3 : Cond.instantiable RX3 9 ∈ gw := gwm 97 (by decide +kernel) rfl
theorem im_X3_init : Cond.instanceMethod yX3_init ∈ gw := gwm 99 (by decide +kernel) rfl
theorem co_X3_init : Cond.code yX3_init cX3_init 1 none ∈ gw := gwm 100 (by decide +kernel) rfl
theorem ml_X3_3 : Cond.methodLink RX3 3 ⟨"java/lang/Object", "<init>", "()V"⟩ ∈ gw := gwm 101 (by decide +kernel) rfl
theorem kl_X3_18 : Cond.classLink RX3 18 RX2 ∈ gw := gwm 102 (by decide +kernel) rfl
theorem fl_X3_9 : Cond.fieldLink RX3 9 "DoorsBehind$House" "weight" "[I" ∈ gw := gwm 104 (by decide +kernel) rfl
theorem fl_X10_123 : Cond.fieldLink RX10 123 "DoorsBehind$House" "weight" "[I" ∈ gw := gwm 105 (by decide +kernel) rfl
theorem fl_X11_195 : Cond.fieldLink RX11 195 "DoorsBehind$House" "weight" "[I" ∈ gw := gwm 106 (by decide +kernel) rfl
theorem fl_X3_15 : Cond.fieldLink RX3 15 "DoorsBehind$House" "wear" "[I" ∈ gw := gwm 107 (by decide +kernel) rfl
theorem fl_X10_96 : Cond.fieldLink RX10 96 "DoorsBehind$House" "wear" "[I" ∈ gw := gwm 108 (by decide +kernel) rfl
theorem fl_X11_189 : Cond.fieldLink RX11 189 "DoorsBehind$House" "wear" "[I" ∈ gw := gwm 109 (by decide +kernel) rfl
theorem fl_X3_20 : Cond.fieldLink RX3 20 "DoorsBehind$House" "doors" "[LDoorsBehind$Door;" ∈ gw := gwm 110 (by decide +kernel) rfl
theorem fl_X3_24 : Cond.fieldLink RX3 24 "DoorsBehind$House" "roomCount" "I" ∈ gw := gwm 111 (by decide +kernel) rfl
theorem fl_X7_49 : Cond.fieldLink RX7 49 "DoorsBehind$House" "roomCount" "I" ∈ gw := gwm 112 (by decide +kernel) rfl
theorem fl_X11_279 : Cond.fieldLink RX11 279 "DoorsBehind$House" "roomCount" "I" ∈ gw := gwm 113 (by decide +kernel) rfl
theorem fl_X3_28 : Cond.fieldLink RX3 28 "DoorsBehind$House" "doorCount" "I" ∈ gw := gwm 114 (by decide +kernel) rfl
theorem fl_X7_63 : Cond.fieldLink RX7 63 "DoorsBehind$House" "doorCount" "I" ∈ gw := gwm 115 (by decide +kernel) rfl
theorem fl_X11_151 : Cond.fieldLink RX11 151 "DoorsBehind$House" "doorCount" "I" ∈ gw := gwm 116 (by decide +kernel) rfl
theorem fl_X3_40 : Cond.fieldLink RX3 40 "DoorsBehind$House" "light" "I" ∈ gw := gwm 117 (by decide +kernel) rfl
theorem fl_X7_73 : Cond.fieldLink RX7 73 "DoorsBehind$House" "light" "I" ∈ gw := gwm 118 (by decide +kernel) rfl
theorem fl_X10_117 : Cond.fieldLink RX10 117 "DoorsBehind$House" "light" "I" ∈ gw := gwm 119 (by decide +kernel) rfl
theorem fl_X11_207 : Cond.fieldLink RX11 207 "DoorsBehind$House" "light" "I" ∈ gw := gwm 120 (by decide +kernel) rfl
theorem fl_X3_43 : Cond.fieldLink RX3 43 "DoorsBehind$House" "sleep" "I" ∈ gw := gwm 121 (by decide +kernel) rfl
theorem fl_X7_76 : Cond.fieldLink RX7 76 "DoorsBehind$House" "sleep" "I" ∈ gw := gwm 122 (by decide +kernel) rfl
theorem fl_X10_114 : Cond.fieldLink RX10 114 "DoorsBehind$House" "sleep" "I" ∈ gw := gwm 123 (by decide +kernel) rfl
theorem fl_X11_210 : Cond.fieldLink RX11 210 "DoorsBehind$House" "sleep" "I" ∈ gw := gwm 124 (by decide +kernel) rfl
theorem fl_X3_46 : Cond.fieldLink RX3 46 "DoorsBehind$House" "keys" "I" ∈ gw := gwm 125 (by decide +kernel) rfl
theorem fl_X7_79 : Cond.fieldLink RX7 79 "DoorsBehind$House" "keys" "I" ∈ gw := gwm 126 (by decide +kernel) rfl
theorem fl_X10_102 : Cond.fieldLink RX10 102 "DoorsBehind$House" "keys" "I" ∈ gw := gwm 127 (by decide +kernel) rfl
theorem fl_X11_204 : Cond.fieldLink RX11 204 "DoorsBehind$House" "keys" "I" ∈ gw := gwm 128 (by decide +kernel) rfl
theorem fl_X3_31 : Cond.fieldLink RX3 31 "DoorsBehind$House" "taken" "I" ∈ gw := gwm 129 (by decide +kernel) rfl
theorem fl_X10_125 : Cond.fieldLink RX10 125 "DoorsBehind$House" "taken" "I" ∈ gw := gwm 130 (by decide +kernel) rfl
theorem fl_X11_338 : Cond.fieldLink RX11 338 "DoorsBehind$House" "taken" "I" ∈ gw := gwm 131 (by decide +kernel) rfl
theorem sup_X3_java_lang_Object : Cond.superclass RX3 "java/lang/Object" ∈ gw := gwm 150 (by decide +kernel) rfl
theorem ac_int : Cond.arrayClass .int ∈ gw := gwm 151 (by decide +kernel) rfl
theorem fl_X7_9 : Cond.fieldLink RX7 9 "DoorsBehind$Reader" "tape" "[I" ∈ gw := gwm 152 (by decide +kernel) rfl
theorem fl_X7_18 : Cond.fieldLink RX7 18 "DoorsBehind$Reader" "draft" "LDoorsBehind$House;" ∈ gw := gwm 153 (by decide +kernel) rfl
theorem fl_X11_138 : Cond.fieldLink RX11 138 "DoorsBehind$Reader" "draft" "LDoorsBehind$House;" ∈ gw := gwm 154 (by decide +kernel) rfl
theorem fl_X7_22 : Cond.fieldLink RX7 22 "DoorsBehind$Reader" "length" "I" ∈ gw := gwm 155 (by decide +kernel) rfl
theorem fl_X11_345 : Cond.fieldLink RX11 345 "DoorsBehind$Reader" "length" "I" ∈ gw := gwm 156 (by decide +kernel) rfl
theorem fl_X7_30 : Cond.fieldLink RX7 30 "DoorsBehind$Reader" "at" "I" ∈ gw := gwm 157 (by decide +kernel) rfl
theorem fl_X11_135 : Cond.fieldLink RX11 135 "DoorsBehind$Reader" "at" "I" ∈ gw := gwm 158 (by decide +kernel) rfl
theorem fl_X7_33 : Cond.fieldLink RX7 33 "DoorsBehind$Reader" "fault" "I" ∈ gw := gwm 159 (by decide +kernel) rfl
theorem fl_X11_128 : Cond.fieldLink RX11 128 "DoorsBehind$Reader" "fault" "I" ∈ gw := gwm 160 (by decide +kernel) rfl
theorem sup_X7_java_lang_Object : Cond.superclass RX7 "java/lang/Object" ∈ gw := gwm 171 (by decide +kernel) rfl
theorem kl_X11_22 : Cond.classLink RX11 22 RX10 ∈ gw := gwm 172 (by decide +kernel) rfl
theorem ins_X10 : Cond.instantiable RX10 11 ∈ gw := gwm 173 (by decide +kernel) rfl
theorem im_X10_init : Cond.instanceMethod yX10_init ∈ gw := gwm 175 (by decide +kernel) rfl
theorem co_X10_init : Cond.code yX10_init cX10_init 1 none ∈ gw := gwm 176 (by decide +kernel) rfl
theorem ml_X10_3 : Cond.methodLink RX10 3 ⟨"java/lang/Object", "<init>", "()V"⟩ ∈ gw := gwm 177 (by decide +kernel) rfl
theorem kl_X10_9 : Cond.classLink RX10 9 RX3 ∈ gw := gwm 178 (by decide +kernel) rfl
theorem kl_X10_18 : Cond.classLink RX10 18 RX6 ∈ gw := gwm 180 (by decide +kernel) rfl
theorem ins_X6 : Cond.instantiable RX6 2 ∈ gw := gwm 181 (by decide +kernel) rfl
theorem ml_X10_20 : Cond.methodLink RX10 20 yX6_init ∈ gw := gwm 182 (by decide +kernel) rfl
theorem im_X6_init : Cond.instanceMethod yX6_init ∈ gw := gwm 183 (by decide +kernel) rfl
theorem co_X6_init : Cond.code yX6_init cX6_init 2 none ∈ gw := gwm 184 (by decide +kernel) rfl
theorem ml_X6_3 : Cond.methodLink RX6 3 ⟨"java/lang/Object", "<init>", "()V"⟩ ∈ gw := gwm 185 (by decide +kernel) rfl
theorem ml_X6_9 : Cond.methodLink RX6 9 yJ9_max_7cf53 ∈ gw := gwm 186 (by decide +kernel) rfl
theorem sm_J9_max_7cf53 : Cond.static yJ9_max_7cf53 ∈ gw := gwm 187 (by decide +kernel) rfl
theorem co_J9_max_7cf53 : Cond.code yJ9_max_7cf53 cJ9_max_7cf53 2 (some .int) ∈ gw := gwm 188 (by decide +kernel) rfl
theorem fl_X6_15 : Cond.fieldLink RX6 15 "DoorsBehind$Numbers" "numbers" "[I" ∈ gw := gwm 189 (by decide +kernel) rfl
theorem fl_X6_21 : Cond.fieldLink RX6 21 "DoorsBehind$Numbers" "length" "I" ∈ gw := gwm 190 (by decide +kernel) rfl
theorem fl_X11_344 : Cond.fieldLink RX11 344 "DoorsBehind$Numbers" "length" "I" ∈ gw := gwm 191 (by decide +kernel) rfl
theorem sup_X6_java_lang_Object : Cond.superclass RX6 "java/lang/Object" ∈ gw := gwm 196 (by decide +kernel) rfl
theorem fl_X10_12 : Cond.fieldLink RX10 12 "DoorsBehind$Walk" "house" "LDoorsBehind$House;" ∈ gw := gwm 197 (by decide +kernel) rfl
theorem fl_X11_29 : Cond.fieldLink RX11 29 "DoorsBehind$Walk" "house" "LDoorsBehind$House;" ∈ gw := gwm 198 (by decide +kernel) rfl
theorem fl_X10_23 : Cond.fieldLink RX10 23 "DoorsBehind$Walk" "ledger" "LDoorsBehind$Numbers;" ∈ gw := gwm 199 (by decide +kernel) rfl
theorem fl_X11_34 : Cond.fieldLink RX11 34 "DoorsBehind$Walk" "ledger" "LDoorsBehind$Numbers;" ∈ gw := gwm 200 (by decide +kernel) rfl
theorem fl_X10_27 : Cond.fieldLink RX10 27 "DoorsBehind$Walk" "opened" "[I" ∈ gw := gwm 201 (by decide +kernel) rfl
theorem fl_X10_49 : Cond.fieldLink RX10 49 "DoorsBehind$Walk" "openedCount" "I" ∈ gw := gwm 202 (by decide +kernel) rfl
theorem fl_X11_249 : Cond.fieldLink RX11 249 "DoorsBehind$Walk" "openedCount" "I" ∈ gw := gwm 203 (by decide +kernel) rfl
theorem fl_X10_58 : Cond.fieldLink RX10 58 "DoorsBehind$Walk" "openBits" "I" ∈ gw := gwm 204 (by decide +kernel) rfl
theorem fl_X10_61 : Cond.fieldLink RX10 61 "DoorsBehind$Walk" "room" "I" ∈ gw := gwm 205 (by decide +kernel) rfl
theorem fl_X11_252 : Cond.fieldLink RX11 252 "DoorsBehind$Walk" "room" "I" ∈ gw := gwm 206 (by decide +kernel) rfl
theorem fl_X10_64 : Cond.fieldLink RX10 64 "DoorsBehind$Walk" "noise" "I" ∈ gw := gwm 207 (by decide +kernel) rfl
theorem fl_X11_243 : Cond.fieldLink RX11 243 "DoorsBehind$Walk" "noise" "I" ∈ gw := gwm 208 (by decide +kernel) rfl
theorem fl_X10_67 : Cond.fieldLink RX10 67 "DoorsBehind$Walk" "draught" "I" ∈ gw := gwm 209 (by decide +kernel) rfl
theorem fl_X11_246 : Cond.fieldLink RX11 246 "DoorsBehind$Walk" "draught" "I" ∈ gw := gwm 210 (by decide +kernel) rfl
theorem fl_X10_70 : Cond.fieldLink RX10 70 "DoorsBehind$Walk" "keysUsed" "I" ∈ gw := gwm 211 (by decide +kernel) rfl
theorem fl_X11_265 : Cond.fieldLink RX11 265 "DoorsBehind$Walk" "keysUsed" "I" ∈ gw := gwm 212 (by decide +kernel) rfl
theorem fl_X10_52 : Cond.fieldLink RX10 52 "DoorsBehind$Walk" "weight" "I" ∈ gw := gwm 213 (by decide +kernel) rfl
theorem fl_X11_181 : Cond.fieldLink RX11 181 "DoorsBehind$Walk" "weight" "I" ∈ gw := gwm 214 (by decide +kernel) rfl
theorem fl_X10_34 : Cond.fieldLink RX10 34 "DoorsBehind$Walk" "finding" "I" ∈ gw := gwm 215 (by decide +kernel) rfl
theorem fl_X11_178 : Cond.fieldLink RX11 178 "DoorsBehind$Walk" "finding" "I" ∈ gw := gwm 216 (by decide +kernel) rfl
theorem sup_X10_java_lang_Object : Cond.superclass RX10 "java/lang/Object" ∈ gw := gwm 239 (by decide +kernel) rfl
theorem kl_X11_45 : Cond.classLink RX11 45 RX3 ∈ gw := gwm 240 (by decide +kernel) rfl
theorem kl_X11_54 : Cond.classLink RX11 54 RX6 ∈ gw := gwm 242 (by decide +kernel) rfl
theorem ml_X11_56 : Cond.methodLink RX11 56 yX6_init ∈ gw := gwm 243 (by decide +kernel) rfl
theorem ins_X8 : Cond.instantiable RX8 3 ∈ gw := gwm 244 (by decide +kernel) rfl
theorem im_X8_init : Cond.instanceMethod yX8_init ∈ gw := gwm 246 (by decide +kernel) rfl
theorem co_X8_init : Cond.code yX8_init cX8_init 1 none ∈ gw := gwm 247 (by decide +kernel) rfl
theorem ml_X8_3 : Cond.methodLink RX8 3 ⟨"java/lang/Object", "<init>", "()V"⟩ ∈ gw := gwm 248 (by decide +kernel) rfl
theorem fl_X8_9 : Cond.fieldLink RX8 9 "DoorsBehind$Row" "items" "[I" ∈ gw := gwm 249 (by decide +kernel) rfl
theorem fl_X11_103 : Cond.fieldLink RX11 103 "DoorsBehind$Row" "items" "[I" ∈ gw := gwm 250 (by decide +kernel) rfl
theorem fl_X8_15 : Cond.fieldLink RX8 15 "DoorsBehind$Row" "lane" "I" ∈ gw := gwm 251 (by decide +kernel) rfl
theorem fl_X11_99 : Cond.fieldLink RX11 99 "DoorsBehind$Row" "lane" "I" ∈ gw := gwm 252 (by decide +kernel) rfl
theorem fl_X8_28 : Cond.fieldLink RX8 28 "DoorsBehind$Row" "length" "I" ∈ gw := gwm 253 (by decide +kernel) rfl
theorem fl_X11_112 : Cond.fieldLink RX11 112 "DoorsBehind$Row" "length" "I" ∈ gw := gwm 254 (by decide +kernel) rfl
theorem sup_X8_java_lang_Object : Cond.superclass RX8 "java/lang/Object" ∈ gw := gwm 261 (by decide +kernel) rfl
theorem fl_X11_11 : Cond.fieldLink RX11 11 "DoorsBehind" "rows" "[LDoorsBehind$Row;" ∈ gw := gwm 263 (by decide +kernel) rfl
theorem fl_X11_18 : Cond.fieldLink RX11 18 "DoorsBehind" "reader" "LDoorsBehind$Reader;" ∈ gw := gwm 264 (by decide +kernel) rfl
theorem fl_X11_25 : Cond.fieldLink RX11 25 "DoorsBehind" "real" "LDoorsBehind$Walk;" ∈ gw := gwm 265 (by decide +kernel) rfl
theorem fl_X11_33 : Cond.fieldLink RX11 33 "DoorsBehind" "house" "LDoorsBehind$House;" ∈ gw := gwm 266 (by decide +kernel) rfl
theorem fl_X11_38 : Cond.fieldLink RX11 38 "DoorsBehind" "ledger" "LDoorsBehind$Numbers;" ∈ gw := gwm 267 (by decide +kernel) rfl
theorem fl_X11_39 : Cond.fieldLink RX11 39 "DoorsBehind" "dream" "LDoorsBehind$Walk;" ∈ gw := gwm 268 (by decide +kernel) rfl
theorem fl_X11_42 : Cond.fieldLink RX11 42 "DoorsBehind" "dreamt" "LDoorsBehind$House;" ∈ gw := gwm 269 (by decide +kernel) rfl
theorem fl_X11_47 : Cond.fieldLink RX11 47 "DoorsBehind" "acts" "[LDoorsBehind$House;" ∈ gw := gwm 270 (by decide +kernel) rfl
theorem fl_X11_51 : Cond.fieldLink RX11 51 "DoorsBehind" "images" "[LDoorsBehind$House;" ∈ gw := gwm 271 (by decide +kernel) rfl
theorem fl_X11_59 : Cond.fieldLink RX11 59 "DoorsBehind" "trace" "LDoorsBehind$Numbers;" ∈ gw := gwm 272 (by decide +kernel) rfl
theorem fl_X11_62 : Cond.fieldLink RX11 62 "DoorsBehind" "turns" "[LDoorsBehind$House;" ∈ gw := gwm 273 (by decide +kernel) rfl
theorem fl_X11_65 : Cond.fieldLink RX11 65 "DoorsBehind" "route" "[I" ∈ gw := gwm 274 (by decide +kernel) rfl
theorem fl_X11_158 : Cond.fieldLink RX11 158 "DoorsBehind" "oldestAct" "I" ∈ gw := gwm 275 (by decide +kernel) rfl
theorem fl_X11_154 : Cond.fieldLink RX11 154 "DoorsBehind" "actCount" "I" ∈ gw := gwm 276 (by decide +kernel) rfl
theorem fl_X11_131 : Cond.fieldLink RX11 131 "DoorsBehind" "latestFault" "I" ∈ gw := gwm 277 (by decide +kernel) rfl
theorem fl_X11_346 : Cond.fieldLink RX11 346 "DoorsBehind" "latestFinding" "I" ∈ gw := gwm 278 (by decide +kernel) rfl
theorem sup_X11_java_lang_Object : Cond.superclass RX11 "java/lang/Object" ∈ gw := gwm 311 (by decide +kernel) rfl
theorem ml_L_13 : Cond.methodLink RL 13 yX11_row ∈ gw := gwm 312 (by decide +kernel) rfl
theorem im_X11_row : Cond.instanceMethod yX11_row ∈ gw := gwm 313 (by decide +kernel) rfl
theorem se_X11_X11_row_X11_row : Cond.selects RX11 yX11_row yX11_row ∈ gw := gwm 314 (by decide +kernel) rfl
theorem co_X11_row : Cond.code yX11_row cX11_row 4 (some .int) ∈ gw := gwm 315 (by decide +kernel) rfl
theorem ml_X11_71 : Cond.methodLink RX11 71 yX11_lacksRow ∈ gw := gwm 316 (by decide +kernel) rfl
theorem sm_X11_lacksRow : Cond.static yX11_lacksRow ∈ gw := gwm 317 (by decide +kernel) rfl
theorem co_X11_lacksRow : Cond.code yX11_lacksRow cX11_lacksRow 1 (some .boolean) ∈ gw := gwm 318 (by decide +kernel) rfl
theorem ko_X11_75 : Cond.constant RX11 75 (-1000001) ∈ gw := gwm 319 (by decide +kernel) rfl
theorem ml_X11_76 : Cond.methodLink RX11 76 yX11_found ∈ gw := gwm 320 (by decide +kernel) rfl
theorem im_X11_found : Cond.instanceMethod yX11_found ∈ gw := gwm 322 (by decide +kernel) rfl
theorem co_X11_found : Cond.code yX11_found cX11_found 2 (some .int) ∈ gw := gwm 323 (by decide +kernel) rfl
theorem ko_X11_349 : Cond.constant RX11 349 (-1000010) ∈ gw := gwm 324 (by decide +kernel) rfl
theorem ml_X11_80 : Cond.methodLink RX11 80 yX8_begin ∈ gw := gwm 325 (by decide +kernel) rfl
theorem im_X8_begin : Cond.instanceMethod yX8_begin ∈ gw := gwm 326 (by decide +kernel) rfl
theorem se_X8_X8_begin_X8_begin : Cond.selects RX8 yX8_begin yX8_begin ∈ gw := gwm 327 (by decide +kernel) rfl
theorem co_X8_begin : Cond.code yX8_begin cX8_begin 4 none ∈ gw := gwm 328 (by decide +kernel) rfl
theorem ml_X8_19 : Cond.methodLink RX8 19 yJ9_min_7cf53 ∈ gw := gwm 329 (by decide +kernel) rfl
theorem sm_J9_min_7cf53 : Cond.static yJ9_min_7cf53 ∈ gw := gwm 330 (by decide +kernel) rfl
theorem co_J9_min_7cf53 : Cond.code yJ9_min_7cf53 cJ9_min_7cf53 2 (some .int) ∈ gw := gwm 331 (by decide +kernel) rfl
theorem ml_X8_25 : Cond.methodLink RX8 25 yJ9_max_7cf53 ∈ gw := gwm 332 (by decide +kernel) rfl
theorem ml_X11_84 : Cond.methodLink RX11 84 yX11_well ∈ gw := gwm 333 (by decide +kernel) rfl
theorem im_X11_well : Cond.instanceMethod yX11_well ∈ gw := gwm 335 (by decide +kernel) rfl
theorem co_X11_well : Cond.code yX11_well cX11_well 2 (some .int) ∈ gw := gwm 336 (by decide +kernel) rfl
theorem ml_L_18 : Cond.methodLink RL 18 yX11_set ∈ gw := gwm 337 (by decide +kernel) rfl
theorem im_X11_set : Cond.instanceMethod yX11_set ∈ gw := gwm 338 (by decide +kernel) rfl
theorem se_X11_X11_set_X11_set : Cond.selects RX11 yX11_set yX11_set ∈ gw := gwm 339 (by decide +kernel) rfl
theorem co_X11_set : Cond.code yX11_set cX11_set 5 (some .int) ∈ gw := gwm 340 (by decide +kernel) rfl
theorem ml_X11_87 : Cond.methodLink RX11 87 yX8_isMissing ∈ gw := gwm 341 (by decide +kernel) rfl
theorem im_X8_isMissing : Cond.instanceMethod yX8_isMissing ∈ gw := gwm 342 (by decide +kernel) rfl
theorem se_X8_X8_isMissing_X8_isMissing : Cond.selects RX8 yX8_isMissing yX8_isMissing ∈ gw := gwm 343 (by decide +kernel) rfl
theorem co_X8_isMissing : Cond.code yX8_isMissing cX8_isMissing 1 (some .boolean) ∈ gw := gwm 344 (by decide +kernel) rfl
theorem ml_X11_91 : Cond.methodLink RX11 91 yX8_holds ∈ gw := gwm 345 (by decide +kernel) rfl
theorem im_X8_holds : Cond.instanceMethod yX8_holds ∈ gw := gwm 346 (by decide +kernel) rfl
theorem se_X8_X8_holds_X8_holds : Cond.selects RX8 yX8_holds yX8_holds ∈ gw := gwm 347 (by decide +kernel) rfl
theorem co_X8_holds : Cond.code yX8_holds cX8_holds 3 (some .boolean) ∈ gw := gwm 348 (by decide +kernel) rfl
theorem ml_X11_95 : Cond.methodLink RX11 95 yX8_put ∈ gw := gwm 349 (by decide +kernel) rfl
theorem im_X8_put : Cond.instanceMethod yX8_put ∈ gw := gwm 350 (by decide +kernel) rfl
theorem se_X8_X8_put_X8_put : Cond.selects RX8 yX8_put yX8_put ∈ gw := gwm 351 (by decide +kernel) rfl
theorem co_X8_put : Cond.code yX8_put cX8_put 4 (some .int) ∈ gw := gwm 352 (by decide +kernel) rfl
theorem ml_X8_31 : Cond.methodLink RX8 31 yX8_holds ∈ gw := gwm 353 (by decide +kernel) rfl
theorem ml_L_22 : Cond.methodLink RL 22 yX11_copy ∈ gw := gwm 354 (by decide +kernel) rfl
theorem im_X11_copy : Cond.instanceMethod yX11_copy ∈ gw := gwm 355 (by decide +kernel) rfl
theorem se_X11_X11_copy_X11_copy : Cond.selects RX11 yX11_copy yX11_copy ∈ gw := gwm 356 (by decide +kernel) rfl
theorem co_X11_copy : Cond.code yX11_copy cX11_copy 8 (some .int) ∈ gw := gwm 357 (by decide +kernel) rfl
theorem ml_X11_106 : Cond.methodLink RX11 106 ⟨"java/lang/System", "arraycopy", "(Ljava/lang/Object;ILjava/lang/Object;II)V"⟩ ∈ gw := gwm 358 (by decide +kernel) rfl
theorem sm_arraycopy : Cond.static ⟨"java/lang/System", "arraycopy", "(Ljava/lang/Object;ILjava/lang/Object;II)V"⟩ ∈ gw := gwm 359 (by decide +kernel) rfl
theorem nat_arraycopy : Cond.native ⟨"java/lang/System", "arraycopy", "(Ljava/lang/Object;ILjava/lang/Object;II)V"⟩ ∈ gw := gwm 360 (by decide +kernel) rfl
theorem ml_L_27 : Cond.methodLink RL 27 yX11_drop ∈ gw := gwm 361 (by decide +kernel) rfl
theorem im_X11_drop : Cond.instanceMethod yX11_drop ∈ gw := gwm 362 (by decide +kernel) rfl
theorem se_X11_X11_drop_X11_drop : Cond.selects RX11 yX11_drop yX11_drop ∈ gw := gwm 363 (by decide +kernel) rfl
theorem co_X11_drop : Cond.code yX11_drop cX11_drop 4 (some .int) ∈ gw := gwm 364 (by decide +kernel) rfl
theorem ml_X11_115 : Cond.methodLink RX11 115 yX8_end ∈ gw := gwm 365 (by decide +kernel) rfl
theorem im_X8_end : Cond.instanceMethod yX8_end ∈ gw := gwm 366 (by decide +kernel) rfl
theorem se_X8_X8_end_X8_end : Cond.selects RX8 yX8_end yX8_end ∈ gw := gwm 367 (by decide +kernel) rfl
theorem co_X8_end : Cond.code yX8_end cX8_end 1 none ∈ gw := gwm 368 (by decide +kernel) rfl
theorem ml_L_32 : Cond.methodLink RL 32 yX11_feed ∈ gw := gwm 369 (by decide +kernel) rfl
theorem im_X11_feed : Cond.instanceMethod yX11_feed ∈ gw := gwm 370 (by decide +kernel) rfl
theorem se_X11_X11_feed_X11_feed : Cond.selects RX11 yX11_feed yX11_feed ∈ gw := gwm 371 (by decide +kernel) rfl
theorem co_X11_feed : Cond.code yX11_feed cX11_feed 2 (some .int) ∈ gw := gwm 372 (by decide +kernel) rfl
theorem ml_X11_118 : Cond.methodLink RX11 118 yX7_isFull ∈ gw := gwm 373 (by decide +kernel) rfl
theorem im_X7_isFull : Cond.instanceMethod yX7_isFull ∈ gw := gwm 374 (by decide +kernel) rfl
theorem se_X7_X7_isFull_X7_isFull : Cond.selects RX7 yX7_isFull yX7_isFull ∈ gw := gwm 375 (by decide +kernel) rfl
theorem co_X7_isFull : Cond.code yX7_isFull cX7_isFull 1 (some .boolean) ∈ gw := gwm 376 (by decide +kernel) rfl
theorem ko_X11_121 : Cond.constant RX11 121 (-1000003) ∈ gw := gwm 377 (by decide +kernel) rfl
theorem ml_X11_122 : Cond.methodLink RX11 122 yX7_take ∈ gw := gwm 378 (by decide +kernel) rfl
theorem im_X7_take : Cond.instanceMethod yX7_take ∈ gw := gwm 379 (by decide +kernel) rfl
theorem se_X7_X7_take_X7_take : Cond.selects RX7 yX7_take yX7_take ∈ gw := gwm 380 (by decide +kernel) rfl
theorem co_X7_take : Cond.code yX7_take cX7_take 2 (some .int) ∈ gw := gwm 381 (by decide +kernel) rfl
theorem ml_X7_26 : Cond.methodLink RX7 26 yX7_isFull ∈ gw := gwm 382 (by decide +kernel) rfl
theorem ml_L_36 : Cond.methodLink RL 36 yX11_house ∈ gw := gwm 383 (by decide +kernel) rfl
theorem im_X11_house : Cond.instanceMethod yX11_house ∈ gw := gwm 384 (by decide +kernel) rfl
theorem se_X11_X11_house_X11_house : Cond.selects RX11 yX11_house yX11_house ∈ gw := gwm 385 (by decide +kernel) rfl
theorem co_X11_house : Cond.code yX11_house cX11_house 1 (some .int) ∈ gw := gwm 386 (by decide +kernel) rfl
theorem ml_X11_125 : Cond.methodLink RX11 125 yX7_read ∈ gw := gwm 387 (by decide +kernel) rfl
theorem im_X7_read : Cond.instanceMethod yX7_read ∈ gw := gwm 388 (by decide +kernel) rfl
theorem se_X7_X7_read_X7_read : Cond.selects RX7 yX7_read yX7_read ∈ gw := gwm 389 (by decide +kernel) rfl
theorem co_X7_read : Cond.code yX7_read cX7_read 2 none ∈ gw := gwm 390 (by decide +kernel) rfl
theorem ml_X7_36 : Cond.methodLink RX7 36 yX3_clear ∈ gw := gwm 391 (by decide +kernel) rfl
theorem im_X3_clear : Cond.instanceMethod yX3_clear ∈ gw := gwm 392 (by decide +kernel) rfl
theorem se_X3_X3_clear_X3_clear : Cond.selects RX3 yX3_clear yX3_clear ∈ gw := gwm 393 (by decide +kernel) rfl
theorem co_X3_clear : Cond.code yX3_clear cX3_clear 1 none ∈ gw := gwm 394 (by decide +kernel) rfl
theorem ml_X7_39 : Cond.methodLink RX7 39 yX7_readLaw ∈ gw := gwm 395 (by decide +kernel) rfl
theorem im_X7_readLaw : Cond.instanceMethod yX7_readLaw ∈ gw := gwm 397 (by decide +kernel) rfl
theorem co_X7_readLaw : Cond.code yX7_readLaw cX7_readLaw 1 none ∈ gw := gwm 398 (by decide +kernel) rfl
theorem ml_X7_66 : Cond.methodLink RX7 66 yX7_readSign ∈ gw := gwm 399 (by decide +kernel) rfl
theorem im_X7_readSign : Cond.instanceMethod yX7_readSign ∈ gw := gwm 401 (by decide +kernel) rfl
theorem co_X7_readSign : Cond.code yX7_readSign cX7_readSign 2 none ∈ gw := gwm 402 (by decide +kernel) rfl
theorem ml_X7_42 : Cond.methodLink RX7 42 yX7_sees ∈ gw := gwm 403 (by decide +kernel) rfl
theorem im_X7_sees : Cond.instanceMethod yX7_sees ∈ gw := gwm 405 (by decide +kernel) rfl
theorem co_X7_sees : Cond.code yX7_sees cX7_sees 2 (some .boolean) ∈ gw := gwm 406 (by decide +kernel) rfl
theorem ml_X7_85 : Cond.methodLink RX7 85 yX7_signHere ∈ gw := gwm 407 (by decide +kernel) rfl
theorem im_X7_signHere : Cond.instanceMethod yX7_signHere ∈ gw := gwm 409 (by decide +kernel) rfl
theorem co_X7_signHere : Cond.code yX7_signHere cX7_signHere 1 (some .int) ∈ gw := gwm 410 (by decide +kernel) rfl
theorem ml_X7_52 : Cond.methodLink RX7 52 yX7_fail ∈ gw := gwm 411 (by decide +kernel) rfl
theorem im_X7_fail : Cond.instanceMethod yX7_fail ∈ gw := gwm 413 (by decide +kernel) rfl
theorem co_X7_fail : Cond.code yX7_fail cX7_fail 2 none ∈ gw := gwm 414 (by decide +kernel) rfl
theorem ml_X7_69 : Cond.methodLink RX7 69 yX7_readNumber ∈ gw := gwm 415 (by decide +kernel) rfl
theorem im_X7_readNumber : Cond.instanceMethod yX7_readNumber ∈ gw := gwm 417 (by decide +kernel) rfl
theorem co_X7_readNumber : Cond.code yX7_readNumber cX7_readNumber 7 (some .int) ∈ gw := gwm 418 (by decide +kernel) rfl
theorem ml_X7_92 : Cond.methodLink RX7 92 yX7_figures ∈ gw := gwm 419 (by decide +kernel) rfl
theorem im_X7_figures : Cond.instanceMethod yX7_figures ∈ gw := gwm 421 (by decide +kernel) rfl
theorem co_X7_figures : Cond.code yX7_figures cX7_figures 3 (some .int) ∈ gw := gwm 422 (by decide +kernel) rfl
theorem ml_X7_46 : Cond.methodLink RX7 46 yX7_readRoom ∈ gw := gwm 423 (by decide +kernel) rfl
theorem im_X7_readRoom : Cond.instanceMethod yX7_readRoom ∈ gw := gwm 425 (by decide +kernel) rfl
theorem co_X7_readRoom : Cond.code yX7_readRoom cX7_readRoom 2 none ∈ gw := gwm 426 (by decide +kernel) rfl
theorem ml_X7_82 : Cond.methodLink RX7 82 yX3_addRoom ∈ gw := gwm 427 (by decide +kernel) rfl
theorem im_X3_addRoom : Cond.instanceMethod yX3_addRoom ∈ gw := gwm 428 (by decide +kernel) rfl
theorem se_X3_X3_addRoom_X3_addRoom : Cond.selects RX3 yX3_addRoom yX3_addRoom ∈ gw := gwm 429 (by decide +kernel) rfl
theorem co_X3_addRoom : Cond.code yX3_addRoom cX3_addRoom 2 none ∈ gw := gwm 430 (by decide +kernel) rfl
theorem ml_X7_56 : Cond.methodLink RX7 56 yX7_sortSeen ∈ gw := gwm 431 (by decide +kernel) rfl
theorem im_X7_sortSeen : Cond.instanceMethod yX7_sortSeen ∈ gw := gwm 433 (by decide +kernel) rfl
theorem co_X7_sortSeen : Cond.code yX7_sortSeen cX7_sortSeen 1 (some .int) ∈ gw := gwm 434 (by decide +kernel) rfl
theorem ml_X7_60 : Cond.methodLink RX7 60 yX7_readDoor ∈ gw := gwm 435 (by decide +kernel) rfl
theorem im_X7_readDoor : Cond.instanceMethod yX7_readDoor ∈ gw := gwm 437 (by decide +kernel) rfl
theorem co_X7_readDoor : Cond.code yX7_readDoor cX7_readDoor 5 none ∈ gw := gwm 438 (by decide +kernel) rfl
theorem ml_X7_88 : Cond.methodLink RX7 88 yX3_addDoor ∈ gw := gwm 439 (by decide +kernel) rfl
theorem im_X3_addDoor : Cond.instanceMethod yX3_addDoor ∈ gw := gwm 440 (by decide +kernel) rfl
theorem se_X3_X3_addDoor_X3_addDoor : Cond.selects RX3 yX3_addDoor yX3_addDoor ∈ gw := gwm 441 (by decide +kernel) rfl
theorem co_X3_addDoor : Cond.code yX3_addDoor cX3_addDoor 5 none ∈ gw := gwm 442 (by decide +kernel) rfl
theorem ml_X3_53 : Cond.methodLink RX3 53 yX2_of ∈ gw := gwm 443 (by decide +kernel) rfl
theorem sm_X2_of : Cond.static yX2_of ∈ gw := gwm 444 (by decide +kernel) rfl
theorem co_X2_of : Cond.code yX2_of cX2_of 5 (some (.object "DoorsBehind$Door")) ∈ gw := gwm 445 (by decide +kernel) rfl
theorem kl_X2_22 : Cond.classLink RX2 22 RX0 ∈ gw := gwm 446 (by decide +kernel) rfl
theorem ins_X0 : Cond.instantiable RX0 4 ∈ gw := gwm 447 (by decide +kernel) rfl
theorem ml_X2_24 : Cond.methodLink RX2 24 yX0_init ∈ gw := gwm 448 (by decide +kernel) rfl
theorem im_X0_init : Cond.instanceMethod yX0_init ∈ gw := gwm 449 (by decide +kernel) rfl
theorem co_X0_init : Cond.code yX0_init cX0_init 5 none ∈ gw := gwm 450 (by decide +kernel) rfl
theorem ml_X0_1 : Cond.methodLink RX0 1 yX4_init ∈ gw := gwm 451 (by decide +kernel) rfl
theorem im_X4_init : Cond.instanceMethod yX4_init ∈ gw := gwm 452 (by decide +kernel) rfl
theorem co_X4_init : Cond.code yX4_init cX4_init 5 none ∈ gw := gwm 453 (by decide +kernel) rfl
theorem ml_X4_1 : Cond.methodLink RX4 1 yX2_init ∈ gw := gwm 454 (by decide +kernel) rfl
theorem im_X2_init : Cond.instanceMethod yX2_init ∈ gw := gwm 455 (by decide +kernel) rfl
theorem co_X2_init : Cond.code yX2_init cX2_init 5 none ∈ gw := gwm 456 (by decide +kernel) rfl
theorem ml_X2_1 : Cond.methodLink RX2 1 ⟨"java/lang/Object", "<init>", "()V"⟩ ∈ gw := gwm 457 (by decide +kernel) rfl
theorem fl_X2_7 : Cond.fieldLink RX2 7 "DoorsBehind$Door" "number" "I" ∈ gw := gwm 458 (by decide +kernel) rfl
theorem fl_X10_83 : Cond.fieldLink RX10 83 "DoorsBehind$Door" "number" "I" ∈ gw := gwm 459 (by decide +kernel) rfl
theorem fl_X3_68 : Cond.fieldLink RX3 68 "DoorsBehind$Door" "number" "I" ∈ gw := gwm 460 (by decide +kernel) rfl
theorem fl_X11_325 : Cond.fieldLink RX11 325 "DoorsBehind$Door" "number" "I" ∈ gw := gwm 461 (by decide +kernel) rfl
theorem fl_X2_13 : Cond.fieldLink RX2 13 "DoorsBehind$Door" "from" "I" ∈ gw := gwm 462 (by decide +kernel) rfl
theorem fl_X3_71 : Cond.fieldLink RX3 71 "DoorsBehind$Door" "from" "I" ∈ gw := gwm 463 (by decide +kernel) rfl
theorem fl_X11_217 : Cond.fieldLink RX11 217 "DoorsBehind$Door" "from" "I" ∈ gw := gwm 464 (by decide +kernel) rfl
theorem fl_X2_16 : Cond.fieldLink RX2 16 "DoorsBehind$Door" "to" "I" ∈ gw := gwm 465 (by decide +kernel) rfl
theorem fl_X3_74 : Cond.fieldLink RX3 74 "DoorsBehind$Door" "to" "I" ∈ gw := gwm 466 (by decide +kernel) rfl
theorem fl_X11_222 : Cond.fieldLink RX11 222 "DoorsBehind$Door" "to" "I" ∈ gw := gwm 467 (by decide +kernel) rfl
theorem fl_X2_19 : Cond.fieldLink RX2 19 "DoorsBehind$Door" "n" "I" ∈ gw := gwm 468 (by decide +kernel) rfl
theorem fl_X0_11 : Cond.fieldLink RX0 11 "DoorsBehind$Bolt" "n" "I" ∈ gw := gwm 469 (by decide +kernel) rfl
theorem saf_X0_X2_n : Cond.sameField RX0 RX2 "n" "I" ∈ gw := gwm 470 (by decide +kernel) rfl
theorem fl_X1_11 : Cond.fieldLink RX1 11 "DoorsBehind$Creaker" "n" "I" ∈ gw := gwm 471 (by decide +kernel) rfl
theorem saf_X1_X2_n : Cond.sameField RX1 RX2 "n" "I" ∈ gw := gwm 472 (by decide +kernel) rfl
theorem fl_X4_11 : Cond.fieldLink RX4 11 "DoorsBehind$Latch" "n" "I" ∈ gw := gwm 473 (by decide +kernel) rfl
theorem saf_X4_X2_n : Cond.sameField RX4 RX2 "n" "I" ∈ gw := gwm 474 (by decide +kernel) rfl
theorem fl_X5_11 : Cond.fieldLink RX5 11 "DoorsBehind$Lock" "n" "I" ∈ gw := gwm 475 (by decide +kernel) rfl
theorem saf_X5_X2_n : Cond.sameField RX5 RX2 "n" "I" ∈ gw := gwm 476 (by decide +kernel) rfl
theorem fl_X3_65 : Cond.fieldLink RX3 65 "DoorsBehind$Door" "n" "I" ∈ gw := gwm 477 (by decide +kernel) rfl
theorem fl_X11_225 : Cond.fieldLink RX11 225 "DoorsBehind$Door" "n" "I" ∈ gw := gwm 478 (by decide +kernel) rfl
theorem sup_X0_X4 : Cond.superclass RX0 RX4 ∈ gw := gwm 487 (by decide +kernel) rfl
theorem kl_X2_27 : Cond.classLink RX2 27 RX1 ∈ gw := gwm 488 (by decide +kernel) rfl
theorem ins_X1 : Cond.instantiable RX1 4 ∈ gw := gwm 489 (by decide +kernel) rfl
theorem ml_X2_29 : Cond.methodLink RX2 29 yX1_init ∈ gw := gwm 490 (by decide +kernel) rfl
theorem im_X1_init : Cond.instanceMethod yX1_init ∈ gw := gwm 491 (by decide +kernel) rfl
theorem co_X1_init : Cond.code yX1_init cX1_init 5 none ∈ gw := gwm 492 (by decide +kernel) rfl
theorem ml_X1_1 : Cond.methodLink RX1 1 yX4_init ∈ gw := gwm 493 (by decide +kernel) rfl
theorem sup_X1_X4 : Cond.superclass RX1 RX4 ∈ gw := gwm 498 (by decide +kernel) rfl
theorem kl_X2_30 : Cond.classLink RX2 30 RX5 ∈ gw := gwm 499 (by decide +kernel) rfl
theorem ins_X5 : Cond.instantiable RX5 4 ∈ gw := gwm 500 (by decide +kernel) rfl
theorem ml_X2_32 : Cond.methodLink RX2 32 yX5_init ∈ gw := gwm 501 (by decide +kernel) rfl
theorem im_X5_init : Cond.instanceMethod yX5_init ∈ gw := gwm 502 (by decide +kernel) rfl
theorem co_X5_init : Cond.code yX5_init cX5_init 5 none ∈ gw := gwm 503 (by decide +kernel) rfl
theorem ml_X5_1 : Cond.methodLink RX5 1 yX2_init ∈ gw := gwm 504 (by decide +kernel) rfl
theorem sup_X5_X2 : Cond.superclass RX5 RX2 ∈ gw := gwm 509 (by decide +kernel) rfl
theorem kl_X2_33 : Cond.classLink RX2 33 RX9 ∈ gw := gwm 510 (by decide +kernel) rfl
theorem ins_X9 : Cond.instantiable RX9 4 ∈ gw := gwm 511 (by decide +kernel) rfl
theorem ml_X2_35 : Cond.methodLink RX2 35 yX9_init ∈ gw := gwm 512 (by decide +kernel) rfl
theorem im_X9_init : Cond.instanceMethod yX9_init ∈ gw := gwm 513 (by decide +kernel) rfl
theorem co_X9_init : Cond.code yX9_init cX9_init 5 none ∈ gw := gwm 514 (by decide +kernel) rfl
theorem ml_X9_1 : Cond.methodLink RX9 1 yX5_init ∈ gw := gwm 515 (by decide +kernel) rfl
theorem sup_X9_X5 : Cond.superclass RX9 RX5 ∈ gw := gwm 520 (by decide +kernel) rfl
theorem kl_X2_36 : Cond.classLink RX2 36 RX4 ∈ gw := gwm 521 (by decide +kernel) rfl
theorem ins_X4 : Cond.instantiable RX4 4 ∈ gw := gwm 522 (by decide +kernel) rfl
theorem ml_X2_38 : Cond.methodLink RX2 38 yX4_init ∈ gw := gwm 523 (by decide +kernel) rfl
theorem sup_X4_X2 : Cond.superclass RX4 RX2 ∈ gw := gwm 528 (by decide +kernel) rfl
theorem ko_X11_134 : Cond.constant RX11 134 (-1000100) ∈ gw := gwm 529 (by decide +kernel) rfl
theorem ml_X11_141 : Cond.methodLink RX11 141 yX3_become ∈ gw := gwm 530 (by decide +kernel) rfl
theorem im_X3_become : Cond.instanceMethod yX3_become ∈ gw := gwm 531 (by decide +kernel) rfl
theorem se_X3_X3_become_X3_become : Cond.selects RX3 yX3_become yX3_become ∈ gw := gwm 532 (by decide +kernel) rfl
theorem co_X3_become : Cond.code yX3_become cX3_become 3 none ∈ gw := gwm 533 (by decide +kernel) rfl
theorem ml_X3_34 : Cond.methodLink RX3 34 ⟨"java/lang/System", "arraycopy", "(Ljava/lang/Object;ILjava/lang/Object;II)V"⟩ ∈ gw := gwm 534 (by decide +kernel) rfl
theorem ml_X11_145 : Cond.methodLink RX11 145 yX11_forgetActs ∈ gw := gwm 535 (by decide +kernel) rfl
theorem im_X11_forgetActs : Cond.instanceMethod yX11_forgetActs ∈ gw := gwm 537 (by decide +kernel) rfl
theorem co_X11_forgetActs : Cond.code yX11_forgetActs cX11_forgetActs 1 none ∈ gw := gwm 538 (by decide +kernel) rfl
theorem ml_X11_148 : Cond.methodLink RX11 148 yX6_clear ∈ gw := gwm 539 (by decide +kernel) rfl
theorem im_X6_clear : Cond.instanceMethod yX6_clear ∈ gw := gwm 540 (by decide +kernel) rfl
theorem se_X6_X6_clear_X6_clear : Cond.selects RX6 yX6_clear yX6_clear ∈ gw := gwm 541 (by decide +kernel) rfl
theorem co_X6_clear : Cond.code yX6_clear cX6_clear 1 none ∈ gw := gwm 542 (by decide +kernel) rfl
theorem ml_L_41 : Cond.methodLink RL 41 yX11_fault ∈ gw := gwm 543 (by decide +kernel) rfl
theorem im_X11_fault : Cond.instanceMethod yX11_fault ∈ gw := gwm 544 (by decide +kernel) rfl
theorem se_X11_X11_fault_X11_fault : Cond.selects RX11 yX11_fault yX11_fault ∈ gw := gwm 545 (by decide +kernel) rfl
theorem co_X11_fault : Cond.code yX11_fault cX11_fault 1 (some .int) ∈ gw := gwm 546 (by decide +kernel) rfl
theorem ml_L_45 : Cond.methodLink RL 45 yX11_undo ∈ gw := gwm 547 (by decide +kernel) rfl
theorem im_X11_undo : Cond.instanceMethod yX11_undo ∈ gw := gwm 548 (by decide +kernel) rfl
theorem se_X11_X11_undo_X11_undo : Cond.selects RX11 yX11_undo yX11_undo ∈ gw := gwm 549 (by decide +kernel) rfl
theorem co_X11_undo : Cond.code yX11_undo cX11_undo 1 (some .int) ∈ gw := gwm 550 (by decide +kernel) rfl
theorem ko_X11_157 : Cond.constant RX11 157 (-1000002) ∈ gw := gwm 551 (by decide +kernel) rfl
theorem ml_L_49 : Cond.methodLink RL 49 yX11_errand ∈ gw := gwm 552 (by decide +kernel) rfl
theorem im_X11_errand : Cond.instanceMethod yX11_errand ∈ gw := gwm 553 (by decide +kernel) rfl
theorem se_X11_X11_errand_X11_errand : Cond.selects RX11 yX11_errand yX11_errand ∈ gw := gwm 554 (by decide +kernel) rfl
theorem co_X11_errand : Cond.code yX11_errand cX11_errand 5 (some .int) ∈ gw := gwm 555 (by decide +kernel) rfl
theorem ml_X11_161 : Cond.methodLink RX11 161 yX3_stands ∈ gw := gwm 556 (by decide +kernel) rfl
theorem im_X3_stands : Cond.instanceMethod yX3_stands ∈ gw := gwm 557 (by decide +kernel) rfl
theorem se_X3_X3_stands_X3_stands : Cond.selects RX3 yX3_stands yX3_stands ∈ gw := gwm 558 (by decide +kernel) rfl
theorem co_X3_stands : Cond.code yX3_stands cX3_stands 1 (some .boolean) ∈ gw := gwm 559 (by decide +kernel) rfl
theorem ml_X11_164 : Cond.methodLink RX11 164 yX11_isBadRoute ∈ gw := gwm 560 (by decide +kernel) rfl
theorem sm_X11_isBadRoute : Cond.static yX11_isBadRoute ∈ gw := gwm 561 (by decide +kernel) rfl
theorem co_X11_isBadRoute : Cond.code yX11_isBadRoute cX11_isBadRoute 2 (some .boolean) ∈ gw := gwm 562 (by decide +kernel) rfl
theorem ml_X11_167 : Cond.methodLink RX11 167 yX11_lackOfRoute ∈ gw := gwm 563 (by decide +kernel) rfl
theorem im_X11_lackOfRoute : Cond.instanceMethod yX11_lackOfRoute ∈ gw := gwm 565 (by decide +kernel) rfl
theorem co_X11_lackOfRoute : Cond.code yX11_lackOfRoute cX11_lackOfRoute 4 (some .int) ∈ gw := gwm 566 (by decide +kernel) rfl
theorem ml_X11_171 : Cond.methodLink RX11 171 yX11_keepAct ∈ gw := gwm 567 (by decide +kernel) rfl
theorem im_X11_keepAct : Cond.instanceMethod yX11_keepAct ∈ gw := gwm 569 (by decide +kernel) rfl
theorem co_X11_keepAct : Cond.code yX11_keepAct cX11_keepAct 1 none ∈ gw := gwm 570 (by decide +kernel) rfl
theorem ml_X11_174 : Cond.methodLink RX11 174 yX10_go ∈ gw := gwm 571 (by decide +kernel) rfl
theorem im_X10_go : Cond.instanceMethod yX10_go ∈ gw := gwm 572 (by decide +kernel) rfl
theorem se_X10_X10_go_X10_go : Cond.selects RX10 yX10_go yX10_go ∈ gw := gwm 573 (by decide +kernel) rfl
theorem co_X10_go : Cond.code yX10_go cX10_go 6 none ∈ gw := gwm 574 (by decide +kernel) rfl
theorem ml_X10_31 : Cond.methodLink RX10 31 yX10_begin ∈ gw := gwm 575 (by decide +kernel) rfl
theorem im_X10_begin : Cond.instanceMethod yX10_begin ∈ gw := gwm 577 (by decide +kernel) rfl
theorem co_X10_begin : Cond.code yX10_begin cX10_begin 1 none ∈ gw := gwm 578 (by decide +kernel) rfl
theorem ml_X10_55 : Cond.methodLink RX10 55 yX6_clear ∈ gw := gwm 579 (by decide +kernel) rfl
theorem ml_X10_38 : Cond.methodLink RX10 38 yX10_pass ∈ gw := gwm 580 (by decide +kernel) rfl
theorem im_X10_pass : Cond.instanceMethod yX10_pass ∈ gw := gwm 582 (by decide +kernel) rfl
theorem co_X10_pass : Cond.code yX10_pass cX10_pass 4 (some .int) ∈ gw := gwm 583 (by decide +kernel) rfl
theorem ml_X10_73 : Cond.methodLink RX10 73 yX3_doorAt ∈ gw := gwm 584 (by decide +kernel) rfl
theorem im_X3_doorAt : Cond.instanceMethod yX3_doorAt ∈ gw := gwm 585 (by decide +kernel) rfl
theorem se_X3_X3_doorAt_X3_doorAt : Cond.selects RX3 yX3_doorAt yX3_doorAt ∈ gw := gwm 586 (by decide +kernel) rfl
theorem co_X3_doorAt : Cond.code yX3_doorAt cX3_doorAt 2 (some (.object "DoorsBehind$Door")) ∈ gw := gwm 587 (by decide +kernel) rfl
theorem ml_X3_49 : Cond.methodLink RX3 49 yX3_lacksDoor ∈ gw := gwm 588 (by decide +kernel) rfl
theorem im_X3_lacksDoor : Cond.instanceMethod yX3_lacksDoor ∈ gw := gwm 589 (by decide +kernel) rfl
theorem se_X3_X3_lacksDoor_X3_lacksDoor : Cond.selects RX3 yX3_lacksDoor yX3_lacksDoor ∈ gw := gwm 590 (by decide +kernel) rfl
theorem co_X3_lacksDoor : Cond.code yX3_lacksDoor cX3_lacksDoor 2 (some .boolean) ∈ gw := gwm 591 (by decide +kernel) rfl
theorem ml_X10_77 : Cond.methodLink RX10 77 yX2_leadsFrom ∈ gw := gwm 592 (by decide +kernel) rfl
theorem im_X2_leadsFrom : Cond.instanceMethod yX2_leadsFrom ∈ gw := gwm 593 (by decide +kernel) rfl
theorem sam_X2_X2_leadsFrom : Cond.sameMethod RX2 RX2 "leadsFrom" "(I)Z" ∈ gw := gwm 594 (by decide +kernel) rfl
theorem se_X0_X2_leadsFrom_X2_leadsFrom : Cond.selects RX0 yX2_leadsFrom yX2_leadsFrom ∈ gw := gwm 595 (by decide +kernel) rfl
theorem se_X1_X2_leadsFrom_X2_leadsFrom : Cond.selects RX1 yX2_leadsFrom yX2_leadsFrom ∈ gw := gwm 596 (by decide +kernel) rfl
theorem se_X4_X2_leadsFrom_X2_leadsFrom : Cond.selects RX4 yX2_leadsFrom yX2_leadsFrom ∈ gw := gwm 597 (by decide +kernel) rfl
theorem se_X5_X2_leadsFrom_X2_leadsFrom : Cond.selects RX5 yX2_leadsFrom yX2_leadsFrom ∈ gw := gwm 598 (by decide +kernel) rfl
theorem se_X9_X2_leadsFrom_X2_leadsFrom : Cond.selects RX9 yX2_leadsFrom yX2_leadsFrom ∈ gw := gwm 599 (by decide +kernel) rfl
theorem co_X2_leadsFrom : Cond.code yX2_leadsFrom cX2_leadsFrom 2 (some .boolean) ∈ gw := gwm 600 (by decide +kernel) rfl
theorem ml_X10_86 : Cond.methodLink RX10 86 yX10_open ∈ gw := gwm 601 (by decide +kernel) rfl
theorem im_X10_open : Cond.instanceMethod yX10_open ∈ gw := gwm 603 (by decide +kernel) rfl
theorem co_X10_open : Cond.code yX10_open cX10_open 4 (some .int) ∈ gw := gwm 604 (by decide +kernel) rfl
theorem ml_X10_93 : Cond.methodLink RX10 93 yX3_lacksDoor ∈ gw := gwm 605 (by decide +kernel) rfl
theorem ml_X10_99 : Cond.methodLink RX10 99 yX2_keyBit ∈ gw := gwm 606 (by decide +kernel) rfl
theorem im_X2_keyBit : Cond.instanceMethod yX2_keyBit ∈ gw := gwm 607 (by decide +kernel) rfl
theorem sam_X2_X2_keyBit : Cond.sameMethod RX2 RX2 "keyBit" "()I" ∈ gw := gwm 608 (by decide +kernel) rfl
theorem se_X0_X2_keyBit_X2_keyBit : Cond.selects RX0 yX2_keyBit yX2_keyBit ∈ gw := gwm 609 (by decide +kernel) rfl
theorem se_X1_X2_keyBit_X2_keyBit : Cond.selects RX1 yX2_keyBit yX2_keyBit ∈ gw := gwm 610 (by decide +kernel) rfl
theorem se_X4_X2_keyBit_X2_keyBit : Cond.selects RX4 yX2_keyBit yX2_keyBit ∈ gw := gwm 611 (by decide +kernel) rfl
theorem se_X5_X2_keyBit_X5_keyBit : Cond.selects RX5 yX2_keyBit yX5_keyBit ∈ gw := gwm 612 (by decide +kernel) rfl
theorem im_X5_keyBit : Cond.instanceMethod yX5_keyBit ∈ gw := gwm 613 (by decide +kernel) rfl
theorem co_X5_keyBit : Cond.code yX5_keyBit cX5_keyBit 1 (some .int) ∈ gw := gwm 614 (by decide +kernel) rfl
theorem se_X9_X2_keyBit_X5_keyBit : Cond.selects RX9 yX2_keyBit yX5_keyBit ∈ gw := gwm 615 (by decide +kernel) rfl
theorem co_X2_keyBit : Cond.code yX2_keyBit cX2_keyBit 1 (some .int) ∈ gw := gwm 616 (by decide +kernel) rfl
theorem ml_X10_105 : Cond.methodLink RX10 105 yX2_isBroken ∈ gw := gwm 617 (by decide +kernel) rfl
theorem im_X2_isBroken : Cond.instanceMethod yX2_isBroken ∈ gw := gwm 618 (by decide +kernel) rfl
theorem sam_X2_X2_isBroken : Cond.sameMethod RX2 RX2 "isBroken" "(I)Z" ∈ gw := gwm 619 (by decide +kernel) rfl
theorem se_X0_X2_isBroken_X2_isBroken : Cond.selects RX0 yX2_isBroken yX2_isBroken ∈ gw := gwm 620 (by decide +kernel) rfl
theorem se_X1_X2_isBroken_X2_isBroken : Cond.selects RX1 yX2_isBroken yX2_isBroken ∈ gw := gwm 621 (by decide +kernel) rfl
theorem se_X4_X2_isBroken_X2_isBroken : Cond.selects RX4 yX2_isBroken yX2_isBroken ∈ gw := gwm 622 (by decide +kernel) rfl
theorem se_X5_X2_isBroken_X2_isBroken : Cond.selects RX5 yX2_isBroken yX2_isBroken ∈ gw := gwm 623 (by decide +kernel) rfl
theorem se_X9_X2_isBroken_X9_isBroken : Cond.selects RX9 yX2_isBroken yX9_isBroken ∈ gw := gwm 624 (by decide +kernel) rfl
theorem im_X9_isBroken : Cond.instanceMethod yX9_isBroken ∈ gw := gwm 625 (by decide +kernel) rfl
theorem co_X9_isBroken : Cond.code yX9_isBroken cX9_isBroken 2 (some .boolean) ∈ gw := gwm 626 (by decide +kernel) rfl
theorem co_X2_isBroken : Cond.code yX2_isBroken cX2_isBroken 2 (some .boolean) ∈ gw := gwm 627 (by decide +kernel) rfl
theorem ml_X10_46 : Cond.methodLink RX10 46 yX6_add ∈ gw := gwm 628 (by decide +kernel) rfl
theorem im_X6_add : Cond.instanceMethod yX6_add ∈ gw := gwm 629 (by decide +kernel) rfl
theorem se_X6_X6_add_X6_add : Cond.selects RX6 yX6_add yX6_add ∈ gw := gwm 630 (by decide +kernel) rfl
theorem co_X6_add : Cond.code yX6_add cX6_add 2 none ∈ gw := gwm 631 (by decide +kernel) rfl
theorem ml_X10_108 : Cond.methodLink RX10 108 ⟨"DoorsBehind$Door", "loud", "(I)I"⟩ ∈ gw := gwm 632 (by decide +kernel) rfl
theorem sam_X2_X2_loud : Cond.sameMethod RX2 RX2 "loud" "(I)I" ∈ gw := gwm 634 (by decide +kernel) rfl
theorem se_X0_X2_loud_X0_loud : Cond.selects RX0 ⟨"DoorsBehind$Door", "loud", "(I)I"⟩ yX0_loud ∈ gw := gwm 635 (by decide +kernel) rfl
theorem im_X0_loud : Cond.instanceMethod yX0_loud ∈ gw := gwm 636 (by decide +kernel) rfl
theorem co_X0_loud : Cond.code yX0_loud cX0_loud 2 (some .int) ∈ gw := gwm 637 (by decide +kernel) rfl
theorem se_X1_X2_loud_X1_loud : Cond.selects RX1 ⟨"DoorsBehind$Door", "loud", "(I)I"⟩ yX1_loud ∈ gw := gwm 638 (by decide +kernel) rfl
theorem im_X1_loud : Cond.instanceMethod yX1_loud ∈ gw := gwm 639 (by decide +kernel) rfl
theorem co_X1_loud : Cond.code yX1_loud cX1_loud 2 (some .int) ∈ gw := gwm 640 (by decide +kernel) rfl
theorem se_X4_X2_loud_X4_loud : Cond.selects RX4 ⟨"DoorsBehind$Door", "loud", "(I)I"⟩ yX4_loud ∈ gw := gwm 641 (by decide +kernel) rfl
theorem im_X4_loud : Cond.instanceMethod yX4_loud ∈ gw := gwm 642 (by decide +kernel) rfl
theorem co_X4_loud : Cond.code yX4_loud cX4_loud 2 (some .int) ∈ gw := gwm 643 (by decide +kernel) rfl
theorem se_X5_X2_loud_X5_loud : Cond.selects RX5 ⟨"DoorsBehind$Door", "loud", "(I)I"⟩ yX5_loud ∈ gw := gwm 644 (by decide +kernel) rfl
theorem im_X5_loud : Cond.instanceMethod yX5_loud ∈ gw := gwm 645 (by decide +kernel) rfl
theorem co_X5_loud : Cond.code yX5_loud cX5_loud 2 (some .int) ∈ gw := gwm 646 (by decide +kernel) rfl
theorem se_X9_X2_loud_X5_loud : Cond.selects RX9 ⟨"DoorsBehind$Door", "loud", "(I)I"⟩ yX5_loud ∈ gw := gwm 647 (by decide +kernel) rfl
theorem ml_X10_111 : Cond.methodLink RX10 111 yX2_gap ∈ gw := gwm 648 (by decide +kernel) rfl
theorem im_X2_gap : Cond.instanceMethod yX2_gap ∈ gw := gwm 649 (by decide +kernel) rfl
theorem sam_X2_X2_gap : Cond.sameMethod RX2 RX2 "gap" "()I" ∈ gw := gwm 650 (by decide +kernel) rfl
theorem se_X0_X2_gap_X0_gap : Cond.selects RX0 yX2_gap yX0_gap ∈ gw := gwm 651 (by decide +kernel) rfl
theorem im_X0_gap : Cond.instanceMethod yX0_gap ∈ gw := gwm 652 (by decide +kernel) rfl
theorem co_X0_gap : Cond.code yX0_gap cX0_gap 1 (some .int) ∈ gw := gwm 653 (by decide +kernel) rfl
theorem se_X1_X2_gap_X2_gap : Cond.selects RX1 yX2_gap yX2_gap ∈ gw := gwm 654 (by decide +kernel) rfl
theorem se_X4_X2_gap_X2_gap : Cond.selects RX4 yX2_gap yX2_gap ∈ gw := gwm 655 (by decide +kernel) rfl
theorem se_X5_X2_gap_X2_gap : Cond.selects RX5 yX2_gap yX2_gap ∈ gw := gwm 656 (by decide +kernel) rfl
theorem se_X9_X2_gap_X9_gap : Cond.selects RX9 yX2_gap yX9_gap ∈ gw := gwm 657 (by decide +kernel) rfl
theorem im_X9_gap : Cond.instanceMethod yX9_gap ∈ gw := gwm 658 (by decide +kernel) rfl
theorem co_X9_gap : Cond.code yX9_gap cX9_gap 1 (some .int) ∈ gw := gwm 659 (by decide +kernel) rfl
theorem co_X2_gap : Cond.code yX2_gap cX2_gap 1 (some .int) ∈ gw := gwm 660 (by decide +kernel) rfl
theorem ml_X10_90 : Cond.methodLink RX10 90 yX2_beyond ∈ gw := gwm 661 (by decide +kernel) rfl
theorem im_X2_beyond : Cond.instanceMethod yX2_beyond ∈ gw := gwm 662 (by decide +kernel) rfl
theorem sam_X2_X2_beyond : Cond.sameMethod RX2 RX2 "beyond" "(I)I" ∈ gw := gwm 663 (by decide +kernel) rfl
theorem se_X0_X2_beyond_X2_beyond : Cond.selects RX0 yX2_beyond yX2_beyond ∈ gw := gwm 664 (by decide +kernel) rfl
theorem se_X1_X2_beyond_X2_beyond : Cond.selects RX1 yX2_beyond yX2_beyond ∈ gw := gwm 665 (by decide +kernel) rfl
theorem se_X4_X2_beyond_X2_beyond : Cond.selects RX4 yX2_beyond yX2_beyond ∈ gw := gwm 666 (by decide +kernel) rfl
theorem se_X5_X2_beyond_X2_beyond : Cond.selects RX5 yX2_beyond yX2_beyond ∈ gw := gwm 667 (by decide +kernel) rfl
theorem se_X9_X2_beyond_X2_beyond : Cond.selects RX9 yX2_beyond yX2_beyond ∈ gw := gwm 668 (by decide +kernel) rfl
theorem co_X2_beyond : Cond.code yX2_beyond cX2_beyond 2 (some .int) ∈ gw := gwm 669 (by decide +kernel) rfl
theorem ml_X10_42 : Cond.methodLink RX10 42 yX10_take ∈ gw := gwm 670 (by decide +kernel) rfl
theorem im_X10_take : Cond.instanceMethod yX10_take ∈ gw := gwm 672 (by decide +kernel) rfl
theorem co_X10_take : Cond.code yX10_take cX10_take 1 (some .int) ∈ gw := gwm 673 (by decide +kernel) rfl
theorem ml_X10_120 : Cond.methodLink RX10 120 yX3_lacksRoom ∈ gw := gwm 674 (by decide +kernel) rfl
theorem im_X3_lacksRoom : Cond.instanceMethod yX3_lacksRoom ∈ gw := gwm 675 (by decide +kernel) rfl
theorem se_X3_X3_lacksRoom_X3_lacksRoom : Cond.selects RX3 yX3_lacksRoom yX3_lacksRoom ∈ gw := gwm 676 (by decide +kernel) rfl
theorem co_X3_lacksRoom : Cond.code yX3_lacksRoom cX3_lacksRoom 2 (some .boolean) ∈ gw := gwm 677 (by decide +kernel) rfl
theorem ml_L_53 : Cond.methodLink RL 53 yX11_ledger ∈ gw := gwm 678 (by decide +kernel) rfl
theorem im_X11_ledger : Cond.instanceMethod yX11_ledger ∈ gw := gwm 679 (by decide +kernel) rfl
theorem se_X11_X11_ledger_X11_ledger : Cond.selects RX11 yX11_ledger yX11_ledger ∈ gw := gwm 680 (by decide +kernel) rfl
theorem co_X11_ledger : Cond.code yX11_ledger cX11_ledger 2 (some .int) ∈ gw := gwm 681 (by decide +kernel) rfl
theorem ml_X11_184 : Cond.methodLink RX11 184 yX6_at ∈ gw := gwm 682 (by decide +kernel) rfl
theorem im_X6_at : Cond.instanceMethod yX6_at ∈ gw := gwm 683 (by decide +kernel) rfl
theorem se_X6_X6_at_X6_at : Cond.selects RX6 yX6_at yX6_at ∈ gw := gwm 684 (by decide +kernel) rfl
theorem co_X6_at : Cond.code yX6_at cX6_at 2 (some .int) ∈ gw := gwm 685 (by decide +kernel) rfl
theorem ko_X6_25 : Cond.constant RX6 25 (-1000000) ∈ gw := gwm 686 (by decide +kernel) rfl
theorem ml_L_57 : Cond.methodLink RL 57 yX11_oil ∈ gw := gwm 687 (by decide +kernel) rfl
theorem im_X11_oil : Cond.instanceMethod yX11_oil ∈ gw := gwm 688 (by decide +kernel) rfl
theorem se_X11_X11_oil_X11_oil : Cond.selects RX11 yX11_oil yX11_oil ∈ gw := gwm 689 (by decide +kernel) rfl
theorem co_X11_oil : Cond.code yX11_oil cX11_oil 3 (some .int) ∈ gw := gwm 690 (by decide +kernel) rfl
theorem ml_X11_186 : Cond.methodLink RX11 186 yX3_lacksDoor ∈ gw := gwm 691 (by decide +kernel) rfl
theorem ml_L_61 : Cond.methodLink RL 61 yX11_bring ∈ gw := gwm 692 (by decide +kernel) rfl
theorem im_X11_bring : Cond.instanceMethod yX11_bring ∈ gw := gwm 693 (by decide +kernel) rfl
theorem se_X11_X11_bring_X11_bring : Cond.selects RX11 yX11_bring yX11_bring ∈ gw := gwm 694 (by decide +kernel) rfl
theorem co_X11_bring : Cond.code yX11_bring cX11_bring 3 (some .int) ∈ gw := gwm 695 (by decide +kernel) rfl
theorem ml_X11_192 : Cond.methodLink RX11 192 yX3_lacksRoom ∈ gw := gwm 696 (by decide +kernel) rfl
theorem ml_X11_197 : Cond.methodLink RX11 197 yX3_weightOfAll ∈ gw := gwm 697 (by decide +kernel) rfl
theorem im_X3_weightOfAll : Cond.instanceMethod yX3_weightOfAll ∈ gw := gwm 698 (by decide +kernel) rfl
theorem se_X3_X3_weightOfAll_X3_weightOfAll : Cond.selects RX3 yX3_weightOfAll yX3_weightOfAll ∈ gw := gwm 699 (by decide +kernel) rfl
theorem co_X3_weightOfAll : Cond.code yX3_weightOfAll cX3_weightOfAll 1 (some .int) ∈ gw := gwm 700 (by decide +kernel) rfl
theorem ml_X3_80 : Cond.methodLink RX3 80 yX3_weightOf ∈ gw := gwm 701 (by decide +kernel) rfl
theorem im_X3_weightOf : Cond.instanceMethod yX3_weightOf ∈ gw := gwm 702 (by decide +kernel) rfl
theorem se_X3_X3_weightOf_X3_weightOf : Cond.selects RX3 yX3_weightOf yX3_weightOf ∈ gw := gwm 703 (by decide +kernel) rfl
theorem co_X3_weightOf : Cond.code yX3_weightOf cX3_weightOf 4 (some .int) ∈ gw := gwm 704 (by decide +kernel) rfl
theorem ml_L_66 : Cond.methodLink RL 66 yX11_rule ∈ gw := gwm 705 (by decide +kernel) rfl
theorem im_X11_rule : Cond.instanceMethod yX11_rule ∈ gw := gwm 706 (by decide +kernel) rfl
theorem se_X11_X11_rule_X11_rule : Cond.selects RX11 yX11_rule yX11_rule ∈ gw := gwm 707 (by decide +kernel) rfl
theorem co_X11_rule : Cond.code yX11_rule cX11_rule 4 (some .int) ∈ gw := gwm 708 (by decide +kernel) rfl
theorem ml_X11_201 : Cond.methodLink RX11 201 yX11_isRule ∈ gw := gwm 709 (by decide +kernel) rfl
theorem sm_X11_isRule : Cond.static yX11_isRule ∈ gw := gwm 710 (by decide +kernel) rfl
theorem co_X11_isRule : Cond.code yX11_isRule cX11_isRule 2 (some .boolean) ∈ gw := gwm 711 (by decide +kernel) rfl
theorem ml_L_70 : Cond.methodLink RL 70 yX11_door ∈ gw := gwm 712 (by decide +kernel) rfl
theorem im_X11_door : Cond.instanceMethod yX11_door ∈ gw := gwm 713 (by decide +kernel) rfl
theorem se_X11_X11_door_X11_door : Cond.selects RX11 yX11_door yX11_door ∈ gw := gwm 714 (by decide +kernel) rfl
theorem co_X11_door : Cond.code yX11_door cX11_door 4 (some .int) ∈ gw := gwm 715 (by decide +kernel) rfl
theorem ml_X11_213 : Cond.methodLink RX11 213 yX3_doorAt ∈ gw := gwm 716 (by decide +kernel) rfl
theorem ml_X11_228 : Cond.methodLink RX11 228 ⟨"DoorsBehind$Door", "loud", "(I)I"⟩ ∈ gw := gwm 717 (by decide +kernel) rfl
theorem ml_X11_231 : Cond.methodLink RX11 231 yX2_gap ∈ gw := gwm 718 (by decide +kernel) rfl
theorem ml_L_74 : Cond.methodLink RL 74 yX11_room ∈ gw := gwm 719 (by decide +kernel) rfl
theorem im_X11_room : Cond.instanceMethod yX11_room ∈ gw := gwm 720 (by decide +kernel) rfl
theorem se_X11_X11_room_X11_room : Cond.selects RX11 yX11_room yX11_room ∈ gw := gwm 721 (by decide +kernel) rfl
theorem co_X11_room : Cond.code yX11_room cX11_room 3 (some .int) ∈ gw := gwm 722 (by decide +kernel) rfl
theorem ml_X11_234 : Cond.methodLink RX11 234 yX3_doorsOf ∈ gw := gwm 723 (by decide +kernel) rfl
theorem im_X3_doorsOf : Cond.instanceMethod yX3_doorsOf ∈ gw := gwm 724 (by decide +kernel) rfl
theorem se_X3_X3_doorsOf_X3_doorsOf : Cond.selects RX3 yX3_doorsOf yX3_doorsOf ∈ gw := gwm 725 (by decide +kernel) rfl
theorem co_X3_doorsOf : Cond.code yX3_doorsOf cX3_doorsOf 5 (some .int) ∈ gw := gwm 726 (by decide +kernel) rfl
theorem ml_X3_57 : Cond.methodLink RX3 57 yX3_doorAt ∈ gw := gwm 727 (by decide +kernel) rfl
theorem ml_X3_77 : Cond.methodLink RX3 77 yX2_leadsFrom ∈ gw := gwm 728 (by decide +kernel) rfl
theorem ml_L_78 : Cond.methodLink RL 78 yX11_would ∈ gw := gwm 729 (by decide +kernel) rfl
theorem im_X11_would : Cond.instanceMethod yX11_would ∈ gw := gwm 730 (by decide +kernel) rfl
theorem se_X11_X11_would_X11_would : Cond.selects RX11 yX11_would yX11_would ∈ gw := gwm 731 (by decide +kernel) rfl
theorem co_X11_would : Cond.code yX11_would cX11_would 6 (some .int) ∈ gw := gwm 732 (by decide +kernel) rfl
theorem ml_X11_237 : Cond.methodLink RX11 237 yX11_foretell ∈ gw := gwm 733 (by decide +kernel) rfl
theorem im_X11_foretell : Cond.instanceMethod yX11_foretell ∈ gw := gwm 735 (by decide +kernel) rfl
theorem co_X11_foretell : Cond.code yX11_foretell cX11_foretell 4 none ∈ gw := gwm 736 (by decide +kernel) rfl
theorem ml_X11_240 : Cond.methodLink RX11 240 yX10_outcome ∈ gw := gwm 737 (by decide +kernel) rfl
theorem im_X10_outcome : Cond.instanceMethod yX10_outcome ∈ gw := gwm 738 (by decide +kernel) rfl
theorem se_X10_X10_outcome_X10_outcome : Cond.selects RX10 yX10_outcome yX10_outcome ∈ gw := gwm 739 (by decide +kernel) rfl
theorem co_X10_outcome : Cond.code yX10_outcome cX10_outcome 1 (some .int) ∈ gw := gwm 740 (by decide +kernel) rfl
theorem ml_L_83 : Cond.methodLink RL 83 yX11_way ∈ gw := gwm 741 (by decide +kernel) rfl
theorem im_X11_way : Cond.instanceMethod yX11_way ∈ gw := gwm 742 (by decide +kernel) rfl
theorem se_X11_X11_way_X11_way : Cond.selects RX11 yX11_way yX11_way ∈ gw := gwm 743 (by decide +kernel) rfl
theorem co_X11_way : Cond.code yX11_way cX11_way 4 (some .int) ∈ gw := gwm 744 (by decide +kernel) rfl
theorem ml_X11_255 : Cond.methodLink RX11 255 yX11_findWay ∈ gw := gwm 745 (by decide +kernel) rfl
theorem im_X11_findWay : Cond.instanceMethod yX11_findWay ∈ gw := gwm 747 (by decide +kernel) rfl
theorem co_X11_findWay : Cond.code yX11_findWay cX11_findWay 7 (some .boolean) ∈ gw := gwm 748 (by decide +kernel) rfl
theorem ml_X11_350 : Cond.methodLink RX11 350 yX2_leadsFrom ∈ gw := gwm 749 (by decide +kernel) rfl
theorem ml_X11_353 : Cond.methodLink RX11 353 yX2_beyond ∈ gw := gwm 750 (by decide +kernel) rfl
theorem ko_X11_259 : Cond.constant RX11 259 (-1000000) ∈ gw := gwm 751 (by decide +kernel) rfl
theorem ml_L_87 : Cond.methodLink RL 87 yX11_needs ∈ gw := gwm 752 (by decide +kernel) rfl
theorem im_X11_needs : Cond.instanceMethod yX11_needs ∈ gw := gwm 753 (by decide +kernel) rfl
theorem se_X11_X11_needs_X11_needs : Cond.selects RX11 yX11_needs yX11_needs ∈ gw := gwm 754 (by decide +kernel) rfl
theorem co_X11_needs : Cond.code yX11_needs cX11_needs 6 (some .int) ∈ gw := gwm 755 (by decide +kernel) rfl
theorem ml_X11_260 : Cond.methodLink RX11 260 yJ9_max_7cf53 ∈ gw := gwm 756 (by decide +kernel) rfl
theorem ml_X11_268 : Cond.methodLink RX11 268 yJ6_bitCount_0f7a4 ∈ gw := gwm 757 (by decide +kernel) rfl
theorem sm_J6_bitCount_0f7a4 : Cond.static yJ6_bitCount_0f7a4 ∈ gw := gwm 758 (by decide +kernel) rfl
theorem co_J6_bitCount_0f7a4 : Cond.code yJ6_bitCount_0f7a4 cJ6_bitCount_0f7a4 1 (some .int) ∈ gw := gwm 759 (by decide +kernel) rfl
theorem ko_J6_265 : Cond.constant RJ6 265 (1431655765) ∈ gw := gwm 760 (by decide +kernel) rfl
theorem ko_J6_266 : Cond.constant RJ6 266 (858993459) ∈ gw := gwm 761 (by decide +kernel) rfl
theorem ko_J6_267 : Cond.constant RJ6 267 (252645135) ∈ gw := gwm 762 (by decide +kernel) rfl
theorem ml_L_91 : Cond.methodLink RL 91 yX11_sets ∈ gw := gwm 763 (by decide +kernel) rfl
theorem im_X11_sets : Cond.instanceMethod yX11_sets ∈ gw := gwm 764 (by decide +kernel) rfl
theorem se_X11_X11_sets_X11_sets : Cond.selects RX11 yX11_sets yX11_sets ∈ gw := gwm 765 (by decide +kernel) rfl
theorem co_X11_sets : Cond.code yX11_sets cX11_sets 8 (some .int) ∈ gw := gwm 766 (by decide +kernel) rfl
theorem ml_X11_273 : Cond.methodLink RX11 273 yX3_filledRooms ∈ gw := gwm 767 (by decide +kernel) rfl
theorem im_X3_filledRooms : Cond.instanceMethod yX3_filledRooms ∈ gw := gwm 768 (by decide +kernel) rfl
theorem se_X3_X3_filledRooms_X3_filledRooms : Cond.selects RX3 yX3_filledRooms yX3_filledRooms ∈ gw := gwm 769 (by decide +kernel) rfl
theorem co_X3_filledRooms : Cond.code yX3_filledRooms cX3_filledRooms 3 (some .int) ∈ gw := gwm 770 (by decide +kernel) rfl
theorem ml_X11_276 : Cond.methodLink RX11 276 yX3_weightOf ∈ gw := gwm 771 (by decide +kernel) rfl
theorem ml_L_95 : Cond.methodLink RL 95 yX11_share ∈ gw := gwm 772 (by decide +kernel) rfl
theorem im_X11_share : Cond.instanceMethod yX11_share ∈ gw := gwm 773 (by decide +kernel) rfl
theorem se_X11_X11_share_X11_share : Cond.selects RX11 yX11_share yX11_share ∈ gw := gwm 774 (by decide +kernel) rfl
theorem co_X11_share : Cond.code yX11_share cX11_share 7 (some .int) ∈ gw := gwm 775 (by decide +kernel) rfl
theorem ml_L_99 : Cond.methodLink RL 99 yX11_byTurns ∈ gw := gwm 776 (by decide +kernel) rfl
theorem im_X11_byTurns : Cond.instanceMethod yX11_byTurns ∈ gw := gwm 777 (by decide +kernel) rfl
theorem se_X11_X11_byTurns_X11_byTurns : Cond.selects RX11 yX11_byTurns yX11_byTurns ∈ gw := gwm 778 (by decide +kernel) rfl
theorem co_X11_byTurns : Cond.code yX11_byTurns cX11_byTurns 2 (some .int) ∈ gw := gwm 779 (by decide +kernel) rfl
theorem ml_X11_282 : Cond.methodLink RX11 282 yX11_playTurns ∈ gw := gwm 780 (by decide +kernel) rfl
theorem im_X11_playTurns : Cond.instanceMethod yX11_playTurns ∈ gw := gwm 782 (by decide +kernel) rfl
theorem co_X11_playTurns : Cond.code yX11_playTurns cX11_playTurns 10 (some .int) ∈ gw := gwm 783 (by decide +kernel) rfl
theorem ml_X11_356 : Cond.methodLink RX11 356 yJ9_min_7cf53 ∈ gw := gwm 784 (by decide +kernel) rfl
theorem ml_L_103 : Cond.methodLink RL 103 yX11_who ∈ gw := gwm 785 (by decide +kernel) rfl
theorem im_X11_who : Cond.instanceMethod yX11_who ∈ gw := gwm 786 (by decide +kernel) rfl
theorem se_X11_X11_who_X11_who : Cond.selects RX11 yX11_who yX11_who ∈ gw := gwm 787 (by decide +kernel) rfl
theorem co_X11_who : Cond.code yX11_who cX11_who 9 (some .int) ∈ gw := gwm 788 (by decide +kernel) rfl
theorem ml_X11_285 : Cond.methodLink RX11 285 yX11_isOutcome ∈ gw := gwm 789 (by decide +kernel) rfl
theorem sm_X11_isOutcome : Cond.static yX11_isOutcome ∈ gw := gwm 790 (by decide +kernel) rfl
theorem co_X11_isOutcome : Cond.code yX11_isOutcome cX11_isOutcome 1 (some .boolean) ∈ gw := gwm 791 (by decide +kernel) rfl
theorem ml_X11_288 : Cond.methodLink RX11 288 yX11_kindsFor ∈ gw := gwm 792 (by decide +kernel) rfl
theorem im_X11_kindsFor : Cond.instanceMethod yX11_kindsFor ∈ gw := gwm 794 (by decide +kernel) rfl
theorem co_X11_kindsFor : Cond.code yX11_kindsFor cX11_kindsFor 8 (some .int) ∈ gw := gwm 795 (by decide +kernel) rfl
theorem ml_X11_359 : Cond.methodLink RX11 359 yX3_numberOf ∈ gw := gwm 796 (by decide +kernel) rfl
theorem im_X3_numberOf : Cond.instanceMethod yX3_numberOf ∈ gw := gwm 797 (by decide +kernel) rfl
theorem se_X3_X3_numberOf_X3_numberOf : Cond.selects RX3 yX3_numberOf yX3_numberOf ∈ gw := gwm 798 (by decide +kernel) rfl
theorem co_X3_numberOf : Cond.code yX3_numberOf cX3_numberOf 3 (some .int) ∈ gw := gwm 799 (by decide +kernel) rfl
theorem ml_X11_362 : Cond.methodLink RX11 362 yX3_changeDoor ∈ gw := gwm 800 (by decide +kernel) rfl
theorem im_X3_changeDoor : Cond.instanceMethod yX3_changeDoor ∈ gw := gwm 801 (by decide +kernel) rfl
theorem se_X3_X3_changeDoor_X3_changeDoor : Cond.selects RX3 yX3_changeDoor yX3_changeDoor ∈ gw := gwm 802 (by decide +kernel) rfl
theorem co_X3_changeDoor : Cond.code yX3_changeDoor cX3_changeDoor 5 none ∈ gw := gwm 803 (by decide +kernel) rfl
theorem ml_X11_292 : Cond.methodLink RX11 292 yX11_numbersFor ∈ gw := gwm 804 (by decide +kernel) rfl
theorem im_X11_numbersFor : Cond.instanceMethod yX11_numbersFor ∈ gw := gwm 806 (by decide +kernel) rfl
theorem co_X11_numbersFor : Cond.code yX11_numbersFor cX11_numbersFor 8 (some .int) ∈ gw := gwm 807 (by decide +kernel) rfl
theorem ml_X11_366 : Cond.methodLink RX11 366 yX3_sortOf ∈ gw := gwm 808 (by decide +kernel) rfl
theorem im_X3_sortOf : Cond.instanceMethod yX3_sortOf ∈ gw := gwm 809 (by decide +kernel) rfl
theorem se_X3_X3_sortOf_X3_sortOf : Cond.selects RX3 yX3_sortOf yX3_sortOf ∈ gw := gwm 810 (by decide +kernel) rfl
theorem co_X3_sortOf : Cond.code yX3_sortOf cX3_sortOf 3 (some .int) ∈ gw := gwm 811 (by decide +kernel) rfl
theorem ml_X3_61 : Cond.methodLink RX3 61 ⟨"DoorsBehind$Door", "sort", "()I"⟩ ∈ gw := gwm 812 (by decide +kernel) rfl
theorem sam_X2_X2_sort : Cond.sameMethod RX2 RX2 "sort" "()I" ∈ gw := gwm 814 (by decide +kernel) rfl
theorem se_X0_X2_sort_X0_sort : Cond.selects RX0 ⟨"DoorsBehind$Door", "sort", "()I"⟩ yX0_sort ∈ gw := gwm 815 (by decide +kernel) rfl
theorem im_X0_sort : Cond.instanceMethod yX0_sort ∈ gw := gwm 816 (by decide +kernel) rfl
theorem co_X0_sort : Cond.code yX0_sort cX0_sort 1 (some .int) ∈ gw := gwm 817 (by decide +kernel) rfl
theorem se_X1_X2_sort_X1_sort : Cond.selects RX1 ⟨"DoorsBehind$Door", "sort", "()I"⟩ yX1_sort ∈ gw := gwm 818 (by decide +kernel) rfl
theorem im_X1_sort : Cond.instanceMethod yX1_sort ∈ gw := gwm 819 (by decide +kernel) rfl
theorem co_X1_sort : Cond.code yX1_sort cX1_sort 1 (some .int) ∈ gw := gwm 820 (by decide +kernel) rfl
theorem se_X4_X2_sort_X4_sort : Cond.selects RX4 ⟨"DoorsBehind$Door", "sort", "()I"⟩ yX4_sort ∈ gw := gwm 821 (by decide +kernel) rfl
theorem im_X4_sort : Cond.instanceMethod yX4_sort ∈ gw := gwm 822 (by decide +kernel) rfl
theorem co_X4_sort : Cond.code yX4_sort cX4_sort 1 (some .int) ∈ gw := gwm 823 (by decide +kernel) rfl
theorem se_X5_X2_sort_X5_sort : Cond.selects RX5 ⟨"DoorsBehind$Door", "sort", "()I"⟩ yX5_sort ∈ gw := gwm 824 (by decide +kernel) rfl
theorem im_X5_sort : Cond.instanceMethod yX5_sort ∈ gw := gwm 825 (by decide +kernel) rfl
theorem co_X5_sort : Cond.code yX5_sort cX5_sort 1 (some .int) ∈ gw := gwm 826 (by decide +kernel) rfl
theorem se_X9_X2_sort_X9_sort : Cond.selects RX9 ⟨"DoorsBehind$Door", "sort", "()I"⟩ yX9_sort ∈ gw := gwm 827 (by decide +kernel) rfl
theorem im_X9_sort : Cond.instanceMethod yX9_sort ∈ gw := gwm 828 (by decide +kernel) rfl
theorem co_X9_sort : Cond.code yX9_sort cX9_sort 1 (some .int) ∈ gw := gwm 829 (by decide +kernel) rfl
theorem ml_X11_295 : Cond.methodLink RX11 295 yX11_keysFor ∈ gw := gwm 830 (by decide +kernel) rfl
theorem im_X11_keysFor : Cond.instanceMethod yX11_keysFor ∈ gw := gwm 832 (by decide +kernel) rfl
theorem co_X11_keysFor : Cond.code yX11_keysFor cX11_keysFor 8 (some .int) ∈ gw := gwm 833 (by decide +kernel) rfl
theorem ml_L_108 : Cond.methodLink RL 108 yX11_sticks ∈ gw := gwm 834 (by decide +kernel) rfl
theorem im_X11_sticks : Cond.instanceMethod yX11_sticks ∈ gw := gwm 835 (by decide +kernel) rfl
theorem se_X11_X11_sticks_X11_sticks : Cond.selects RX11 yX11_sticks yX11_sticks ∈ gw := gwm 836 (by decide +kernel) rfl
theorem co_X11_sticks : Cond.code yX11_sticks cX11_sticks 8 (some .long) ∈ gw := gwm 837 (by decide +kernel) rfl
theorem kL_X11_299 : Cond.constantLong RX11 299 (-1000002) ∈ gw := gwm 838 (by decide +kernel) rfl
theorem kL_X11_301 : Cond.constantLong RX11 301 (-1000001) ∈ gw := gwm 839 (by decide +kernel) rfl
theorem ml_X11_303 : Cond.methodLink RX11 303 yX11_commonDivisor ∈ gw := gwm 840 (by decide +kernel) rfl
theorem sm_X11_commonDivisor : Cond.static yX11_commonDivisor ∈ gw := gwm 841 (by decide +kernel) rfl
theorem co_X11_commonDivisor : Cond.code yX11_commonDivisor cX11_commonDivisor 6 (some .int) ∈ gw := gwm 842 (by decide +kernel) rfl
theorem ml_X11_306 : Cond.methodLink RX11 306 yX11_power ∈ gw := gwm 843 (by decide +kernel) rfl
theorem sm_X11_power : Cond.static yX11_power ∈ gw := gwm 844 (by decide +kernel) rfl
theorem co_X11_power : Cond.code yX11_power cX11_power 5 (some .long) ∈ gw := gwm 845 (by decide +kernel) rfl
theorem ml_L_113 : Cond.methodLink RL 113 yX11_drawn ∈ gw := gwm 846 (by decide +kernel) rfl
theorem im_X11_drawn : Cond.instanceMethod yX11_drawn ∈ gw := gwm 847 (by decide +kernel) rfl
theorem se_X11_X11_drawn_X11_drawn : Cond.selects RX11 yX11_drawn yX11_drawn ∈ gw := gwm 848 (by decide +kernel) rfl
theorem co_X11_drawn : Cond.code yX11_drawn cX11_drawn 9 (some .int) ∈ gw := gwm 849 (by decide +kernel) rfl
theorem ko_X11_310 : Cond.constant RX11 310 (999999) ∈ gw := gwm 850 (by decide +kernel) rfl
theorem kL_X11_311 : Cond.constantLong RX11 311 (16807) ∈ gw := gwm 851 (by decide +kernel) rfl
theorem kL_X11_313 : Cond.constantLong RX11 313 (2147483647) ∈ gw := gwm 852 (by decide +kernel) rfl
theorem ml_X11_315 : Cond.methodLink RX11 315 yX11_goDrawn ∈ gw := gwm 853 (by decide +kernel) rfl
theorem im_X11_goDrawn : Cond.instanceMethod yX11_goDrawn ∈ gw := gwm 855 (by decide +kernel) rfl
theorem co_X11_goDrawn : Cond.code yX11_goDrawn cX11_goDrawn 6 none ∈ gw := gwm 856 (by decide +kernel) rfl
theorem kL_X11_369 : Cond.constantLong RX11 369 (3) ∈ gw := gwm 857 (by decide +kernel) rfl
theorem kL_X11_371 : Cond.constantLong RX11 371 (8) ∈ gw := gwm 858 (by decide +kernel) rfl
theorem kL_X11_373 : Cond.constantLong RX11 373 (64) ∈ gw := gwm 859 (by decide +kernel) rfl
theorem ml_L_117 : Cond.methodLink RL 117 yX11_image ∈ gw := gwm 860 (by decide +kernel) rfl
theorem im_X11_image : Cond.instanceMethod yX11_image ∈ gw := gwm 861 (by decide +kernel) rfl
theorem se_X11_X11_image_X11_image : Cond.selects RX11 yX11_image yX11_image ∈ gw := gwm 862 (by decide +kernel) rfl
theorem co_X11_image : Cond.code yX11_image cX11_image 2 (some .int) ∈ gw := gwm 863 (by decide +kernel) rfl
theorem ml_L_121 : Cond.methodLink RL 121 yX11_restore ∈ gw := gwm 864 (by decide +kernel) rfl
theorem im_X11_restore : Cond.instanceMethod yX11_restore ∈ gw := gwm 865 (by decide +kernel) rfl
theorem se_X11_X11_restore_X11_restore : Cond.selects RX11 yX11_restore yX11_restore ∈ gw := gwm 866 (by decide +kernel) rfl
theorem co_X11_restore : Cond.code yX11_restore cX11_restore 2 (some .int) ∈ gw := gwm 867 (by decide +kernel) rfl
theorem ml_L_125 : Cond.methodLink RL 125 yX11_kind ∈ gw := gwm 868 (by decide +kernel) rfl
theorem im_X11_kind : Cond.instanceMethod yX11_kind ∈ gw := gwm 869 (by decide +kernel) rfl
theorem se_X11_X11_kind_X11_kind : Cond.selects RX11 yX11_kind yX11_kind ∈ gw := gwm 870 (by decide +kernel) rfl
theorem co_X11_kind : Cond.code yX11_kind cX11_kind 3 (some .int) ∈ gw := gwm 871 (by decide +kernel) rfl
theorem ml_X11_319 : Cond.methodLink RX11 319 ⟨"DoorsBehind$Door", "sort", "()I"⟩ ∈ gw := gwm 872 (by decide +kernel) rfl
theorem ml_L_129 : Cond.methodLink RL 129 yX11_as ∈ gw := gwm 873 (by decide +kernel) rfl
theorem im_X11_as : Cond.instanceMethod yX11_as ∈ gw := gwm 874 (by decide +kernel) rfl
theorem se_X11_X11_as_X11_as : Cond.selects RX11 yX11_as yX11_as ∈ gw := gwm 875 (by decide +kernel) rfl
theorem co_X11_as : Cond.code yX11_as cX11_as 4 (some .int) ∈ gw := gwm 876 (by decide +kernel) rfl
theorem ml_X11_322 : Cond.methodLink RX11 322 yX2_is ∈ gw := gwm 877 (by decide +kernel) rfl
theorem im_X2_is : Cond.instanceMethod yX2_is ∈ gw := gwm 878 (by decide +kernel) rfl
theorem sam_X2_X2_is : Cond.sameMethod RX2 RX2 "is" "(I)Z" ∈ gw := gwm 879 (by decide +kernel) rfl
theorem se_X0_X2_is_X0_is : Cond.selects RX0 yX2_is yX0_is ∈ gw := gwm 880 (by decide +kernel) rfl
theorem im_X0_is : Cond.instanceMethod yX0_is ∈ gw := gwm 881 (by decide +kernel) rfl
theorem co_X0_is : Cond.code yX0_is cX0_is 2 (some .boolean) ∈ gw := gwm 882 (by decide +kernel) rfl
theorem ml_X0_7 : Cond.methodLink RX0 7 yX4_is ∈ gw := gwm 883 (by decide +kernel) rfl
theorem im_X4_is : Cond.instanceMethod yX4_is ∈ gw := gwm 884 (by decide +kernel) rfl
theorem co_X4_is : Cond.code yX4_is cX4_is 2 (some .boolean) ∈ gw := gwm 885 (by decide +kernel) rfl
theorem ml_X4_7 : Cond.methodLink RX4 7 yX2_is ∈ gw := gwm 886 (by decide +kernel) rfl
theorem se_X1_X2_is_X1_is : Cond.selects RX1 yX2_is yX1_is ∈ gw := gwm 887 (by decide +kernel) rfl
theorem im_X1_is : Cond.instanceMethod yX1_is ∈ gw := gwm 888 (by decide +kernel) rfl
theorem co_X1_is : Cond.code yX1_is cX1_is 2 (some .boolean) ∈ gw := gwm 889 (by decide +kernel) rfl
theorem ml_X1_7 : Cond.methodLink RX1 7 yX4_is ∈ gw := gwm 890 (by decide +kernel) rfl
theorem se_X4_X2_is_X4_is : Cond.selects RX4 yX2_is yX4_is ∈ gw := gwm 891 (by decide +kernel) rfl
theorem se_X5_X2_is_X5_is : Cond.selects RX5 yX2_is yX5_is ∈ gw := gwm 892 (by decide +kernel) rfl
theorem im_X5_is : Cond.instanceMethod yX5_is ∈ gw := gwm 893 (by decide +kernel) rfl
theorem co_X5_is : Cond.code yX5_is cX5_is 2 (some .boolean) ∈ gw := gwm 894 (by decide +kernel) rfl
theorem ml_X5_7 : Cond.methodLink RX5 7 yX2_is ∈ gw := gwm 895 (by decide +kernel) rfl
theorem se_X9_X2_is_X9_is : Cond.selects RX9 yX2_is yX9_is ∈ gw := gwm 896 (by decide +kernel) rfl
theorem im_X9_is : Cond.instanceMethod yX9_is ∈ gw := gwm 897 (by decide +kernel) rfl
theorem co_X9_is : Cond.code yX9_is cX9_is 2 (some .boolean) ∈ gw := gwm 898 (by decide +kernel) rfl
theorem ml_X9_7 : Cond.methodLink RX9 7 yX5_is ∈ gw := gwm 899 (by decide +kernel) rfl
theorem co_X2_is : Cond.code yX2_is cX2_is 2 (some .boolean) ∈ gw := gwm 900 (by decide +kernel) rfl
theorem ml_L_133 : Cond.methodLink RL 133 yX11_ask ∈ gw := gwm 901 (by decide +kernel) rfl
theorem im_X11_ask : Cond.instanceMethod yX11_ask ∈ gw := gwm 902 (by decide +kernel) rfl
theorem se_X11_X11_ask_X11_ask : Cond.selects RX11 yX11_ask yX11_ask ∈ gw := gwm 903 (by decide +kernel) rfl
theorem co_X11_ask : Cond.code yX11_ask cX11_ask 5 (some .int) ∈ gw := gwm 904 (by decide +kernel) rfl
theorem ml_X11_328 : Cond.methodLink RX11 328 yX2_size ∈ gw := gwm 905 (by decide +kernel) rfl
theorem im_X2_size : Cond.instanceMethod yX2_size ∈ gw := gwm 906 (by decide +kernel) rfl
theorem sam_X2_X2_size : Cond.sameMethod RX2 RX2 "size" "(ILDoorsBehind$Numbers;)I" ∈ gw := gwm 907 (by decide +kernel) rfl
theorem se_X0_X2_size_X0_size : Cond.selects RX0 yX2_size yX0_size ∈ gw := gwm 908 (by decide +kernel) rfl
theorem im_X0_size : Cond.instanceMethod yX0_size ∈ gw := gwm 909 (by decide +kernel) rfl
theorem co_X0_size : Cond.code yX0_size cX0_size 3 (some .int) ∈ gw := gwm 910 (by decide +kernel) rfl
theorem ml_X0_17 : Cond.methodLink RX0 17 yX6_add ∈ gw := gwm 911 (by decide +kernel) rfl
theorem ml_X0_23 : Cond.methodLink RX0 23 yX4_size ∈ gw := gwm 912 (by decide +kernel) rfl
theorem im_X4_size : Cond.instanceMethod yX4_size ∈ gw := gwm 913 (by decide +kernel) rfl
theorem co_X4_size : Cond.code yX4_size cX4_size 4 (some .int) ∈ gw := gwm 914 (by decide +kernel) rfl
theorem ml_X4_17 : Cond.methodLink RX4 17 yX6_add ∈ gw := gwm 915 (by decide +kernel) rfl
theorem ml_X4_23 : Cond.methodLink RX4 23 yX2_size ∈ gw := gwm 916 (by decide +kernel) rfl
theorem ml_X4_27 : Cond.methodLink RX4 27 yX4_mark ∈ gw := gwm 917 (by decide +kernel) rfl
theorem im_X4_mark : Cond.instanceMethod yX4_mark ∈ gw := gwm 918 (by decide +kernel) rfl
theorem se_X4_X4_mark_X4_mark : Cond.selects RX4 yX4_mark yX4_mark ∈ gw := gwm 919 (by decide +kernel) rfl
theorem sam_X4_X4_mark : Cond.sameMethod RX4 RX4 "mark" "(ILDoorsBehind$Numbers;)I" ∈ gw := gwm 920 (by decide +kernel) rfl
theorem se_X0_X4_mark_X0_mark : Cond.selects RX0 yX4_mark yX0_mark ∈ gw := gwm 921 (by decide +kernel) rfl
theorem im_X0_mark : Cond.instanceMethod yX0_mark ∈ gw := gwm 922 (by decide +kernel) rfl
theorem co_X0_mark : Cond.code yX0_mark cX0_mark 3 (some .int) ∈ gw := gwm 923 (by decide +kernel) rfl
theorem ml_X0_27 : Cond.methodLink RX0 27 yX4_mark ∈ gw := gwm 924 (by decide +kernel) rfl
theorem se_X1_X4_mark_X1_mark : Cond.selects RX1 yX4_mark yX1_mark ∈ gw := gwm 925 (by decide +kernel) rfl
theorem im_X1_mark : Cond.instanceMethod yX1_mark ∈ gw := gwm 926 (by decide +kernel) rfl
theorem co_X1_mark : Cond.code yX1_mark cX1_mark 3 (some .int) ∈ gw := gwm 927 (by decide +kernel) rfl
theorem ml_X1_17 : Cond.methodLink RX1 17 yX6_add ∈ gw := gwm 928 (by decide +kernel) rfl
theorem ml_X1_23 : Cond.methodLink RX1 23 yX4_mark ∈ gw := gwm 929 (by decide +kernel) rfl
theorem co_X4_mark : Cond.code yX4_mark cX4_mark 3 (some .int) ∈ gw := gwm 930 (by decide +kernel) rfl
theorem ml_X4_30 : Cond.methodLink RX4 30 yX2_mark ∈ gw := gwm 931 (by decide +kernel) rfl
theorem im_X2_mark : Cond.instanceMethod yX2_mark ∈ gw := gwm 932 (by decide +kernel) rfl
theorem co_X2_mark : Cond.code yX2_mark cX2_mark 3 (some .int) ∈ gw := gwm 933 (by decide +kernel) rfl
theorem ml_X2_39 : Cond.methodLink RX2 39 yX6_add ∈ gw := gwm 934 (by decide +kernel) rfl
theorem se_X1_X2_size_X4_size : Cond.selects RX1 yX2_size yX4_size ∈ gw := gwm 935 (by decide +kernel) rfl
theorem se_X4_X2_size_X4_size : Cond.selects RX4 yX2_size yX4_size ∈ gw := gwm 936 (by decide +kernel) rfl
theorem se_X5_X2_size_X5_size : Cond.selects RX5 yX2_size yX5_size ∈ gw := gwm 937 (by decide +kernel) rfl
theorem im_X5_size : Cond.instanceMethod yX5_size ∈ gw := gwm 938 (by decide +kernel) rfl
theorem co_X5_size : Cond.code yX5_size cX5_size 3 (some .int) ∈ gw := gwm 939 (by decide +kernel) rfl
theorem ml_X5_17 : Cond.methodLink RX5 17 yX6_add ∈ gw := gwm 940 (by decide +kernel) rfl
theorem ml_X5_23 : Cond.methodLink RX5 23 yX2_size ∈ gw := gwm 941 (by decide +kernel) rfl
theorem se_X9_X2_size_X9_size : Cond.selects RX9 yX2_size yX9_size ∈ gw := gwm 942 (by decide +kernel) rfl
theorem im_X9_size : Cond.instanceMethod yX9_size ∈ gw := gwm 943 (by decide +kernel) rfl
theorem co_X9_size : Cond.code yX9_size cX9_size 3 (some .int) ∈ gw := gwm 944 (by decide +kernel) rfl
theorem ml_X9_11 : Cond.methodLink RX9 11 yX6_add ∈ gw := gwm 945 (by decide +kernel) rfl
theorem ml_X9_17 : Cond.methodLink RX9 17 yX5_size ∈ gw := gwm 946 (by decide +kernel) rfl
theorem co_X2_size : Cond.code yX2_size cX2_size 3 (some .int) ∈ gw := gwm 947 (by decide +kernel) rfl
theorem ml_X11_332 : Cond.methodLink RX11 332 yX2_mark ∈ gw := gwm 948 (by decide +kernel) rfl
theorem im_X5_mark : Cond.instanceMethod yX5_mark ∈ gw := gwm 949 (by decide +kernel) rfl
theorem co_X5_mark : Cond.code yX5_mark cX5_mark 4 (some .int) ∈ gw := gwm 950 (by decide +kernel) rfl
theorem ml_X5_27 : Cond.methodLink RX5 27 yX2_mark ∈ gw := gwm 951 (by decide +kernel) rfl
theorem ml_X5_30 : Cond.methodLink RX5 30 yX5_size ∈ gw := gwm 952 (by decide +kernel) rfl
theorem ml_L_137 : Cond.methodLink RL 137 yX11_trace ∈ gw := gwm 953 (by decide +kernel) rfl
theorem im_X11_trace : Cond.instanceMethod yX11_trace ∈ gw := gwm 954 (by decide +kernel) rfl
theorem se_X11_X11_trace_X11_trace : Cond.selects RX11 yX11_trace yX11_trace ∈ gw := gwm 955 (by decide +kernel) rfl
theorem co_X11_trace : Cond.code yX11_trace cX11_trace 2 (some .int) ∈ gw := gwm 956 (by decide +kernel) rfl
theorem ml_L_141 : Cond.methodLink RL 141 yX11_count ∈ gw := gwm 957 (by decide +kernel) rfl
theorem im_X11_count : Cond.instanceMethod yX11_count ∈ gw := gwm 958 (by decide +kernel) rfl
theorem se_X11_X11_count_X11_count : Cond.selects RX11 yX11_count yX11_count ∈ gw := gwm 959 (by decide +kernel) rfl
theorem co_X11_count : Cond.code yX11_count cX11_count 2 (some .int) ∈ gw := gwm 960 (by decide +kernel) rfl
theorem ml_X11_335 : Cond.methodLink RX11 335 yX11_rowsThere ∈ gw := gwm 961 (by decide +kernel) rfl
theorem im_X11_rowsThere : Cond.instanceMethod yX11_rowsThere ∈ gw := gwm 963 (by decide +kernel) rfl
theorem co_X11_rowsThere : Cond.code yX11_rowsThere cX11_rowsThere 3 (some .int) ∈ gw := gwm 964 (by decide +kernel) rfl
theorem ml_X11_341 : Cond.methodLink RX11 341 yX3_wearOfAll ∈ gw := gwm 965 (by decide +kernel) rfl
theorem im_X3_wearOfAll : Cond.instanceMethod yX3_wearOfAll ∈ gw := gwm 966 (by decide +kernel) rfl
theorem se_X3_X3_wearOfAll_X3_wearOfAll : Cond.selects RX3 yX3_wearOfAll yX3_wearOfAll ∈ gw := gwm 967 (by decide +kernel) rfl
theorem co_X3_wearOfAll : Cond.code yX3_wearOfAll cX3_wearOfAll 3 (some .int) ∈ gw := gwm 968 (by decide +kernel) rfl
theorem ml_L_145 : Cond.methodLink RL 145 yX11_status ∈ gw := gwm 969 (by decide +kernel) rfl
theorem im_X11_status : Cond.instanceMethod yX11_status ∈ gw := gwm 970 (by decide +kernel) rfl
theorem se_X11_X11_status_X11_status : Cond.selects RX11 yX11_status yX11_status ∈ gw := gwm 971 (by decide +kernel) rfl
theorem co_X11_status : Cond.code yX11_status cX11_status 1 (some .int) ∈ gw := gwm 972 (by decide +kernel) rfl
theorem kl_L_10 : Cond.classLink RL 10 RX12 ∈ gw := gwm 973 (by decide +kernel) rfl
theorem ins_X12 : Cond.instantiable RX12 32 ∈ gw := gwm 974 (by decide +kernel) rfl
theorem ml_L_12 : Cond.methodLink RL 12 yX12_init ∈ gw := gwm 975 (by decide +kernel) rfl
theorem im_X12_init : Cond.instanceMethod yX12_init ∈ gw := gwm 976 (by decide +kernel) rfl
theorem co_X12_init : Cond.code yX12_init cX12_init 1 none ∈ gw := gwm 977 (by decide +kernel) rfl
theorem ml_X12_1 : Cond.methodLink RX12 1 ⟨"java/lang/Object", "<init>", "()V"⟩ ∈ gw := gwm 978 (by decide +kernel) rfl
theorem fl_X12_53 : Cond.fieldLink RX12 53 "DoorsBehindModel" "thrown" "I" ∈ gw := gwm 979 (by decide +kernel) rfl
theorem fl_X12_57 : Cond.fieldLink RX12 57 "DoorsBehindModel" "status" "I" ∈ gw := gwm 980 (by decide +kernel) rfl
theorem fl_X12_7 : Cond.fieldLink RX12 7 "DoorsBehindModel" "lane" "[I" ∈ gw := gwm 981 (by decide +kernel) rfl
theorem fl_X12_13 : Cond.fieldLink RX12 13 "DoorsBehindModel" "many" "[I" ∈ gw := gwm 982 (by decide +kernel) rfl
theorem fl_X12_16 : Cond.fieldLink RX12 16 "DoorsBehindModel" "item" "[I" ∈ gw := gwm 983 (by decide +kernel) rfl
theorem fl_X12_19 : Cond.fieldLink RX12 19 "DoorsBehindModel" "house" "[I" ∈ gw := gwm 984 (by decide +kernel) rfl
theorem fl_X12_22 : Cond.fieldLink RX12 22 "DoorsBehindModel" "fresh" "[I" ∈ gw := gwm 985 (by decide +kernel) rfl
theorem fl_X12_25 : Cond.fieldLink RX12 25 "DoorsBehindModel" "then" "[I" ∈ gw := gwm 986 (by decide +kernel) rfl
theorem fl_X12_28 : Cond.fieldLink RX12 28 "DoorsBehindModel" "was" "[I" ∈ gw := gwm 987 (by decide +kernel) rfl
theorem fl_X12_161 : Cond.fieldLink RX12 161 "DoorsBehindModel" "acts" "I" ∈ gw := gwm 988 (by decide +kernel) rfl
theorem fl_X12_31 : Cond.fieldLink RX12 31 "DoorsBehindModel" "tape" "[I" ∈ gw := gwm 989 (by decide +kernel) rfl
theorem fl_X12_80 : Cond.fieldLink RX12 80 "DoorsBehindModel" "taped" "I" ∈ gw := gwm 990 (by decide +kernel) rfl
theorem fl_X12_93 : Cond.fieldLink RX12 93 "DoorsBehindModel" "cursor" "I" ∈ gw := gwm 991 (by decide +kernel) rfl
theorem fl_X12_87 : Cond.fieldLink RX12 87 "DoorsBehindModel" "start" "I" ∈ gw := gwm 992 (by decide +kernel) rfl
theorem fl_X12_108 : Cond.fieldLink RX12 108 "DoorsBehindModel" "token" "I" ∈ gw := gwm 993 (by decide +kernel) rfl
theorem fl_X12_97 : Cond.fieldLink RX12 97 "DoorsBehindModel" "value" "I" ∈ gw := gwm 994 (by decide +kernel) rfl
theorem fl_X12_84 : Cond.fieldLink RX12 84 "DoorsBehindModel" "fault" "I" ∈ gw := gwm 995 (by decide +kernel) rfl
theorem fl_X12_90 : Cond.fieldLink RX12 90 "DoorsBehindModel" "faultAt" "I" ∈ gw := gwm 996 (by decide +kernel) rfl
theorem fl_X12_122 : Cond.fieldLink RX12 122 "DoorsBehindModel" "latest" "I" ∈ gw := gwm 997 (by decide +kernel) rfl
theorem fl_X12_34 : Cond.fieldLink RX12 34 "DoorsBehindModel" "doors" "[I" ∈ gw := gwm 998 (by decide +kernel) rfl
theorem fl_X12_37 : Cond.fieldLink RX12 37 "DoorsBehindModel" "opened" "[I" ∈ gw := gwm 999 (by decide +kernel) rfl
theorem fl_X12_171 : Cond.fieldLink RX12 171 "DoorsBehindModel" "turned" "I" ∈ gw := gwm 1000 (by decide +kernel) rfl
theorem fl_X12_182 : Cond.fieldLink RX12 182 "DoorsBehindModel" "noise" "I" ∈ gw := gwm 1001 (by decide +kernel) rfl
theorem fl_X12_196 : Cond.fieldLink RX12 196 "DoorsBehindModel" "draught" "I" ∈ gw := gwm 1002 (by decide +kernel) rfl
theorem fl_X12_199 : Cond.fieldLink RX12 199 "DoorsBehindModel" "stood" "I" ∈ gw := gwm 1003 (by decide +kernel) rfl
theorem fl_X12_208 : Cond.fieldLink RX12 208 "DoorsBehindModel" "came" "I" ∈ gw := gwm 1004 (by decide +kernel) rfl
theorem fl_X12_40 : Cond.fieldLink RX12 40 "DoorsBehindModel" "ledger" "[I" ∈ gw := gwm 1005 (by decide +kernel) rfl
theorem fl_X12_164 : Cond.fieldLink RX12 164 "DoorsBehindModel" "ledgers" "I" ∈ gw := gwm 1006 (by decide +kernel) rfl
theorem fl_X12_43 : Cond.fieldLink RX12 43 "DoorsBehindModel" "isKept" "[Z" ∈ gw := gwm 1007 (by decide +kernel) rfl
theorem fl_X12_47 : Cond.fieldLink RX12 47 "DoorsBehindModel" "kept" "[I" ∈ gw := gwm 1008 (by decide +kernel) rfl
theorem fl_X12_50 : Cond.fieldLink RX12 50 "DoorsBehindModel" "trace" "[I" ∈ gw := gwm 1009 (by decide +kernel) rfl
theorem fl_X12_305 : Cond.fieldLink RX12 305 "DoorsBehindModel" "traced" "I" ∈ gw := gwm 1010 (by decide +kernel) rfl
theorem sup_X12_java_lang_Object : Cond.superclass RX12 "java/lang/Object" ∈ gw := gwm 1075 (by decide +kernel) rfl
theorem ac_boolean : Cond.arrayClass .boolean ∈ gw := gwm 1076 (by decide +kernel) rfl
theorem ml_L_17 : Cond.methodLink RL 17 yX12_row ∈ gw := gwm 1077 (by decide +kernel) rfl
theorem im_X12_row : Cond.instanceMethod yX12_row ∈ gw := gwm 1078 (by decide +kernel) rfl
theorem se_X12_X12_row_X12_row : Cond.selects RX12 yX12_row yX12_row ∈ gw := gwm 1079 (by decide +kernel) rfl
theorem co_X12_row : Cond.code yX12_row cX12_row 5 (some .int) ∈ gw := gwm 1080 (by decide +kernel) rfl
theorem ml_X12_67 : Cond.methodLink RX12 67 yX12_isRow ∈ gw := gwm 1081 (by decide +kernel) rfl
theorem sm_X12_isRow : Cond.static yX12_isRow ∈ gw := gwm 1082 (by decide +kernel) rfl
theorem co_X12_isRow : Cond.code yX12_isRow cX12_isRow 1 (some .boolean) ∈ gw := gwm 1083 (by decide +kernel) rfl
theorem kL_X12_61 : Cond.constantLong RX12 61 (7) ∈ gw := gwm 1084 (by decide +kernel) rfl
theorem ml_X12_63 : Cond.methodLink RX12 63 yX12_in ∈ gw := gwm 1085 (by decide +kernel) rfl
theorem sm_X12_in : Cond.static yX12_in ∈ gw := gwm 1086 (by decide +kernel) rfl
theorem co_X12_in : Cond.code yX12_in cX12_in 6 (some .boolean) ∈ gw := gwm 1087 (by decide +kernel) rfl
theorem kL_X12_71 : Cond.constantLong RX12 71 (2) ∈ gw := gwm 1088 (by decide +kernel) rfl
theorem ko_X12_73 : Cond.constant RX12 73 (-1000001) ∈ gw := gwm 1089 (by decide +kernel) rfl
theorem ml_X12_74 : Cond.methodLink RX12 74 yX12_finding ∈ gw := gwm 1090 (by decide +kernel) rfl
theorem im_X12_finding : Cond.instanceMethod yX12_finding ∈ gw := gwm 1092 (by decide +kernel) rfl
theorem co_X12_finding : Cond.code yX12_finding cX12_finding 2 (some .int) ∈ gw := gwm 1093 (by decide +kernel) rfl
theorem ko_X12_60 : Cond.constant RX12 60 (-1000010) ∈ gw := gwm 1094 (by decide +kernel) rfl
theorem ml_L_21 : Cond.methodLink RL 21 yX12_set ∈ gw := gwm 1095 (by decide +kernel) rfl
theorem im_X12_set : Cond.instanceMethod yX12_set ∈ gw := gwm 1096 (by decide +kernel) rfl
theorem se_X12_X12_set_X12_set : Cond.selects RX12 yX12_set yX12_set ∈ gw := gwm 1097 (by decide +kernel) rfl
theorem co_X12_set : Cond.code yX12_set cX12_set 4 (some .int) ∈ gw := gwm 1098 (by decide +kernel) rfl
theorem ml_L_26 : Cond.methodLink RL 26 yX12_copy ∈ gw := gwm 1099 (by decide +kernel) rfl
theorem im_X12_copy : Cond.instanceMethod yX12_copy ∈ gw := gwm 1100 (by decide +kernel) rfl
theorem se_X12_X12_copy_X12_copy : Cond.selects RX12 yX12_copy yX12_copy ∈ gw := gwm 1101 (by decide +kernel) rfl
theorem co_X12_copy : Cond.code yX12_copy cX12_copy 9 (some .int) ∈ gw := gwm 1102 (by decide +kernel) rfl
theorem ml_L_31 : Cond.methodLink RL 31 yX12_drop ∈ gw := gwm 1103 (by decide +kernel) rfl
theorem im_X12_drop : Cond.instanceMethod yX12_drop ∈ gw := gwm 1104 (by decide +kernel) rfl
theorem se_X12_X12_drop_X12_drop : Cond.selects RX12 yX12_drop yX12_drop ∈ gw := gwm 1105 (by decide +kernel) rfl
theorem co_X12_drop : Cond.code yX12_drop cX12_drop 2 (some .int) ∈ gw := gwm 1106 (by decide +kernel) rfl
theorem ml_L_35 : Cond.methodLink RL 35 yX12_feed ∈ gw := gwm 1107 (by decide +kernel) rfl
theorem im_X12_feed : Cond.instanceMethod yX12_feed ∈ gw := gwm 1108 (by decide +kernel) rfl
theorem se_X12_X12_feed_X12_feed : Cond.selects RX12 yX12_feed yX12_feed ∈ gw := gwm 1109 (by decide +kernel) rfl
theorem co_X12_feed : Cond.code yX12_feed cX12_feed 2 (some .int) ∈ gw := gwm 1110 (by decide +kernel) rfl
theorem kL_X12_78 : Cond.constantLong RX12 78 (255) ∈ gw := gwm 1111 (by decide +kernel) rfl
theorem ko_X12_83 : Cond.constant RX12 83 (-1000003) ∈ gw := gwm 1112 (by decide +kernel) rfl
theorem ml_L_44 : Cond.methodLink RL 44 yX12_fault ∈ gw := gwm 1113 (by decide +kernel) rfl
theorem im_X12_fault : Cond.instanceMethod yX12_fault ∈ gw := gwm 1114 (by decide +kernel) rfl
theorem se_X12_X12_fault_X12_fault : Cond.selects RX12 yX12_fault yX12_fault ∈ gw := gwm 1115 (by decide +kernel) rfl
theorem co_X12_fault : Cond.code yX12_fault cX12_fault 1 (some .int) ∈ gw := gwm 1116 (by decide +kernel) rfl
theorem ml_L_40 : Cond.methodLink RL 40 yX12_house ∈ gw := gwm 1117 (by decide +kernel) rfl
theorem im_X12_house : Cond.instanceMethod yX12_house ∈ gw := gwm 1118 (by decide +kernel) rfl
theorem se_X12_X12_house_X12_house : Cond.selects RX12 yX12_house yX12_house ∈ gw := gwm 1119 (by decide +kernel) rfl
theorem co_X12_house : Cond.code yX12_house cX12_house 2 (some .int) ∈ gw := gwm 1120 (by decide +kernel) rfl
theorem ml_X12_138 : Cond.methodLink RX12 138 yX12_begin ∈ gw := gwm 1121 (by decide +kernel) rfl
theorem im_X12_begin : Cond.instanceMethod yX12_begin ∈ gw := gwm 1123 (by decide +kernel) rfl
theorem co_X12_begin : Cond.code yX12_begin cX12_begin 1 none ∈ gw := gwm 1124 (by decide +kernel) rfl
theorem ml_X12_115 : Cond.methodLink RX12 115 yX12_nextToken ∈ gw := gwm 1125 (by decide +kernel) rfl
theorem im_X12_nextToken : Cond.instanceMethod yX12_nextToken ∈ gw := gwm 1127 (by decide +kernel) rfl
theorem co_X12_nextToken : Cond.code yX12_nextToken cX12_nextToken 1 none ∈ gw := gwm 1128 (by decide +kernel) rfl
theorem ko_X12_96 : Cond.constant RX12 96 (-1000000) ∈ gw := gwm 1129 (by decide +kernel) rfl
theorem kL_X12_100 : Cond.constantLong RX12 100 (97) ∈ gw := gwm 1130 (by decide +kernel) rfl
theorem kL_X12_102 : Cond.constantLong RX12 102 (122) ∈ gw := gwm 1131 (by decide +kernel) rfl
theorem kL_X12_104 : Cond.constantLong RX12 104 (48) ∈ gw := gwm 1132 (by decide +kernel) rfl
theorem kL_X12_106 : Cond.constantLong RX12 106 (57) ∈ gw := gwm 1133 (by decide +kernel) rfl
theorem ml_X12_141 : Cond.methodLink RX12 141 yX12_isLetter ∈ gw := gwm 1134 (by decide +kernel) rfl
theorem im_X12_isLetter : Cond.instanceMethod yX12_isLetter ∈ gw := gwm 1136 (by decide +kernel) rfl
theorem co_X12_isLetter : Cond.code yX12_isLetter cX12_isLetter 2 (some .boolean) ∈ gw := gwm 1137 (by decide +kernel) rfl
theorem ml_X12_118 : Cond.methodLink RX12 118 yX12_must ∈ gw := gwm 1138 (by decide +kernel) rfl
theorem im_X12_must : Cond.instanceMethod yX12_must ∈ gw := gwm 1140 (by decide +kernel) rfl
theorem co_X12_must : Cond.code yX12_must cX12_must 2 none ∈ gw := gwm 1141 (by decide +kernel) rfl
theorem ml_X12_111 : Cond.methodLink RX12 111 yX12_bad ∈ gw := gwm 1142 (by decide +kernel) rfl
theorem im_X12_bad : Cond.instanceMethod yX12_bad ∈ gw := gwm 1144 (by decide +kernel) rfl
theorem co_X12_bad : Cond.code yX12_bad cX12_bad 2 none ∈ gw := gwm 1145 (by decide +kernel) rfl
theorem ml_X12_128 : Cond.methodLink RX12 128 yX12_number ∈ gw := gwm 1146 (by decide +kernel) rfl
theorem im_X12_number : Cond.instanceMethod yX12_number ∈ gw := gwm 1148 (by decide +kernel) rfl
theorem co_X12_number : Cond.code yX12_number cX12_number 4 (some .int) ∈ gw := gwm 1149 (by decide +kernel) rfl
theorem ml_X12_132 : Cond.methodLink RX12 132 yX12_mustSign ∈ gw := gwm 1150 (by decide +kernel) rfl
theorem im_X12_mustSign : Cond.instanceMethod yX12_mustSign ∈ gw := gwm 1152 (by decide +kernel) rfl
theorem co_X12_mustSign : Cond.code yX12_mustSign cX12_mustSign 2 none ∈ gw := gwm 1153 (by decide +kernel) rfl
theorem ml_X12_144 : Cond.methodLink RX12 144 yX12_isRoomNext ∈ gw := gwm 1154 (by decide +kernel) rfl
theorem im_X12_isRoomNext : Cond.instanceMethod yX12_isRoomNext ∈ gw := gwm 1156 (by decide +kernel) rfl
theorem co_X12_isRoomNext : Cond.code yX12_isRoomNext cX12_isRoomNext 1 (some .boolean) ∈ gw := gwm 1157 (by decide +kernel) rfl
theorem ml_X12_148 : Cond.methodLink RX12 148 yX12_readRoom ∈ gw := gwm 1158 (by decide +kernel) rfl
theorem im_X12_readRoom : Cond.instanceMethod yX12_readRoom ∈ gw := gwm 1160 (by decide +kernel) rfl
theorem co_X12_readRoom : Cond.code yX12_readRoom cX12_readRoom 2 none ∈ gw := gwm 1161 (by decide +kernel) rfl
theorem ml_X12_151 : Cond.methodLink RX12 151 yX12_isSort ∈ gw := gwm 1162 (by decide +kernel) rfl
theorem im_X12_isSort : Cond.instanceMethod yX12_isSort ∈ gw := gwm 1164 (by decide +kernel) rfl
theorem co_X12_isSort : Cond.code yX12_isSort cX12_isSort 1 (some .boolean) ∈ gw := gwm 1165 (by decide +kernel) rfl
theorem ml_X12_125 : Cond.methodLink RX12 125 yX12_kindBy ∈ gw := gwm 1166 (by decide +kernel) rfl
theorem sm_X12_kindBy : Cond.static yX12_kindBy ∈ gw := gwm 1167 (by decide +kernel) rfl
theorem co_X12_kindBy : Cond.code yX12_kindBy cX12_kindBy 1 (some .int) ∈ gw := gwm 1168 (by decide +kernel) rfl
theorem ml_X12_154 : Cond.methodLink RX12 154 yX12_readDoor ∈ gw := gwm 1169 (by decide +kernel) rfl
theorem im_X12_readDoor : Cond.instanceMethod yX12_readDoor ∈ gw := gwm 1171 (by decide +kernel) rfl
theorem co_X12_readDoor : Cond.code yX12_readDoor cX12_readDoor 6 none ∈ gw := gwm 1172 (by decide +kernel) rfl
theorem ml_X12_135 : Cond.methodLink RX12 135 yX12_otherRoom ∈ gw := gwm 1173 (by decide +kernel) rfl
theorem im_X12_otherRoom : Cond.instanceMethod yX12_otherRoom ∈ gw := gwm 1175 (by decide +kernel) rfl
theorem co_X12_otherRoom : Cond.code yX12_otherRoom cX12_otherRoom 2 (some .int) ∈ gw := gwm 1176 (by decide +kernel) rfl
theorem ml_X12_157 : Cond.methodLink RX12 157 yX12_failed ∈ gw := gwm 1177 (by decide +kernel) rfl
theorem im_X12_failed : Cond.instanceMethod yX12_failed ∈ gw := gwm 1179 (by decide +kernel) rfl
theorem co_X12_failed : Cond.code yX12_failed cX12_failed 1 (some .boolean) ∈ gw := gwm 1180 (by decide +kernel) rfl
theorem ko_X12_160 : Cond.constant RX12 160 (-1000100) ∈ gw := gwm 1181 (by decide +kernel) rfl
theorem ml_L_52 : Cond.methodLink RL 52 yX12_errand ∈ gw := gwm 1182 (by decide +kernel) rfl
theorem im_X12_errand : Cond.instanceMethod yX12_errand ∈ gw := gwm 1183 (by decide +kernel) rfl
theorem se_X12_X12_errand_X12_errand : Cond.selects RX12 yX12_errand yX12_errand ∈ gw := gwm 1184 (by decide +kernel) rfl
theorem co_X12_errand : Cond.code yX12_errand cX12_errand 7 (some .int) ∈ gw := gwm 1185 (by decide +kernel) rfl
theorem ml_X12_216 : Cond.methodLink RX12 216 yX12_isThere ∈ gw := gwm 1186 (by decide +kernel) rfl
theorem im_X12_isThere : Cond.instanceMethod yX12_isThere ∈ gw := gwm 1188 (by decide +kernel) rfl
theorem co_X12_isThere : Cond.code yX12_isThere cX12_isThere 1 (some .boolean) ∈ gw := gwm 1189 (by decide +kernel) rfl
theorem ko_X12_219 : Cond.constant RX12 219 (-1000002) ∈ gw := gwm 1190 (by decide +kernel) rfl
theorem ml_X12_220 : Cond.methodLink RX12 220 yX12_isErrand ∈ gw := gwm 1191 (by decide +kernel) rfl
theorem sm_X12_isErrand : Cond.static yX12_isErrand ∈ gw := gwm 1192 (by decide +kernel) rfl
theorem co_X12_isErrand : Cond.code yX12_isErrand cX12_isErrand 2 (some .boolean) ∈ gw := gwm 1193 (by decide +kernel) rfl
theorem kL_X12_214 : Cond.constantLong RX12 214 (8) ∈ gw := gwm 1194 (by decide +kernel) rfl
theorem ml_X12_223 : Cond.methodLink RX12 223 yX12_rowFound ∈ gw := gwm 1195 (by decide +kernel) rfl
theorem im_X12_rowFound : Cond.instanceMethod yX12_rowFound ∈ gw := gwm 1197 (by decide +kernel) rfl
theorem co_X12_rowFound : Cond.code yX12_rowFound cX12_rowFound 5 (some .int) ∈ gw := gwm 1198 (by decide +kernel) rfl
theorem ml_X12_227 : Cond.methodLink RX12 227 yX12_keep ∈ gw := gwm 1199 (by decide +kernel) rfl
theorem im_X12_keep : Cond.instanceMethod yX12_keep ∈ gw := gwm 1201 (by decide +kernel) rfl
theorem co_X12_keep : Cond.code yX12_keep cX12_keep 2 none ∈ gw := gwm 1202 (by decide +kernel) rfl
theorem ml_X12_230 : Cond.methodLink RX12 230 yX12_goOut ∈ gw := gwm 1203 (by decide +kernel) rfl
theorem im_X12_goOut : Cond.instanceMethod yX12_goOut ∈ gw := gwm 1205 (by decide +kernel) rfl
theorem co_X12_goOut : Cond.code yX12_goOut cX12_goOut 4 (some .int) ∈ gw := gwm 1206 (by decide +kernel) rfl
theorem ml_X12_211 : Cond.methodLink RX12 211 yX12_goThrough ∈ gw := gwm 1207 (by decide +kernel) rfl
theorem im_X12_goThrough : Cond.instanceMethod yX12_goThrough ∈ gw := gwm 1209 (by decide +kernel) rfl
theorem co_X12_goThrough : Cond.code yX12_goThrough cX12_goThrough 4 (some .int) ∈ gw := gwm 1210 (by decide +kernel) rfl
theorem ml_X12_167 : Cond.methodLink RX12 167 yX12_of ∈ gw := gwm 1211 (by decide +kernel) rfl
theorem sm_X12_of : Cond.static yX12_of ∈ gw := gwm 1212 (by decide +kernel) rfl
theorem co_X12_of : Cond.code yX12_of cX12_of 3 (some .int) ∈ gw := gwm 1213 (by decide +kernel) rfl
theorem ml_X12_202 : Cond.methodLink RX12 202 yX12_isOpen ∈ gw := gwm 1214 (by decide +kernel) rfl
theorem im_X12_isOpen : Cond.instanceMethod yX12_isOpen ∈ gw := gwm 1216 (by decide +kernel) rfl
theorem co_X12_isOpen : Cond.code yX12_isOpen cX12_isOpen 3 (some .boolean) ∈ gw := gwm 1217 (by decide +kernel) rfl
theorem ml_X12_205 : Cond.methodLink RX12 205 yX12_open ∈ gw := gwm 1218 (by decide +kernel) rfl
theorem im_X12_open : Cond.instanceMethod yX12_open ∈ gw := gwm 1220 (by decide +kernel) rfl
theorem co_X12_open : Cond.code yX12_open cX12_open 5 (some .int) ∈ gw := gwm 1221 (by decide +kernel) rfl
theorem ml_X12_178 : Cond.methodLink RX12 178 yX12_has ∈ gw := gwm 1222 (by decide +kernel) rfl
theorem sm_X12_has : Cond.static yX12_has ∈ gw := gwm 1223 (by decide +kernel) rfl
theorem co_X12_has : Cond.code yX12_has cX12_has 2 (some .boolean) ∈ gw := gwm 1224 (by decide +kernel) rfl
theorem ml_X12_185 : Cond.methodLink RX12 185 yX12_loudOf ∈ gw := gwm 1225 (by decide +kernel) rfl
theorem sm_X12_loudOf : Cond.static yX12_loudOf ∈ gw := gwm 1226 (by decide +kernel) rfl
theorem co_X12_loudOf : Cond.code yX12_loudOf cX12_loudOf 3 (some .int) ∈ gw := gwm 1227 (by decide +kernel) rfl
theorem ml_X12_188 : Cond.methodLink RX12 188 yX12_be ∈ gw := gwm 1228 (by decide +kernel) rfl
theorem sm_X12_be : Cond.static yX12_be ∈ gw := gwm 1229 (by decide +kernel) rfl
theorem co_X12_be : Cond.code yX12_be cX12_be 4 none ∈ gw := gwm 1230 (by decide +kernel) rfl
theorem ml_X12_192 : Cond.methodLink RX12 192 yX12_draughtNow ∈ gw := gwm 1231 (by decide +kernel) rfl
theorem im_X12_draughtNow : Cond.instanceMethod yX12_draughtNow ∈ gw := gwm 1233 (by decide +kernel) rfl
theorem co_X12_draughtNow : Cond.code yX12_draughtNow cX12_draughtNow 4 (some .int) ∈ gw := gwm 1234 (by decide +kernel) rfl
theorem ml_X12_174 : Cond.methodLink RX12 174 yX12_gapOf ∈ gw := gwm 1235 (by decide +kernel) rfl
theorem sm_X12_gapOf : Cond.static yX12_gapOf ∈ gw := gwm 1236 (by decide +kernel) rfl
theorem co_X12_gapOf : Cond.code yX12_gapOf cX12_gapOf 3 (some .int) ∈ gw := gwm 1237 (by decide +kernel) rfl
theorem ml_X12_233 : Cond.methodLink RX12 233 yX12_writes ∈ gw := gwm 1238 (by decide +kernel) rfl
theorem im_X12_writes : Cond.instanceMethod yX12_writes ∈ gw := gwm 1240 (by decide +kernel) rfl
theorem co_X12_writes : Cond.code yX12_writes cX12_writes 2 none ∈ gw := gwm 1241 (by decide +kernel) rfl
theorem ml_L_56 : Cond.methodLink RL 56 yX12_ledger ∈ gw := gwm 1242 (by decide +kernel) rfl
theorem im_X12_ledger : Cond.instanceMethod yX12_ledger ∈ gw := gwm 1243 (by decide +kernel) rfl
theorem se_X12_X12_ledger_X12_ledger : Cond.selects RX12 yX12_ledger yX12_ledger ∈ gw := gwm 1244 (by decide +kernel) rfl
theorem co_X12_ledger : Cond.code yX12_ledger cX12_ledger 2 (some .int) ∈ gw := gwm 1245 (by decide +kernel) rfl
theorem ml_L_60 : Cond.methodLink RL 60 yX12_oil ∈ gw := gwm 1246 (by decide +kernel) rfl
theorem im_X12_oil : Cond.instanceMethod yX12_oil ∈ gw := gwm 1247 (by decide +kernel) rfl
theorem se_X12_X12_oil_X12_oil : Cond.selects RX12 yX12_oil yX12_oil ∈ gw := gwm 1248 (by decide +kernel) rfl
theorem co_X12_oil : Cond.code yX12_oil cX12_oil 3 (some .int) ∈ gw := gwm 1249 (by decide +kernel) rfl
theorem ml_X12_236 : Cond.methodLink RX12 236 yX12_isDoor ∈ gw := gwm 1250 (by decide +kernel) rfl
theorem im_X12_isDoor : Cond.instanceMethod yX12_isDoor ∈ gw := gwm 1252 (by decide +kernel) rfl
theorem co_X12_isDoor : Cond.code yX12_isDoor cX12_isDoor 2 (some .boolean) ∈ gw := gwm 1253 (by decide +kernel) rfl
theorem ml_L_65 : Cond.methodLink RL 65 yX12_bring ∈ gw := gwm 1254 (by decide +kernel) rfl
theorem im_X12_bring : Cond.instanceMethod yX12_bring ∈ gw := gwm 1255 (by decide +kernel) rfl
theorem se_X12_X12_bring_X12_bring : Cond.selects RX12 yX12_bring yX12_bring ∈ gw := gwm 1256 (by decide +kernel) rfl
theorem co_X12_bring : Cond.code yX12_bring cX12_bring 3 (some .int) ∈ gw := gwm 1257 (by decide +kernel) rfl
theorem ml_X12_239 : Cond.methodLink RX12 239 yX12_isRoom ∈ gw := gwm 1258 (by decide +kernel) rfl
theorem im_X12_isRoom : Cond.instanceMethod yX12_isRoom ∈ gw := gwm 1260 (by decide +kernel) rfl
theorem co_X12_isRoom : Cond.code yX12_isRoom cX12_isRoom 2 (some .boolean) ∈ gw := gwm 1261 (by decide +kernel) rfl
theorem kL_X12_242 : Cond.constantLong RX12 242 (20) ∈ gw := gwm 1262 (by decide +kernel) rfl
theorem ml_X12_244 : Cond.methodLink RX12 244 yX12_weightOf ∈ gw := gwm 1263 (by decide +kernel) rfl
theorem sm_X12_weightOf : Cond.static yX12_weightOf ∈ gw := gwm 1264 (by decide +kernel) rfl
theorem co_X12_weightOf : Cond.code yX12_weightOf cX12_weightOf 3 (some .int) ∈ gw := gwm 1265 (by decide +kernel) rfl
theorem ml_L_69 : Cond.methodLink RL 69 yX12_rule ∈ gw := gwm 1266 (by decide +kernel) rfl
theorem im_X12_rule : Cond.instanceMethod yX12_rule ∈ gw := gwm 1267 (by decide +kernel) rfl
theorem se_X12_X12_rule_X12_rule : Cond.selects RX12 yX12_rule yX12_rule ∈ gw := gwm 1268 (by decide +kernel) rfl
theorem co_X12_rule : Cond.code yX12_rule cX12_rule 6 (some .int) ∈ gw := gwm 1269 (by decide +kernel) rfl
theorem kL_X12_247 : Cond.constantLong RX12 247 (63) ∈ gw := gwm 1270 (by decide +kernel) rfl
theorem kL_X12_249 : Cond.constantLong RX12 249 (9) ∈ gw := gwm 1271 (by decide +kernel) rfl
theorem kL_X12_251 : Cond.constantLong RX12 251 (60) ∈ gw := gwm 1272 (by decide +kernel) rfl
theorem ml_L_48 : Cond.methodLink RL 48 yX12_undo ∈ gw := gwm 1273 (by decide +kernel) rfl
theorem im_X12_undo : Cond.instanceMethod yX12_undo ∈ gw := gwm 1274 (by decide +kernel) rfl
theorem se_X12_X12_undo_X12_undo : Cond.selects RX12 yX12_undo yX12_undo ∈ gw := gwm 1275 (by decide +kernel) rfl
theorem co_X12_undo : Cond.code yX12_undo cX12_undo 2 (some .int) ∈ gw := gwm 1276 (by decide +kernel) rfl
theorem ml_L_73 : Cond.methodLink RL 73 yX12_door ∈ gw := gwm 1277 (by decide +kernel) rfl
theorem im_X12_door : Cond.instanceMethod yX12_door ∈ gw := gwm 1278 (by decide +kernel) rfl
theorem se_X12_X12_door_X12_door : Cond.selects RX12 yX12_door yX12_door ∈ gw := gwm 1279 (by decide +kernel) rfl
theorem co_X12_door : Cond.code yX12_door cX12_door 3 (some .int) ∈ gw := gwm 1280 (by decide +kernel) rfl
theorem ml_L_77 : Cond.methodLink RL 77 yX12_room ∈ gw := gwm 1281 (by decide +kernel) rfl
theorem im_X12_room : Cond.instanceMethod yX12_room ∈ gw := gwm 1282 (by decide +kernel) rfl
theorem se_X12_X12_room_X12_room : Cond.selects RX12 yX12_room yX12_room ∈ gw := gwm 1283 (by decide +kernel) rfl
theorem co_X12_room : Cond.code yX12_room cX12_room 5 (some .int) ∈ gw := gwm 1284 (by decide +kernel) rfl
theorem ml_L_82 : Cond.methodLink RL 82 yX12_would ∈ gw := gwm 1285 (by decide +kernel) rfl
theorem im_X12_would : Cond.instanceMethod yX12_would ∈ gw := gwm 1286 (by decide +kernel) rfl
theorem se_X12_X12_would_X12_would : Cond.selects RX12 yX12_would yX12_would ∈ gw := gwm 1287 (by decide +kernel) rfl
theorem co_X12_would : Cond.code yX12_would cX12_would 7 (some .int) ∈ gw := gwm 1288 (by decide +kernel) rfl
theorem kL_X12_253 : Cond.constantLong RX12 253 (4) ∈ gw := gwm 1289 (by decide +kernel) rfl
theorem ml_X12_255 : Cond.methodLink RX12 255 yX12_layThen ∈ gw := gwm 1290 (by decide +kernel) rfl
theorem im_X12_layThen : Cond.instanceMethod yX12_layThen ∈ gw := gwm 1292 (by decide +kernel) rfl
theorem co_X12_layThen : Cond.code yX12_layThen cX12_layThen 2 none ∈ gw := gwm 1293 (by decide +kernel) rfl
theorem ml_L_86 : Cond.methodLink RL 86 yX12_way ∈ gw := gwm 1294 (by decide +kernel) rfl
theorem im_X12_way : Cond.instanceMethod yX12_way ∈ gw := gwm 1295 (by decide +kernel) rfl
theorem se_X12_X12_way_X12_way : Cond.selects RX12 yX12_way yX12_way ∈ gw := gwm 1296 (by decide +kernel) rfl
theorem co_X12_way : Cond.code yX12_way cX12_way 8 (some .int) ∈ gw := gwm 1297 (by decide +kernel) rfl
theorem ml_X12_258 : Cond.methodLink RX12 258 yX12_isWell ∈ gw := gwm 1298 (by decide +kernel) rfl
theorem im_X12_isWell : Cond.instanceMethod yX12_isWell ∈ gw := gwm 1300 (by decide +kernel) rfl
theorem co_X12_isWell : Cond.code yX12_isWell cX12_isWell 3 (some .boolean) ∈ gw := gwm 1301 (by decide +kernel) rfl
theorem ml_L_90 : Cond.methodLink RL 90 yX12_needs ∈ gw := gwm 1302 (by decide +kernel) rfl
theorem im_X12_needs : Cond.instanceMethod yX12_needs ∈ gw := gwm 1303 (by decide +kernel) rfl
theorem se_X12_X12_needs_X12_needs : Cond.selects RX12 yX12_needs yX12_needs ∈ gw := gwm 1304 (by decide +kernel) rfl
theorem co_X12_needs : Cond.code yX12_needs cX12_needs 6 (some .int) ∈ gw := gwm 1305 (by decide +kernel) rfl
theorem ml_X12_264 : Cond.methodLink RX12 264 yX12_sleepFor ∈ gw := gwm 1306 (by decide +kernel) rfl
theorem im_X12_sleepFor : Cond.instanceMethod yX12_sleepFor ∈ gw := gwm 1308 (by decide +kernel) rfl
theorem co_X12_sleepFor : Cond.code yX12_sleepFor cX12_sleepFor 3 (some .int) ∈ gw := gwm 1309 (by decide +kernel) rfl
theorem ml_X12_267 : Cond.methodLink RX12 267 yX12_keysFor ∈ gw := gwm 1310 (by decide +kernel) rfl
theorem im_X12_keysFor : Cond.instanceMethod yX12_keysFor ∈ gw := gwm 1312 (by decide +kernel) rfl
theorem co_X12_keysFor : Cond.code yX12_keysFor cX12_keysFor 5 (some .int) ∈ gw := gwm 1313 (by decide +kernel) rfl
theorem ml_X12_261 : Cond.methodLink RX12 261 yX12_bits ∈ gw := gwm 1314 (by decide +kernel) rfl
theorem sm_X12_bits : Cond.static yX12_bits ∈ gw := gwm 1315 (by decide +kernel) rfl
theorem co_X12_bits : Cond.code yX12_bits cX12_bits 3 (some .int) ∈ gw := gwm 1316 (by decide +kernel) rfl
theorem ml_L_94 : Cond.methodLink RL 94 yX12_sets ∈ gw := gwm 1317 (by decide +kernel) rfl
theorem im_X12_sets : Cond.instanceMethod yX12_sets ∈ gw := gwm 1318 (by decide +kernel) rfl
theorem se_X12_X12_sets_X12_sets : Cond.selects RX12 yX12_sets yX12_sets ∈ gw := gwm 1319 (by decide +kernel) rfl
theorem co_X12_sets : Cond.code yX12_sets cX12_sets 10 (some .int) ∈ gw := gwm 1320 (by decide +kernel) rfl
theorem kL_X12_270 : Cond.constantLong RX12 270 (160) ∈ gw := gwm 1321 (by decide +kernel) rfl
theorem ml_L_98 : Cond.methodLink RL 98 yX12_share ∈ gw := gwm 1322 (by decide +kernel) rfl
theorem im_X12_share : Cond.instanceMethod yX12_share ∈ gw := gwm 1323 (by decide +kernel) rfl
theorem se_X12_X12_share_X12_share : Cond.selects RX12 yX12_share yX12_share ∈ gw := gwm 1324 (by decide +kernel) rfl
theorem co_X12_share : Cond.code yX12_share cX12_share 8 (some .int) ∈ gw := gwm 1325 (by decide +kernel) rfl
theorem kL_X12_272 : Cond.constantLong RX12 272 (999) ∈ gw := gwm 1326 (by decide +kernel) rfl
theorem ml_L_102 : Cond.methodLink RL 102 yX12_byTurns ∈ gw := gwm 1327 (by decide +kernel) rfl
theorem im_X12_byTurns : Cond.instanceMethod yX12_byTurns ∈ gw := gwm 1328 (by decide +kernel) rfl
theorem se_X12_X12_byTurns_X12_byTurns : Cond.selects RX12 yX12_byTurns yX12_byTurns ∈ gw := gwm 1329 (by decide +kernel) rfl
theorem co_X12_byTurns : Cond.code yX12_byTurns cX12_byTurns 10 (some .int) ∈ gw := gwm 1330 (by decide +kernel) rfl
theorem kL_X12_274 : Cond.constantLong RX12 274 (3) ∈ gw := gwm 1331 (by decide +kernel) rfl
theorem ml_X12_276 : Cond.methodLink RX12 276 yX12_afterTurns ∈ gw := gwm 1332 (by decide +kernel) rfl
theorem im_X12_afterTurns : Cond.instanceMethod yX12_afterTurns ∈ gw := gwm 1334 (by decide +kernel) rfl
theorem co_X12_afterTurns : Cond.code yX12_afterTurns cX12_afterTurns 8 (some .int) ∈ gw := gwm 1335 (by decide +kernel) rfl
theorem ml_L_107 : Cond.methodLink RL 107 yX12_who ∈ gw := gwm 1336 (by decide +kernel) rfl
theorem im_X12_who : Cond.instanceMethod yX12_who ∈ gw := gwm 1337 (by decide +kernel) rfl
theorem se_X12_X12_who_X12_who : Cond.selects RX12 yX12_who yX12_who ∈ gw := gwm 1338 (by decide +kernel) rfl
theorem co_X12_who : Cond.code yX12_who cX12_who 14 (some .int) ∈ gw := gwm 1339 (by decide +kernel) rfl
theorem kL_X12_279 : Cond.constantLong RX12 279 (1006) ∈ gw := gwm 1340 (by decide +kernel) rfl
theorem kL_X12_281 : Cond.constantLong RX12 281 (1011) ∈ gw := gwm 1341 (by decide +kernel) rfl
theorem ml_X12_283 : Cond.methodLink RX12 283 yX12_doesComeTo ∈ gw := gwm 1342 (by decide +kernel) rfl
theorem im_X12_doesComeTo : Cond.instanceMethod yX12_doesComeTo ∈ gw := gwm 1344 (by decide +kernel) rfl
theorem co_X12_doesComeTo : Cond.code yX12_doesComeTo cX12_doesComeTo 4 (some .boolean) ∈ gw := gwm 1345 (by decide +kernel) rfl
theorem ml_L_112 : Cond.methodLink RL 112 yX12_sticks ∈ gw := gwm 1346 (by decide +kernel) rfl
theorem im_X12_sticks : Cond.instanceMethod yX12_sticks ∈ gw := gwm 1347 (by decide +kernel) rfl
theorem se_X12_X12_sticks_X12_sticks : Cond.selects RX12 yX12_sticks yX12_sticks ∈ gw := gwm 1348 (by decide +kernel) rfl
theorem co_X12_sticks : Cond.code yX12_sticks cX12_sticks 18 (some .long) ∈ gw := gwm 1349 (by decide +kernel) rfl
theorem kL_X12_286 : Cond.constantLong RX12 286 (-1000002) ∈ gw := gwm 1350 (by decide +kernel) rfl
theorem kL_X12_288 : Cond.constantLong RX12 288 (10) ∈ gw := gwm 1351 (by decide +kernel) rfl
theorem kL_X12_290 : Cond.constantLong RX12 290 (-1000001) ∈ gw := gwm 1352 (by decide +kernel) rfl
theorem ml_L_116 : Cond.methodLink RL 116 yX12_drawn ∈ gw := gwm 1353 (by decide +kernel) rfl
theorem im_X12_drawn : Cond.instanceMethod yX12_drawn ∈ gw := gwm 1354 (by decide +kernel) rfl
theorem se_X12_X12_drawn_X12_drawn : Cond.selects RX12 yX12_drawn yX12_drawn ∈ gw := gwm 1355 (by decide +kernel) rfl
theorem co_X12_drawn : Cond.code yX12_drawn cX12_drawn 11 (some .int) ∈ gw := gwm 1356 (by decide +kernel) rfl
theorem kL_X12_292 : Cond.constantLong RX12 292 (999999) ∈ gw := gwm 1357 (by decide +kernel) rfl
theorem kL_X12_294 : Cond.constantLong RX12 294 (16807) ∈ gw := gwm 1358 (by decide +kernel) rfl
theorem kL_X12_296 : Cond.constantLong RX12 296 (2147483647) ∈ gw := gwm 1359 (by decide +kernel) rfl
theorem kL_X12_298 : Cond.constantLong RX12 298 (64) ∈ gw := gwm 1360 (by decide +kernel) rfl
theorem ml_L_120 : Cond.methodLink RL 120 yX12_image ∈ gw := gwm 1361 (by decide +kernel) rfl
theorem im_X12_image : Cond.instanceMethod yX12_image ∈ gw := gwm 1362 (by decide +kernel) rfl
theorem se_X12_X12_image_X12_image : Cond.selects RX12 yX12_image yX12_image ∈ gw := gwm 1363 (by decide +kernel) rfl
theorem co_X12_image : Cond.code yX12_image cX12_image 3 (some .int) ∈ gw := gwm 1364 (by decide +kernel) rfl
theorem ml_L_124 : Cond.methodLink RL 124 yX12_restore ∈ gw := gwm 1365 (by decide +kernel) rfl
theorem im_X12_restore : Cond.instanceMethod yX12_restore ∈ gw := gwm 1366 (by decide +kernel) rfl
theorem se_X12_X12_restore_X12_restore : Cond.selects RX12 yX12_restore yX12_restore ∈ gw := gwm 1367 (by decide +kernel) rfl
theorem co_X12_restore : Cond.code yX12_restore cX12_restore 3 (some .int) ∈ gw := gwm 1368 (by decide +kernel) rfl
theorem ml_L_128 : Cond.methodLink RL 128 yX12_kind ∈ gw := gwm 1369 (by decide +kernel) rfl
theorem im_X12_kind : Cond.instanceMethod yX12_kind ∈ gw := gwm 1370 (by decide +kernel) rfl
theorem se_X12_X12_kind_X12_kind : Cond.selects RX12 yX12_kind yX12_kind ∈ gw := gwm 1371 (by decide +kernel) rfl
theorem co_X12_kind : Cond.code yX12_kind cX12_kind 2 (some .int) ∈ gw := gwm 1372 (by decide +kernel) rfl
theorem ml_L_132 : Cond.methodLink RL 132 yX12_as ∈ gw := gwm 1373 (by decide +kernel) rfl
theorem im_X12_as : Cond.instanceMethod yX12_as ∈ gw := gwm 1374 (by decide +kernel) rfl
theorem se_X12_X12_as_X12_as : Cond.selects RX12 yX12_as yX12_as ∈ gw := gwm 1375 (by decide +kernel) rfl
theorem co_X12_as : Cond.code yX12_as cX12_as 3 (some .int) ∈ gw := gwm 1376 (by decide +kernel) rfl
theorem kL_X12_300 : Cond.constantLong RX12 300 (5) ∈ gw := gwm 1377 (by decide +kernel) rfl
theorem ml_X12_302 : Cond.methodLink RX12 302 yX12_isOf ∈ gw := gwm 1378 (by decide +kernel) rfl
theorem sm_X12_isOf : Cond.static yX12_isOf ∈ gw := gwm 1379 (by decide +kernel) rfl
theorem co_X12_isOf : Cond.code yX12_isOf cX12_isOf 2 (some .boolean) ∈ gw := gwm 1380 (by decide +kernel) rfl
theorem ml_L_136 : Cond.methodLink RL 136 yX12_ask ∈ gw := gwm 1381 (by decide +kernel) rfl
theorem im_X12_ask : Cond.instanceMethod yX12_ask ∈ gw := gwm 1382 (by decide +kernel) rfl
theorem se_X12_X12_ask_X12_ask : Cond.selects RX12 yX12_ask yX12_ask ∈ gw := gwm 1383 (by decide +kernel) rfl
theorem co_X12_ask : Cond.code yX12_ask cX12_ask 3 (some .int) ∈ gw := gwm 1384 (by decide +kernel) rfl
theorem ml_X12_320 : Cond.methodLink RX12 320 yX12_sizeOf ∈ gw := gwm 1385 (by decide +kernel) rfl
theorem im_X12_sizeOf : Cond.instanceMethod yX12_sizeOf ∈ gw := gwm 1387 (by decide +kernel) rfl
theorem co_X12_sizeOf : Cond.code yX12_sizeOf cX12_sizeOf 4 (some .int) ∈ gw := gwm 1388 (by decide +kernel) rfl
theorem ml_X12_314 : Cond.methodLink RX12 314 yX12_lockSize ∈ gw := gwm 1389 (by decide +kernel) rfl
theorem im_X12_lockSize : Cond.instanceMethod yX12_lockSize ∈ gw := gwm 1391 (by decide +kernel) rfl
theorem co_X12_lockSize : Cond.code yX12_lockSize cX12_lockSize 4 (some .int) ∈ gw := gwm 1392 (by decide +kernel) rfl
theorem ml_X12_308 : Cond.methodLink RX12 308 yX12_began ∈ gw := gwm 1393 (by decide +kernel) rfl
theorem im_X12_began : Cond.instanceMethod yX12_began ∈ gw := gwm 1395 (by decide +kernel) rfl
theorem co_X12_began : Cond.code yX12_began cX12_began 2 none ∈ gw := gwm 1396 (by decide +kernel) rfl
theorem ml_X12_311 : Cond.methodLink RX12 311 yX12_plainSize ∈ gw := gwm 1397 (by decide +kernel) rfl
theorem im_X12_plainSize : Cond.instanceMethod yX12_plainSize ∈ gw := gwm 1399 (by decide +kernel) rfl
theorem co_X12_plainSize : Cond.code yX12_plainSize cX12_plainSize 2 (some .int) ∈ gw := gwm 1400 (by decide +kernel) rfl
theorem ml_X12_317 : Cond.methodLink RX12 317 yX12_markOf ∈ gw := gwm 1401 (by decide +kernel) rfl
theorem im_X12_markOf : Cond.instanceMethod yX12_markOf ∈ gw := gwm 1403 (by decide +kernel) rfl
theorem co_X12_markOf : Cond.code yX12_markOf cX12_markOf 4 (some .int) ∈ gw := gwm 1404 (by decide +kernel) rfl
theorem ml_L_140 : Cond.methodLink RL 140 yX12_trace ∈ gw := gwm 1405 (by decide +kernel) rfl
theorem im_X12_trace : Cond.instanceMethod yX12_trace ∈ gw := gwm 1406 (by decide +kernel) rfl
theorem se_X12_X12_trace_X12_trace : Cond.selects RX12 yX12_trace yX12_trace ∈ gw := gwm 1407 (by decide +kernel) rfl
theorem co_X12_trace : Cond.code yX12_trace cX12_trace 2 (some .int) ∈ gw := gwm 1408 (by decide +kernel) rfl
theorem ml_L_144 : Cond.methodLink RL 144 yX12_count ∈ gw := gwm 1409 (by decide +kernel) rfl
theorem im_X12_count : Cond.instanceMethod yX12_count ∈ gw := gwm 1410 (by decide +kernel) rfl
theorem se_X12_X12_count_X12_count : Cond.selects RX12 yX12_count yX12_count ∈ gw := gwm 1411 (by decide +kernel) rfl
theorem co_X12_count : Cond.code yX12_count cX12_count 4 (some .int) ∈ gw := gwm 1412 (by decide +kernel) rfl
theorem ml_L_148 : Cond.methodLink RL 148 yX12_status ∈ gw := gwm 1413 (by decide +kernel) rfl
theorem im_X12_status : Cond.instanceMethod yX12_status ∈ gw := gwm 1414 (by decide +kernel) rfl
theorem se_X12_X12_status_X12_status : Cond.selects RX12 yX12_status yX12_status ∈ gw := gwm 1415 (by decide +kernel) rfl
theorem co_X12_status : Cond.code yX12_status cX12_status 1 (some .int) ∈ gw := gwm 1416 (by decide +kernel) rfl
theorem sam_X4_X4_is : Cond.sameMethod RX4 RX4 "is" "(I)Z" ∈ gw := gwm 1417 (by decide +kernel) rfl
theorem sam_X5_X5_is : Cond.sameMethod RX5 RX5 "is" "(I)Z" ∈ gw := gwm 1418 (by decide +kernel) rfl
theorem sam_X4_X4_size : Cond.sameMethod RX4 RX4 "size" "(ILDoorsBehind$Numbers;)I" ∈ gw := gwm 1419 (by decide +kernel) rfl
theorem sam_X2_X2_mark : Cond.sameMethod RX2 RX2 "mark" "(ILDoorsBehind$Numbers;)I" ∈ gw := gwm 1420 (by decide +kernel) rfl
theorem sam_X5_X5_size : Cond.sameMethod RX5 RX5 "size" "(ILDoorsBehind$Numbers;)I" ∈ gw := gwm 1421 (by decide +kernel) rfl
theorem se_X0_X2_mark_X0_mark : Cond.selects RX0 yX2_mark yX0_mark ∈ gw := gwm 1422 (by decide +kernel) rfl
theorem se_X1_X2_mark_X1_mark : Cond.selects RX1 yX2_mark yX1_mark ∈ gw := gwm 1423 (by decide +kernel) rfl
theorem se_X4_X2_mark_X4_mark : Cond.selects RX4 yX2_mark yX4_mark ∈ gw := gwm 1424 (by decide +kernel) rfl
theorem se_X5_X2_mark_X5_mark : Cond.selects RX5 yX2_mark yX5_mark ∈ gw := gwm 1425 (by decide +kernel) rfl
theorem se_X5_X5_size_X5_size : Cond.selects RX5 yX5_size yX5_size ∈ gw := gwm 1426 (by decide +kernel) rfl
theorem se_X9_X5_size_X9_size : Cond.selects RX9 yX5_size yX9_size ∈ gw := gwm 1427 (by decide +kernel) rfl
theorem se_X9_X2_mark_X5_mark : Cond.selects RX9 yX2_mark yX5_mark ∈ gw := gwm 1428 (by decide +kernel) rfl
theorem se_X11_X11_found_X11_found : Cond.selects RX11 yX11_found yX11_found ∈ gw := gwm 0 (by decide +kernel) rfl
theorem se_X11_X11_well_X11_well : Cond.selects RX11 yX11_well yX11_well ∈ gw := gwm 1 (by decide +kernel) rfl
theorem se_X7_X7_readLaw_X7_readLaw : Cond.selects RX7 yX7_readLaw yX7_readLaw ∈ gw := gwm 2 (by decide +kernel) rfl
theorem se_X7_X7_readSign_X7_readSign : Cond.selects RX7 yX7_readSign yX7_readSign ∈ gw := gwm 3 (by decide +kernel) rfl
theorem se_X7_X7_sees_X7_sees : Cond.selects RX7 yX7_sees yX7_sees ∈ gw := gwm 4 (by decide +kernel) rfl
theorem se_X7_X7_signHere_X7_signHere : Cond.selects RX7 yX7_signHere yX7_signHere ∈ gw := gwm 5 (by decide +kernel) rfl
theorem se_X7_X7_fail_X7_fail : Cond.selects RX7 yX7_fail yX7_fail ∈ gw := gwm 6 (by decide +kernel) rfl
theorem se_X7_X7_readNumber_X7_readNumber : Cond.selects RX7 yX7_readNumber yX7_readNumber ∈ gw := gwm 7 (by decide +kernel) rfl
theorem se_X7_X7_figures_X7_figures : Cond.selects RX7 yX7_figures yX7_figures ∈ gw := gwm 8 (by decide +kernel) rfl
theorem se_X7_X7_readRoom_X7_readRoom : Cond.selects RX7 yX7_readRoom yX7_readRoom ∈ gw := gwm 9 (by decide +kernel) rfl
theorem se_X7_X7_sortSeen_X7_sortSeen : Cond.selects RX7 yX7_sortSeen yX7_sortSeen ∈ gw := gwm 10 (by decide +kernel) rfl
theorem se_X7_X7_readDoor_X7_readDoor : Cond.selects RX7 yX7_readDoor yX7_readDoor ∈ gw := gwm 11 (by decide +kernel) rfl
theorem se_X11_X11_forgetActs_X11_forgetActs : Cond.selects RX11 yX11_forgetActs yX11_forgetActs ∈ gw := gwm 12 (by decide +kernel) rfl
theorem se_X11_X11_lackOfRoute_X11_lackOfRoute : Cond.selects RX11 yX11_lackOfRoute yX11_lackOfRoute ∈ gw := gwm 13 (by decide +kernel) rfl
theorem se_X11_X11_keepAct_X11_keepAct : Cond.selects RX11 yX11_keepAct yX11_keepAct ∈ gw := gwm 14 (by decide +kernel) rfl
theorem se_X10_X10_begin_X10_begin : Cond.selects RX10 yX10_begin yX10_begin ∈ gw := gwm 15 (by decide +kernel) rfl
theorem se_X10_X10_pass_X10_pass : Cond.selects RX10 yX10_pass yX10_pass ∈ gw := gwm 16 (by decide +kernel) rfl
theorem se_X10_X10_open_X10_open : Cond.selects RX10 yX10_open yX10_open ∈ gw := gwm 17 (by decide +kernel) rfl
theorem se_X10_X10_take_X10_take : Cond.selects RX10 yX10_take yX10_take ∈ gw := gwm 18 (by decide +kernel) rfl
theorem se_X11_X11_foretell_X11_foretell : Cond.selects RX11 yX11_foretell yX11_foretell ∈ gw := gwm 19 (by decide +kernel) rfl
theorem se_X11_X11_findWay_X11_findWay : Cond.selects RX11 yX11_findWay yX11_findWay ∈ gw := gwm 20 (by decide +kernel) rfl
theorem se_X11_X11_playTurns_X11_playTurns : Cond.selects RX11 yX11_playTurns yX11_playTurns ∈ gw := gwm 21 (by decide +kernel) rfl
theorem se_X11_X11_kindsFor_X11_kindsFor : Cond.selects RX11 yX11_kindsFor yX11_kindsFor ∈ gw := gwm 22 (by decide +kernel) rfl
theorem se_X11_X11_numbersFor_X11_numbersFor : Cond.selects RX11 yX11_numbersFor yX11_numbersFor ∈ gw := gwm 23 (by decide +kernel) rfl
theorem se_X11_X11_keysFor_X11_keysFor : Cond.selects RX11 yX11_keysFor yX11_keysFor ∈ gw := gwm 24 (by decide +kernel) rfl
theorem se_X11_X11_goDrawn_X11_goDrawn : Cond.selects RX11 yX11_goDrawn yX11_goDrawn ∈ gw := gwm 25 (by decide +kernel) rfl
theorem se_X11_X11_rowsThere_X11_rowsThere : Cond.selects RX11 yX11_rowsThere yX11_rowsThere ∈ gw := gwm 26 (by decide +kernel) rfl
theorem se_X12_X12_finding_X12_finding : Cond.selects RX12 yX12_finding yX12_finding ∈ gw := gwm 27 (by decide +kernel) rfl
theorem se_X12_X12_begin_X12_begin : Cond.selects RX12 yX12_begin yX12_begin ∈ gw := gwm 28 (by decide +kernel) rfl
theorem se_X12_X12_nextToken_X12_nextToken : Cond.selects RX12 yX12_nextToken yX12_nextToken ∈ gw := gwm 29 (by decide +kernel) rfl
theorem se_X12_X12_isLetter_X12_isLetter : Cond.selects RX12 yX12_isLetter yX12_isLetter ∈ gw := gwm 30 (by decide +kernel) rfl
theorem se_X12_X12_must_X12_must : Cond.selects RX12 yX12_must yX12_must ∈ gw := gwm 31 (by decide +kernel) rfl
theorem se_X12_X12_bad_X12_bad : Cond.selects RX12 yX12_bad yX12_bad ∈ gw := gwm 32 (by decide +kernel) rfl
theorem se_X12_X12_number_X12_number : Cond.selects RX12 yX12_number yX12_number ∈ gw := gwm 33 (by decide +kernel) rfl
theorem se_X12_X12_mustSign_X12_mustSign : Cond.selects RX12 yX12_mustSign yX12_mustSign ∈ gw := gwm 34 (by decide +kernel) rfl
theorem se_X12_X12_isRoomNext_X12_isRoomNext : Cond.selects RX12 yX12_isRoomNext yX12_isRoomNext ∈ gw := gwm 35 (by decide +kernel) rfl
theorem se_X12_X12_readRoom_X12_readRoom : Cond.selects RX12 yX12_readRoom yX12_readRoom ∈ gw := gwm 36 (by decide +kernel) rfl
theorem se_X12_X12_isSort_X12_isSort : Cond.selects RX12 yX12_isSort yX12_isSort ∈ gw := gwm 37 (by decide +kernel) rfl
theorem se_X12_X12_readDoor_X12_readDoor : Cond.selects RX12 yX12_readDoor yX12_readDoor ∈ gw := gwm 38 (by decide +kernel) rfl
theorem se_X12_X12_otherRoom_X12_otherRoom : Cond.selects RX12 yX12_otherRoom yX12_otherRoom ∈ gw := gwm 39 (by decide +kernel) rfl
theorem se_X12_X12_failed_X12_failed : Cond.selects RX12 yX12_failed yX12_failed ∈ gw := gwm 40 (by decide +kernel) rfl
theorem se_X12_X12_isThere_X12_isThere : Cond.selects RX12 yX12_isThere yX12_isThere ∈ gw := gwm 41 (by decide +kernel) rfl
theorem se_X12_X12_rowFound_X12_rowFound : Cond.selects RX12 yX12_rowFound yX12_rowFound ∈ gw := gwm 42 (by decide +kernel) rfl
theorem se_X12_X12_keep_X12_keep : Cond.selects RX12 yX12_keep yX12_keep ∈ gw := gwm 43 (by decide +kernel) rfl
theorem se_X12_X12_goOut_X12_goOut : Cond.selects RX12 yX12_goOut yX12_goOut ∈ gw := gwm 44 (by decide +kernel) rfl
theorem se_X12_X12_goThrough_X12_goThrough : Cond.selects RX12 yX12_goThrough yX12_goThrough ∈ gw := gwm 45 (by decide +kernel) rfl
theorem se_X12_X12_isOpen_X12_isOpen : Cond.selects RX12 yX12_isOpen yX12_isOpen ∈ gw := gwm 46 (by decide +kernel) rfl
theorem se_X12_X12_open_X12_open : Cond.selects RX12 yX12_open yX12_open ∈ gw := gwm 47 (by decide +kernel) rfl
theorem se_X12_X12_draughtNow_X12_draughtNow : Cond.selects RX12 yX12_draughtNow yX12_draughtNow ∈ gw := gwm 48 (by decide +kernel) rfl
theorem se_X12_X12_writes_X12_writes : Cond.selects RX12 yX12_writes yX12_writes ∈ gw := gwm 49 (by decide +kernel) rfl
theorem se_X12_X12_isDoor_X12_isDoor : Cond.selects RX12 yX12_isDoor yX12_isDoor ∈ gw := gwm 50 (by decide +kernel) rfl
theorem se_X12_X12_isRoom_X12_isRoom : Cond.selects RX12 yX12_isRoom yX12_isRoom ∈ gw := gwm 51 (by decide +kernel) rfl
theorem se_X12_X12_layThen_X12_layThen : Cond.selects RX12 yX12_layThen yX12_layThen ∈ gw := gwm 52 (by decide +kernel) rfl
theorem se_X12_X12_isWell_X12_isWell : Cond.selects RX12 yX12_isWell yX12_isWell ∈ gw := gwm 53 (by decide +kernel) rfl
theorem se_X12_X12_sleepFor_X12_sleepFor : Cond.selects RX12 yX12_sleepFor yX12_sleepFor ∈ gw := gwm 54 (by decide +kernel) rfl
theorem se_X12_X12_keysFor_X12_keysFor : Cond.selects RX12 yX12_keysFor yX12_keysFor ∈ gw := gwm 55 (by decide +kernel) rfl
theorem se_X12_X12_afterTurns_X12_afterTurns : Cond.selects RX12 yX12_afterTurns yX12_afterTurns ∈ gw := gwm 56 (by decide +kernel) rfl
theorem se_X12_X12_doesComeTo_X12_doesComeTo : Cond.selects RX12 yX12_doesComeTo yX12_doesComeTo ∈ gw := gwm 57 (by decide +kernel) rfl
theorem se_X12_X12_sizeOf_X12_sizeOf : Cond.selects RX12 yX12_sizeOf yX12_sizeOf ∈ gw := gwm 58 (by decide +kernel) rfl
theorem se_X12_X12_lockSize_X12_lockSize : Cond.selects RX12 yX12_lockSize yX12_lockSize ∈ gw := gwm 59 (by decide +kernel) rfl
theorem se_X12_X12_began_X12_began : Cond.selects RX12 yX12_began yX12_began ∈ gw := gwm 60 (by decide +kernel) rfl
theorem se_X12_X12_plainSize_X12_plainSize : Cond.selects RX12 yX12_plainSize yX12_plainSize ∈ gw := gwm 61 (by decide +kernel) rfl
theorem se_X12_X12_markOf_X12_markOf : Cond.selects RX12 yX12_markOf yX12_markOf ∈ gw := gwm 62 (by decide +kernel) rfl
theorem ao_X8 : Cond.arrayOver (.object RX8) ∈ lw_tbl := gwl 89 (by decide +kernel)
theorem mn_X11_17 : Cond.methodLinkNest RX11 17 yX7_init RX11 ∈ lw_tbl := gwl 92 (by decide +kernel)
theorem mn_X7_17 : Cond.methodLinkNest RX7 17 yX3_init RX11 ∈ lw_tbl := gwl 98 (by decide +kernel)
theorem ao_X2 : Cond.arrayOver (.object RX2) ∈ lw_tbl := gwl 103 (by decide +kernel)
theorem mn_X11_24 : Cond.methodLinkNest RX11 24 yX10_init RX11 ∈ lw_tbl := gwl 174 (by decide +kernel)
theorem mn_X10_11 : Cond.methodLinkNest RX10 11 yX3_init RX11 ∈ lw_tbl := gwl 179 (by decide +kernel)
theorem ao_X3 : Cond.arrayOver (.object RX3) ∈ lw_tbl := gwl 241 (by decide +kernel)
theorem mn_X11_69 : Cond.methodLinkNest RX11 69 yX8_init RX11 ∈ lw_tbl := gwl 245 (by decide +kernel)
theorem mn_X11_70 : Cond.methodLinkNest RX11 70 yX3_init RX11 ∈ lw_tbl := gwl 262 (by decide +kernel)
theorem de_X2_loud : Cond.declares ⟨"DoorsBehind$Door", "loud", "(I)I"⟩ ∈ lw_tbl := gwl 633 (by decide +kernel)
theorem de_X2_sort : Cond.declares ⟨"DoorsBehind$Door", "sort", "()I"⟩ ∈ lw_tbl := gwl 813 (by decide +kernel)
theorem ca_X0_X2 : Cond.castable RX0 RX2 ∈ lw_tbl := gwl 1429 (by decide +kernel)
theorem ca_X1_X2 : Cond.castable RX1 RX2 ∈ lw_tbl := gwl 1430 (by decide +kernel)
theorem ca_X5_X2 : Cond.castable RX5 RX2 ∈ lw_tbl := gwl 1431 (by decide +kernel)
theorem ca_X9_X2 : Cond.castable RX9 RX2 ∈ lw_tbl := gwl 1432 (by decide +kernel)
theorem ca_X4_X2 : Cond.castable RX4 RX2 ∈ lw_tbl := gwl 1433 (by decide +kernel)
end
section
/-! THE ABSTRACT HEAP: n cells from 'lo' on, each an int or boolean row, a row of references, or an object; references are told from lo on -/
abbrev Vl : Type := Int32 ⊕ Option Nat
abbrev Cl : Type := (Nat × Nat × (Nat → Int32)) ⊕ ((Nat × Nat × (Nat → Option Nat)) ⊕ (Nat × List Vl))
abbrev Hp : Type := Nat × (Nat → Cl)
abbrev DD : Type := (Nat → ClassId) × (Nat → Nat → Nat) × (Nat → ClassId)
def tysL (dA : Nat → ClassId) : List (ClassId × FieldType) := [(dA 0, .int), (dA 1, .boolean), (dA 2, .object RX8), (dA 3, .object RX3), (dA 4, .object RX2)]
def rl (lo : Nat) (r : Option Nat) : Option Nat := r.map (fun a => lo + a)
def vl (lo : Nat) (v : Vl) : Value := match v with
  | .inl x => .int x
  | .inr r => va_rf (rl lo r)
def cv (lo : Nat) (dA : Nat → ClassId) (c : Cl) : va_E := match c with
  | .inl (t, n, f) => .inl (dA t, n, .inl f)
  | .inr (.inl (t, n, f)) => .inl (dA t, n, .inr (.inr (.inr (.inr (fun k => rl lo (f k))))))
  | .inr (.inr (c, fs)) => .inr (c, fs.map (vl lo))
def bwN : List Cond := [.methodLinkNest RX11 17 yX7_init RX11, .methodLinkNest RX7 17 yX3_init RX11, .methodLinkNest RX11 24 yX10_init RX11, .methodLinkNest RX10 11 yX3_init RX11, .methodLinkNest RX11 69 yX8_init RX11, .methodLinkNest RX11 70 yX3_init RX11, .castable RX0 RX2, .castable RX1 RX2, .castable RX5 RX2, .castable RX9 RX2, .castable RX4 RX2, .declares ⟨RX2, "loud", "(I)I"⟩, .declares ⟨RX2, "sort", "()I"⟩]
def KK (d : DD) (U : State) : Prop := va_K (d.1, d.2.1) vwCl (tysL d.2.2) U ∧ (∀ w ∈ bwN, va_Nw w U) ∧ va_AO RX8 U ∧ va_AO RX3 U ∧ va_AO RX2 U
theorem KK.warm {d : DD} {s U : State} (hW : s.WarmedH U.vm) (h : KK d s) : KK d U := by
  refine ⟨va_K.moved hW.alike h.1, fun w hw => ?_, va_AO.moved hW.alike h.2.2.1, va_AO.moved hW.alike h.2.2.2.1, va_AO.moved hW.alike h.2.2.2.2⟩
  have hz := h.2.1 w hw
  simp only [bwN, List.mem_cons, List.not_mem_nil, or_false] at hw
  rcases hw with rfl | rfl | rfl | rfl | rfl | rfl | rfl | rfl | rfl | rfl | rfl | rfl | rfl <;> first | exact va_Nw.warmM hW hz | exact va_Nw.warmC hW hz | exact va_Nw.warmD hW hz
theorem bwN_tab : ∀ w ∈ bwN, w.onTables = true := by decide +kernel
theorem KK.same {d : DD} {s U : State} (e : s.vm = U.vm) (h : KK d s) : KK d U := by
  have ha : s.vm.Alike U.vm := by rw [e]; exact Vm.Alike.refl U.vm
  exact ⟨va_K.moved ha h.1, fun w hw => va_Nw.same (bwN_tab w hw) e (h.2.1 w hw), va_AO.moved ha h.2.2.1, va_AO.moved ha h.2.2.2.1, va_AO.moved ha h.2.2.2.2⟩
def HP (d : DD) (lo : Nat) (h : Hp) (H : Heap) : Prop := H.size = lo + h.1 ∧ ∀ a, a < h.1 → va_at (d.1, d.2.1) vwCl (lo + a, cv lo d.2.2 (h.2 a)) H
def hup (h : Hp) (a : Nat) (c : Cl) : Hp := (h.1, va_up h.2 a c)
def hnew (h : Hp) (c : Cl) : Hp := (h.1 + 1, va_up h.2 h.1 c)
theorem HP.at {d : DD} {lo : Nat} {h : Hp} {H : Heap} (hH : HP d lo h H) {a : Nat} (ha : a < h.1) {c : Cl} (hc : h.2 a = c) : va_at (d.1, d.2.1) vwCl (lo + a, cv lo d.2.2 c) H := hc ▸ hH.2 a ha
theorem HP.up {d : DD} {lo : Nat} {h : Hp} {H H1 : Heap} (hH : HP d lo h H) {a : Nat} {c : Cl} (hz : H1.size = H.size) (oq : ∀ q : Nat, q ≠ lo + a → H1[q]? = H[q]?) (hc : va_at (d.1, d.2.1) vwCl (lo + a, cv lo d.2.2 c) H1) : HP d lo (hup h a c) H1 := by
  refine ⟨hz.trans hH.1, fun b hb => ?_⟩
  by_cases e : b = a
  · subst e
    show va_at _ _ (lo + b, cv lo d.2.2 (va_up h.2 b c b)) H1
    rw [va_up_self]
    exact hc
  · show va_at _ _ (lo + b, cv lo d.2.2 (va_up h.2 a c b)) H1
    rw [va_up_ne _ _ e]
    exact (hH.2 b hb).kept (oq _ (fun q => e (Nat.add_left_cancel q)))
theorem HP.push {d : DD} {lo : Nat} {h : Hp} {H H1 : Heap} (hH : HP d lo h H) {c : Cl} (hz : H1.size = H.size + 1) (oq : ∀ q : Nat, q < H.size → H1[q]? = H[q]?) (hc : va_at (d.1, d.2.1) vwCl (H.size, cv lo d.2.2 c) H1) : HP d lo (hnew h c) H1 := by
  refine ⟨by rw [hz, hH.1]; exact Nat.add_assoc _ _ _, fun b hb => ?_⟩
  have hb : b < h.1 + 1 := hb
  by_cases e : b = h.1
  · subst e
    show va_at _ _ (lo + h.1, cv lo d.2.2 (va_up h.2 h.1 c h.1)) H1
    rw [va_up_self, ← hH.1]
    exact hc
  · show va_at _ _ (lo + b, cv lo d.2.2 (va_up h.2 h.1 c b)) H1
    rw [va_up_ne _ _ e]
    exact (hH.2 b (by omega)).kept (oq _ (by rw [hH.1]; omega))
/-! WHAT IS READ AND WRITTEN: functions that answer none where the machine would throw -/
def gO (h : Hp) (a : Nat) : Option (Nat × List Vl) := if a < h.1 then (match h.2 a with | .inr (.inr o) => some o | _ => none) else none
def gI (h : Hp) (a ci k : Nat) : Option Int32 := match gO h a with
  | some (c, fs) => if c = ci then (match fs[k]? with | some (.inl x) => some x | _ => none) else none
  | none => none
def gN (h : Hp) (a ci k : Nat) : Option Nat := match gO h a with
  | some (c, fs) => if c = ci then (match fs[k]? with | some (.inr (some x)) => some x | _ => none) else none
  | none => none
def isD (c : Nat) : Bool := c == 0 || c == 1 || c == 3 || c == 4 || c == 8
/-- the kind of a door's object -/
def gC (h : Hp) (a : Nat) : Option Nat := match gO h a with
  | some (c, _) => if isD c = true then some c else none
  | none => none
def gD (h : Hp) (a k : Nat) : Option Int32 := match gO h a with
  | some (c, fs) => if isD c = true then (match fs[k]? with | some (.inl x) => some x | _ => none) else none
  | none => none
def isC (h : Hp) (a ci : Nat) : Option Unit := match gO h a with
  | some (c, _) => if c = ci then some () else none
  | none => none
def pV (h : Hp) (a ci k : Nat) (v : Vl) : Option Hp := match gO h a with
  | some (c, fs) => if c = ci ∧ k < fs.length then some (hup h a (.inr (.inr (c, fs.set k v)))) else none
  | none => none
def pD (h : Hp) (a k : Nat) (v : Vl) : Option Hp := match gO h a with
  | some (c, fs) => if isD c = true ∧ k < fs.length then some (hup h a (.inr (.inr (c, fs.set k v)))) else none
  | none => none
def gA (h : Hp) (a t : Nat) : Option (Nat × (Nat → Int32)) := if a < h.1 then (match h.2 a with | .inl (t', n, f) => if t' = t then some (n, f) else none | _ => none) else none
def gQ (h : Hp) (a t : Nat) : Option (Nat × (Nat → Option Nat)) := if a < h.1 then (match h.2 a with | .inr (.inl (t', n, f)) => if t' = t then some (n, f) else none | _ => none) else none
def ald (h : Hp) (a t : Nat) (i : Int32) : Option Int32 := match gA h a t with
  | some (n, f) => if i < 0 ∨ n ≤ i.toNatClampNeg then none else some (f i.toNatClampNeg)
  | none => none
def ast (h : Hp) (a t : Nat) (i x : Int32) : Option Hp := match gA h a t with
  | some (n, f) => if i < 0 ∨ n ≤ i.toNatClampNeg then none else some (hup h a (.inl (t, n, upd f i.toNatClampNeg x)))
  | none => none
def aln (h : Hp) (a t : Nat) : Option Int32 := match gA h a t with
  | some (n, _) => some (Int32.ofNat n)
  | none => none
def qln (h : Hp) (a t : Nat) : Option Int32 := match gQ h a t with
  | some (n, _) => some (Int32.ofNat n)
  | none => none
def aldq (h : Hp) (a t : Nat) (i : Int32) : Option (Option Nat) := match gQ h a t with
  | some (n, f) => if i < 0 ∨ n ≤ i.toNatClampNeg then none else some (f i.toNatClampNeg)
  | none => none
def aldn (h : Hp) (a t : Nat) (i : Int32) : Option Nat := match aldq h a t i with
  | some r => r
  | none => none
/-- what may stand in a row of references of a kind -/
def okq (h : Hp) (t : Nat) (r : Option Nat) : Bool := match r with
  | none => t == 4
  | some v => match gO h v with
    | some (c, _) => (t == 2 && c == 7) || (t == 3 && c == 2) || (t == 4 && isD c)
    | none => false
def astq (h : Hp) (a t : Nat) (i : Int32) (r : Option Nat) : Option Hp := match gQ h a t with
  | some (n, f) => if (i < 0 ∨ n ≤ i.toNatClampNeg) ∨ ¬ okq h t r = true then none else some (hup h a (.inr (.inl (t, n, va_up f i.toNatClampNeg r))))
  | none => none
def acpy (h : Hp) (a0 : Nat) (sp : Int32) (a1 : Nat) (dp n : Int32) : Option Hp := match gA h a0 0, gA h a1 0 with
  | some (n0, f), some (n1, g) => if sp < 0 ∨ dp < 0 ∨ n < 0 ∨ n0 < sp.toNatClampNeg + n.toNatClampNeg ∨ n1 < dp.toNatClampNeg + n.toNatClampNeg then none else some (hup h a1 (.inl (0, n1, va_cpy f g sp.toNatClampNeg dp.toNatClampNeg n.toNatClampNeg)))
  | _, _ => none
theorem gO_some {h : Hp} {a : Nat} {o : Nat × List Vl} (e : gO h a = some o) : a < h.1 ∧ h.2 a = .inr (.inr o) := by
  unfold gO at e
  by_cases ha : a < h.1
  · rw [if_pos ha] at e
    refine ⟨ha, ?_⟩
    split at e
    · next x hx => rw [hx]; cases e; rfl
    · cases e
  · rw [if_neg ha] at e; cases e
theorem gA_some {h : Hp} {a t : Nat} {o : Nat × (Nat → Int32)} (e : gA h a t = some o) : a < h.1 ∧ h.2 a = .inl (t, o) := by
  unfold gA at e
  by_cases ha : a < h.1
  · rw [if_pos ha] at e
    refine ⟨ha, ?_⟩
    split at e
    · next t' n f hx =>
      split at e
      · next q => rw [hx, q]; cases e; rfl
      · cases e
    · cases e
  · rw [if_neg ha] at e; cases e
theorem gQ_some {h : Hp} {a t : Nat} {o : Nat × (Nat → Option Nat)} (e : gQ h a t = some o) : a < h.1 ∧ h.2 a = .inr (.inl (t, o)) := by
  unfold gQ at e
  by_cases ha : a < h.1
  · rw [if_pos ha] at e
    refine ⟨ha, ?_⟩
    split at e
    · next t' n f hx =>
      split at e
      · next q => rw [hx, q]; cases e; rfl
      · cases e
    · cases e
  · rw [if_neg ha] at e; cases e
theorem gI_some {h : Hp} {a ci k : Nat} {x : Int32} (e : gI h a ci k = some x) : ∃ fs, gO h a = some (ci, fs) ∧ fs[k]? = some (.inl x) := by
  unfold gI at e
  split at e
  · next c fs ho =>
    split at e
    · next q =>
      subst q
      refine ⟨fs, ho, ?_⟩
      split at e
      · next y hy => cases e; exact hy
      · cases e
    · cases e
  · cases e
theorem gN_some {h : Hp} {a ci k : Nat} {x : Nat} (e : gN h a ci k = some x) : ∃ fs, gO h a = some (ci, fs) ∧ fs[k]? = some (.inr (some x)) := by
  unfold gN at e
  split at e
  · next c fs ho =>
    split at e
    · next q =>
      subst q
      refine ⟨fs, ho, ?_⟩
      split at e
      · next y hy => cases e; exact hy
      · cases e
    · cases e
  · cases e
theorem gD_some {h : Hp} {a k : Nat} {x : Int32} (e : gD h a k = some x) : ∃ c fs, gO h a = some (c, fs) ∧ isD c = true ∧ fs[k]? = some (.inl x) := by
  unfold gD at e
  split at e
  · next c fs ho =>
    split at e
    · next q =>
      refine ⟨c, fs, ho, q, ?_⟩
      split at e
      · next y hy => cases e; exact hy
      · cases e
    · cases e
  · cases e
theorem gC_some {h : Hp} {a c : Nat} (e : gC h a = some c) : ∃ fs, gO h a = some (c, fs) ∧ isD c = true := by
  unfold gC at e
  split at e
  · next c fs ho =>
    split at e
    · next q => cases e; exact ⟨fs, ho, q⟩
    · cases e
  · cases e
theorem isC_some {h : Hp} {a ci : Nat} {u : Unit} (e : isC h a ci = some u) : ∃ fs, gO h a = some (ci, fs) := by
  unfold isC at e
  split at e
  · next c fs ho =>
    split at e
    · next q => subst q; exact ⟨fs, ho⟩
    · cases e
  · cases e
theorem pV_some {h h' : Hp} {a ci k : Nat} {v : Vl} (e : pV h a ci k v = some h') : ∃ fs, gO h a = some (ci, fs) ∧ k < fs.length ∧ h' = hup h a (.inr (.inr (ci, fs.set k v))) := by
  unfold pV at e
  split at e
  · next c fs ho =>
    split at e
    · next q => obtain ⟨q1, q2⟩ := q; subst q1; cases e; exact ⟨fs, ho, q2, rfl⟩
    · cases e
  · cases e
theorem pD_some {h h' : Hp} {a k : Nat} {v : Vl} (e : pD h a k v = some h') : ∃ c fs, gO h a = some (c, fs) ∧ isD c = true ∧ k < fs.length ∧ h' = hup h a (.inr (.inr (c, fs.set k v))) := by
  unfold pD at e
  split at e
  · next c fs ho =>
    split at e
    · next q => cases e; exact ⟨c, fs, ho, q.1, q.2, rfl⟩
    · cases e
  · cases e
theorem ald_some {h : Hp} {a t : Nat} {i x : Int32} (e : ald h a t i = some x) : ∃ n f, gA h a t = some (n, f) ∧ ¬ (i < 0 ∨ n ≤ i.toNatClampNeg) ∧ x = f i.toNatClampNeg := by
  unfold ald at e
  split at e
  · next n f ho =>
    split at e
    · cases e
    · next q => cases e; exact ⟨n, f, ho, q, rfl⟩
  · cases e
theorem ast_some {h h' : Hp} {a t : Nat} {i x : Int32} (e : ast h a t i x = some h') : ∃ n f, gA h a t = some (n, f) ∧ ¬ (i < 0 ∨ n ≤ i.toNatClampNeg) ∧ h' = hup h a (.inl (t, n, upd f i.toNatClampNeg x)) := by
  unfold ast at e
  split at e
  · next n f ho =>
    split at e
    · cases e
    · next q => cases e; exact ⟨n, f, ho, q, rfl⟩
  · cases e
theorem aln_some {h : Hp} {a t : Nat} {x : Int32} (e : aln h a t = some x) : ∃ n f, gA h a t = some (n, f) ∧ Int32.ofNat n = x := by
  unfold aln at e
  split at e
  · next n f ho => cases e; exact ⟨n, f, ho, rfl⟩
  · cases e
theorem qln_some {h : Hp} {a t : Nat} {x : Int32} (e : qln h a t = some x) : ∃ n f, gQ h a t = some (n, f) ∧ Int32.ofNat n = x := by
  unfold qln at e
  split at e
  · next n f ho => cases e; exact ⟨n, f, ho, rfl⟩
  · cases e
theorem aldq_some {h : Hp} {a t : Nat} {i : Int32} {x : Option Nat} (e : aldq h a t i = some x) : ∃ n f, gQ h a t = some (n, f) ∧ ¬ (i < 0 ∨ n ≤ i.toNatClampNeg) ∧ x = f i.toNatClampNeg := by
  unfold aldq at e
  split at e
  · next n f ho =>
    split at e
    · cases e
    · next q => cases e; exact ⟨n, f, ho, q, rfl⟩
  · cases e
theorem aldn_some {h : Hp} {a t : Nat} {i : Int32} {x : Nat} (e : aldn h a t i = some x) : aldq h a t i = some (some x) := by
  unfold aldn at e
  split at e
  · next r hr => rw [hr, e]
  · cases e
theorem astq_some {h h' : Hp} {a t : Nat} {i : Int32} {r : Option Nat} (e : astq h a t i r = some h') : ∃ n f, gQ h a t = some (n, f) ∧ ¬ (i < 0 ∨ n ≤ i.toNatClampNeg) ∧ okq h t r = true ∧ h' = hup h a (.inr (.inl (t, n, va_up f i.toNatClampNeg r))) := by
  unfold astq at e
  split at e
  · next n f ho =>
    split at e
    · cases e
    · next q => cases e; exact ⟨n, f, ho, fun z => q (Or.inl z), Classical.byContradiction fun z => q (Or.inr z), rfl⟩
  · cases e
end
section
/-! THE BUNDLE: the machine, the method, the goal; AW: from here on, with these locals, this stack and this heap, the goal is reached -/
abbrev Gm : Type := Program × Launch × Env × Room × State × MethodId × Array Value × List Frame × Method × Code × (State → Prop) × DD × Nat
def AW (G : Gm) (lo ce sl pc : Nat) (lv : List (Nat × Value)) (st : List Value) (h : Hp) : Prop := match G with
  | (p, l, e, R, s, m, args, below, meth, c, Q, d, nL) => ∀ (ls : Array Slot) (H : Heap) (locs : List Loc), lv_has ls nL lv → HP d lo h H → va_S (fun q => lo ≤ q) s.heap H locs → W p l e R s m args below meth c H locs ce sl Q (F0 m pc ls st)
def CX (G : Gm) (lo : Nat) (cc : ByteArray) (own : String) (ret : Option FieldType) (rm : Room) (nL0 : Nat) : Prop := match G with
  | (p, l, e, R, s, m, args, below, meth, c, Q, d, nL) => p.tables.exec = Jvm.exec ∧ c.code = cc ∧ meth.sig.returnType = ret ∧ c.maxLocals = nL ∧ s.vm.findClass own = some m.cls ∧ (∀ w ∈ gw, w.before args s = true) ∧ meth.locks = false ∧ KK d s ∧ lo ≤ s.heap.size ∧ R = rm ∧ nL = nL0
def LD (G : Gm) : Launch × DD := match G with
  | (p, l, e, R, s, m, args, below, meth, c, Q, d, nL) => (l, d)
section Rows
variable {G : Gm} {lo ce sl pc : Nat} {lv : List (Nat × Value)} {st : List Value} {h : Hp} {cc : ByteArray} {own : String} {ret : Option FieldType} {rm : Room} {nL0 : Nat}
theorem a_iconst (C : CX G lo cc own ret rm nL0) {n : Int} {v : Int32} (d : decode cc pc = .ok (.iconst n, 1)) (hv : Int32.ofInt n = v) (k : AW G lo ce sl (pc + 1) lv (.int v :: st) h) : AW G lo ce sl pc lv (st) h := by
  obtain ⟨p, l, e, R, s, m, args, below, meth, c, Q, dd, nL⟩ := G
  obtain ⟨hx, hb, hr, hml, hown, hts, hlk, hK, hlo, rfl, rfl⟩ := C
  exact fun ls H locs hl hH hS => lv_iconst hx hb d hv (k ls H locs hl hH hS)
theorem a_bipush (C : CX G lo cc own ret rm nL0) {n : Int} {v : Int32} (d : decode cc pc = .ok (.bipush n, 2)) (hv : (Int8.ofInt n).toInt32 = v) (k : AW G lo ce sl (pc + 2) lv (.int v :: st) h) : AW G lo ce sl pc lv (st) h := by
  obtain ⟨p, l, e, R, s, m, args, below, meth, c, Q, dd, nL⟩ := G
  obtain ⟨hx, hb, hr, hml, hown, hts, hlk, hK, hlo, rfl, rfl⟩ := C
  exact fun ls H locs hl hH hS => lv_bipush hx hb d hv (k ls H locs hl hH hS)
theorem a_sipush (C : CX G lo cc own ret rm nL0) {n : Int} {v : Int32} (d : decode cc pc = .ok (.sipush n, 3)) (hv : (Int16.ofInt n).toInt32 = v) (k : AW G lo ce sl (pc + 3) lv (.int v :: st) h) : AW G lo ce sl pc lv (st) h := by
  obtain ⟨p, l, e, R, s, m, args, below, meth, c, Q, dd, nL⟩ := G
  obtain ⟨hx, hb, hr, hml, hown, hts, hlk, hK, hlo, rfl, rfl⟩ := C
  exact fun ls H locs hl hH hS => lv_sipush hx hb d hv (k ls H locs hl hH hS)
theorem a_lconst (C : CX G lo cc own ret rm nL0) {n : Fin 2} {v : Int64} (d : decode cc pc = .ok (.lconst n, 1)) (hv : Int64.ofNat (n : Nat) = v) (k : AW G lo ce sl (pc + 1) lv (.long v :: st) h) : AW G lo ce sl pc lv (st) h := by
  obtain ⟨p, l, e, R, s, m, args, below, meth, c, Q, dd, nL⟩ := G
  obtain ⟨hx, hb, hr, hml, hown, hts, hlk, hK, hlo, rfl, rfl⟩ := C
  exact fun ls H locs hl hH hS => lv_lconst hx hb d hv (k ls H locs hl hH hS)
theorem a_ldc (C : CX G lo cc own ret rm nL0) {i : Nat} {v : Int32} (w : Cond.constant own i v ∈ gw) (d : decode cc pc = .ok (.ldc i, 2)) (k : AW G lo ce sl (pc + 2) lv (.int v :: st) h) : AW G lo ce sl pc lv (st) h := by
  obtain ⟨p, l, e, R, s, m, args, below, meth, c, Q, dd, nL⟩ := G
  obtain ⟨hx, hb, hr, hml, hown, hts, hlk, hK, hlo, rfl, rfl⟩ := C
  exact fun ls H locs hl hH hS => lv_ldc hx hb hown (hts _ w) d (k ls H locs hl hH hS)
theorem a_ldc_w (C : CX G lo cc own ret rm nL0) {i : Nat} {v : Int32} (w : Cond.constant own i v ∈ gw) (d : decode cc pc = .ok (.ldc_w i, 3)) (k : AW G lo ce sl (pc + 3) lv (.int v :: st) h) : AW G lo ce sl pc lv (st) h := by
  obtain ⟨p, l, e, R, s, m, args, below, meth, c, Q, dd, nL⟩ := G
  obtain ⟨hx, hb, hr, hml, hown, hts, hlk, hK, hlo, rfl, rfl⟩ := C
  exact fun ls H locs hl hH hS => lv_ldcw hx hb hown (hts _ w) d (k ls H locs hl hH hS)
theorem a_ldc2 (C : CX G lo cc own ret rm nL0) {i : Nat} {v : Int64} (w : Cond.constantLong own i v ∈ gw) (d : decode cc pc = .ok (.ldc2_w i, 3)) (k : AW G lo ce sl (pc + 3) lv (.long v :: st) h) : AW G lo ce sl pc lv (st) h := by
  obtain ⟨p, l, e, R, s, m, args, below, meth, c, Q, dd, nL⟩ := G
  obtain ⟨hx, hb, hr, hml, hown, hts, hlk, hK, hlo, rfl, rfl⟩ := C
  exact fun ls H locs hl hH hS => lv_ldc2 hx hb hown (hts _ w) d (k ls H locs hl hH hS)
theorem a_null (C : CX G lo cc own ret rm nL0) (d : decode cc pc = .ok (.aconst_null, 1)) (k : AW G lo ce sl (pc + 1) lv (.null :: st) h) : AW G lo ce sl pc lv (st) h := by
  obtain ⟨p, l, e, R, s, m, args, below, meth, c, Q, dd, nL⟩ := G
  obtain ⟨hx, hb, hr, hml, hown, hts, hlk, hK, hlo, rfl, rfl⟩ := C
  exact fun ls H locs hl hH hS => lv_null hx hb d (k ls H locs hl hH hS)
theorem a_iload_n (C : CX G lo cc own ret rm nL0) {k0 : Fin 4} {i : Nat} {x : Int32} (d : decode cc pc = .ok (.iload_n k0, 1)) (hi : (k0 : Nat) = i) (j : Nat) (hj : lv[j]? = some (i, .int x)) (k : AW G lo ce sl (pc + 1) lv (.int x :: st) h) : AW G lo ce sl pc lv (st) h := by
  obtain ⟨p, l, e, R, s, m, args, below, meth, c, Q, dd, nL⟩ := G
  obtain ⟨hx, hb, hr, hml, hown, hts, hlk, hK, hlo, rfl, rfl⟩ := C
  exact fun ls H locs hl hH hS => lv_iload_n hx hb d hi (lv_at hl j hj) (k ls H locs hl hH hS)
theorem a_iload (C : CX G lo cc own ret rm nL0) {i : Nat} {x : Int32} (d : decode cc pc = .ok (.iload i, 2)) (j : Nat) (hj : lv[j]? = some (i, .int x)) (k : AW G lo ce sl (pc + 2) lv (.int x :: st) h) : AW G lo ce sl pc lv (st) h := by
  obtain ⟨p, l, e, R, s, m, args, below, meth, c, Q, dd, nL⟩ := G
  obtain ⟨hx, hb, hr, hml, hown, hts, hlk, hK, hlo, rfl, rfl⟩ := C
  exact fun ls H locs hl hH hS => lv_iload hx hb d (lv_at hl j hj) (k ls H locs hl hH hS)
theorem a_lload_n (C : CX G lo cc own ret rm nL0) {k0 : Fin 4} {i : Nat} {x : Int64} (d : decode cc pc = .ok (.lload_n k0, 1)) (hi : (k0 : Nat) = i) (j : Nat) (hj : lv[j]? = some (i, .long x)) (k : AW G lo ce sl (pc + 1) lv (.long x :: st) h) : AW G lo ce sl pc lv (st) h := by
  obtain ⟨p, l, e, R, s, m, args, below, meth, c, Q, dd, nL⟩ := G
  obtain ⟨hx, hb, hr, hml, hown, hts, hlk, hK, hlo, rfl, rfl⟩ := C
  exact fun ls H locs hl hH hS => lv_lload_n hx hb d hi (lv_at hl j hj) (k ls H locs hl hH hS)
theorem a_lload (C : CX G lo cc own ret rm nL0) {i : Nat} {x : Int64} (d : decode cc pc = .ok (.lload i, 2)) (j : Nat) (hj : lv[j]? = some (i, .long x)) (k : AW G lo ce sl (pc + 2) lv (.long x :: st) h) : AW G lo ce sl pc lv (st) h := by
  obtain ⟨p, l, e, R, s, m, args, below, meth, c, Q, dd, nL⟩ := G
  obtain ⟨hx, hb, hr, hml, hown, hts, hlk, hK, hlo, rfl, rfl⟩ := C
  exact fun ls H locs hl hH hS => lv_lload hx hb d (lv_at hl j hj) (k ls H locs hl hH hS)
theorem a_aload_n (C : CX G lo cc own ret rm nL0) {k0 : Fin 4} {i : Nat} {x : Nat} (d : decode cc pc = .ok (.aload_n k0, 1)) (hi : (k0 : Nat) = i) (j : Nat) (hj : lv[j]? = some (i, .ref x)) (k : AW G lo ce sl (pc + 1) lv (.ref x :: st) h) : AW G lo ce sl pc lv (st) h := by
  obtain ⟨p, l, e, R, s, m, args, below, meth, c, Q, dd, nL⟩ := G
  obtain ⟨hx, hb, hr, hml, hown, hts, hlk, hK, hlo, rfl, rfl⟩ := C
  exact fun ls H locs hl hH hS => lv_aload_n hx hb d hi (lv_at hl j hj) (k ls H locs hl hH hS)
theorem a_aload (C : CX G lo cc own ret rm nL0) {i : Nat} {x : Nat} (d : decode cc pc = .ok (.aload i, 2)) (j : Nat) (hj : lv[j]? = some (i, .ref x)) (k : AW G lo ce sl (pc + 2) lv (.ref x :: st) h) : AW G lo ce sl pc lv (st) h := by
  obtain ⟨p, l, e, R, s, m, args, below, meth, c, Q, dd, nL⟩ := G
  obtain ⟨hx, hb, hr, hml, hown, hts, hlk, hK, hlo, rfl, rfl⟩ := C
  exact fun ls H locs hl hH hS => lv_aload hx hb d (lv_at hl j hj) (k ls H locs hl hH hS)
theorem a_aload_nN (C : CX G lo cc own ret rm nL0) {k0 : Fin 4} {i : Nat} (d : decode cc pc = .ok (.aload_n k0, 1)) (hi : (k0 : Nat) = i) (j : Nat) (hj : lv[j]? = some (i, .null)) (k : AW G lo ce sl (pc + 1) lv (.null :: st) h) : AW G lo ce sl pc lv (st) h := by
  obtain ⟨p, l, e, R, s, m, args, below, meth, c, Q, dd, nL⟩ := G
  obtain ⟨hx, hb, hr, hml, hown, hts, hlk, hK, hlo, rfl, rfl⟩ := C
  exact fun ls H locs hl hH hS => lv_aload_nN hx hb d hi (lv_at hl j hj) (k ls H locs hl hH hS)
theorem a_aloadN (C : CX G lo cc own ret rm nL0) {i : Nat} (d : decode cc pc = .ok (.aload i, 2)) (j : Nat) (hj : lv[j]? = some (i, .null)) (k : AW G lo ce sl (pc + 2) lv (.null :: st) h) : AW G lo ce sl pc lv (st) h := by
  obtain ⟨p, l, e, R, s, m, args, below, meth, c, Q, dd, nL⟩ := G
  obtain ⟨hx, hb, hr, hml, hown, hts, hlk, hK, hlo, rfl, rfl⟩ := C
  exact fun ls H locs hl hH hS => lv_aloadN hx hb d (lv_at hl j hj) (k ls H locs hl hH hS)
theorem a_istore_n (C : CX G lo cc own ret rm nL0) {k0 : Fin 4} {i : Nat} {x : Int32} {lv2 : List (Nat × Value)} (d : decode cc pc = .ok (.istore_n k0, 1)) (hi : (k0 : Nat) = i) (hn : i < nL0) (hq : (i, Value.int x) :: lv.filter (fun q => !(q.1 == i) && !(q.1 + 1 == i && q.2.category == 2)) = lv2) (k : AW G lo ce sl (pc + 1) lv2 (st) h) : AW G lo ce sl pc lv (.int x :: st) h := by
  obtain ⟨p, l, e, R, s, m, args, below, meth, c, Q, dd, nL⟩ := G
  obtain ⟨hx, hb, hr, hml, hown, hts, hlk, hK, hlo, rfl, rfl⟩ := C
  exact fun ls H locs hl hH hS => lv_istore_n hx hb d hi hl hn hq (fun ls hl => k ls H locs hl hH hS)
theorem a_istore (C : CX G lo cc own ret rm nL0) {i : Nat} {x : Int32} {lv2 : List (Nat × Value)} (d : decode cc pc = .ok (.istore i, 2)) (hn : i < nL0) (hq : (i, Value.int x) :: lv.filter (fun q => !(q.1 == i) && !(q.1 + 1 == i && q.2.category == 2)) = lv2) (k : AW G lo ce sl (pc + 2) lv2 (st) h) : AW G lo ce sl pc lv (.int x :: st) h := by
  obtain ⟨p, l, e, R, s, m, args, below, meth, c, Q, dd, nL⟩ := G
  obtain ⟨hx, hb, hr, hml, hown, hts, hlk, hK, hlo, rfl, rfl⟩ := C
  exact fun ls H locs hl hH hS => lv_istore hx hb d hl hn hq (fun ls hl => k ls H locs hl hH hS)
theorem a_lstore_n (C : CX G lo cc own ret rm nL0) {k0 : Fin 4} {i : Nat} {x : Int64} {lv2 : List (Nat × Value)} (d : decode cc pc = .ok (.lstore_n k0, 1)) (hi : (k0 : Nat) = i) (hn : i + 1 < nL0) (hq : (i, Value.long x) :: lv.filter (fun q => !(q.1 == i) && (!(q.1 == i + 1) && !(q.1 + 1 == i && q.2.category == 2))) = lv2) (k : AW G lo ce sl (pc + 1) lv2 (st) h) : AW G lo ce sl pc lv (.long x :: st) h := by
  obtain ⟨p, l, e, R, s, m, args, below, meth, c, Q, dd, nL⟩ := G
  obtain ⟨hx, hb, hr, hml, hown, hts, hlk, hK, hlo, rfl, rfl⟩ := C
  exact fun ls H locs hl hH hS => lv_lstore_n hx hb d hi hl hn hq (fun ls hl => k ls H locs hl hH hS)
theorem a_lstore (C : CX G lo cc own ret rm nL0) {i : Nat} {x : Int64} {lv2 : List (Nat × Value)} (d : decode cc pc = .ok (.lstore i, 2)) (hn : i + 1 < nL0) (hq : (i, Value.long x) :: lv.filter (fun q => !(q.1 == i) && (!(q.1 == i + 1) && !(q.1 + 1 == i && q.2.category == 2))) = lv2) (k : AW G lo ce sl (pc + 2) lv2 (st) h) : AW G lo ce sl pc lv (.long x :: st) h := by
  obtain ⟨p, l, e, R, s, m, args, below, meth, c, Q, dd, nL⟩ := G
  obtain ⟨hx, hb, hr, hml, hown, hts, hlk, hK, hlo, rfl, rfl⟩ := C
  exact fun ls H locs hl hH hS => lv_lstore hx hb d hl hn hq (fun ls hl => k ls H locs hl hH hS)
theorem a_astore_n (C : CX G lo cc own ret rm nL0) {k0 : Fin 4} {i : Nat} {x : Nat} {lv2 : List (Nat × Value)} (d : decode cc pc = .ok (.astore_n k0, 1)) (hi : (k0 : Nat) = i) (hn : i < nL0) (hq : (i, Value.ref x) :: lv.filter (fun q => !(q.1 == i) && !(q.1 + 1 == i && q.2.category == 2)) = lv2) (k : AW G lo ce sl (pc + 1) lv2 (st) h) : AW G lo ce sl pc lv (.ref x :: st) h := by
  obtain ⟨p, l, e, R, s, m, args, below, meth, c, Q, dd, nL⟩ := G
  obtain ⟨hx, hb, hr, hml, hown, hts, hlk, hK, hlo, rfl, rfl⟩ := C
  exact fun ls H locs hl hH hS => lv_astore_n hx hb d hi hl hn hq (fun ls hl => k ls H locs hl hH hS)
theorem a_astore (C : CX G lo cc own ret rm nL0) {i : Nat} {x : Nat} {lv2 : List (Nat × Value)} (d : decode cc pc = .ok (.astore i, 2)) (hn : i < nL0) (hq : (i, Value.ref x) :: lv.filter (fun q => !(q.1 == i) && !(q.1 + 1 == i && q.2.category == 2)) = lv2) (k : AW G lo ce sl (pc + 2) lv2 (st) h) : AW G lo ce sl pc lv (.ref x :: st) h := by
  obtain ⟨p, l, e, R, s, m, args, below, meth, c, Q, dd, nL⟩ := G
  obtain ⟨hx, hb, hr, hml, hown, hts, hlk, hK, hlo, rfl, rfl⟩ := C
  exact fun ls H locs hl hH hS => lv_astore hx hb d hl hn hq (fun ls hl => k ls H locs hl hH hS)
theorem a_astore_nN (C : CX G lo cc own ret rm nL0) {k0 : Fin 4} {i : Nat} {lv2 : List (Nat × Value)} (d : decode cc pc = .ok (.astore_n k0, 1)) (hi : (k0 : Nat) = i) (hn : i < nL0) (hq : (i, Value.null) :: lv.filter (fun q => !(q.1 == i) && !(q.1 + 1 == i && q.2.category == 2)) = lv2) (k : AW G lo ce sl (pc + 1) lv2 (st) h) : AW G lo ce sl pc lv (.null :: st) h := by
  obtain ⟨p, l, e, R, s, m, args, below, meth, c, Q, dd, nL⟩ := G
  obtain ⟨hx, hb, hr, hml, hown, hts, hlk, hK, hlo, rfl, rfl⟩ := C
  exact fun ls H locs hl hH hS => lv_astore_nN hx hb d hi hl hn hq (fun ls hl => k ls H locs hl hH hS)
theorem a_astoreN (C : CX G lo cc own ret rm nL0) {i : Nat} {lv2 : List (Nat × Value)} (d : decode cc pc = .ok (.astore i, 2)) (hn : i < nL0) (hq : (i, Value.null) :: lv.filter (fun q => !(q.1 == i) && !(q.1 + 1 == i && q.2.category == 2)) = lv2) (k : AW G lo ce sl (pc + 2) lv2 (st) h) : AW G lo ce sl pc lv (.null :: st) h := by
  obtain ⟨p, l, e, R, s, m, args, below, meth, c, Q, dd, nL⟩ := G
  obtain ⟨hx, hb, hr, hml, hown, hts, hlk, hK, hlo, rfl, rfl⟩ := C
  exact fun ls H locs hl hH hS => lv_astoreN hx hb d hl hn hq (fun ls hl => k ls H locs hl hH hS)
theorem a_iinc (C : CX G lo cc own ret rm nL0) {i : Nat} {n : Int} {x v : Int32} {lv2 : List (Nat × Value)} (d : decode cc pc = .ok (.iinc i n, 3)) (j : Nat) (hj : lv[j]? = some (i, .int x)) (hv : x + Int32.ofInt n = v) (hn : i < nL0) (hq : (i, Value.int v) :: lv.filter (fun q => !(q.1 == i) && !(q.1 + 1 == i && q.2.category == 2)) = lv2) (k : AW G lo ce sl (pc + 3) lv2 (st) h) : AW G lo ce sl pc lv (st) h := by
  obtain ⟨p, l, e, R, s, m, args, below, meth, c, Q, dd, nL⟩ := G
  obtain ⟨hx, hb, hr, hml, hown, hts, hlk, hK, hlo, rfl, rfl⟩ := C
  exact fun ls H locs hl hH hS => lv_iinc hx hb d hl hj hv hn hq (fun ls hl => k ls H locs hl hH hS)
theorem a_iadd (C : CX G lo cc own ret rm nL0) {x y : Int32} (d : decode cc pc = .ok (.iadd, 1)) (k : AW G lo ce sl (pc + 1) lv (.int (x + y) :: st) h) : AW G lo ce sl pc lv (.int y :: .int x :: st) h := by
  obtain ⟨p, l, e, R, s, m, args, below, meth, c, Q, dd, nL⟩ := G
  obtain ⟨hx, hb, hr, hml, hown, hts, hlk, hK, hlo, rfl, rfl⟩ := C
  exact fun ls H locs hl hH hS => lv_iadd hx hb d (k ls H locs hl hH hS)
theorem a_isub (C : CX G lo cc own ret rm nL0) {x y : Int32} (d : decode cc pc = .ok (.isub, 1)) (k : AW G lo ce sl (pc + 1) lv (.int (x - y) :: st) h) : AW G lo ce sl pc lv (.int y :: .int x :: st) h := by
  obtain ⟨p, l, e, R, s, m, args, below, meth, c, Q, dd, nL⟩ := G
  obtain ⟨hx, hb, hr, hml, hown, hts, hlk, hK, hlo, rfl, rfl⟩ := C
  exact fun ls H locs hl hH hS => lv_isub hx hb d (k ls H locs hl hH hS)
theorem a_imul (C : CX G lo cc own ret rm nL0) {x y : Int32} (d : decode cc pc = .ok (.imul, 1)) (k : AW G lo ce sl (pc + 1) lv (.int (x * y) :: st) h) : AW G lo ce sl pc lv (.int y :: .int x :: st) h := by
  obtain ⟨p, l, e, R, s, m, args, below, meth, c, Q, dd, nL⟩ := G
  obtain ⟨hx, hb, hr, hml, hown, hts, hlk, hK, hlo, rfl, rfl⟩ := C
  exact fun ls H locs hl hH hS => lv_imul hx hb d (k ls H locs hl hH hS)
theorem a_iand (C : CX G lo cc own ret rm nL0) {x y : Int32} (d : decode cc pc = .ok (.iand, 1)) (k : AW G lo ce sl (pc + 1) lv (.int (x &&& y) :: st) h) : AW G lo ce sl pc lv (.int y :: .int x :: st) h := by
  obtain ⟨p, l, e, R, s, m, args, below, meth, c, Q, dd, nL⟩ := G
  obtain ⟨hx, hb, hr, hml, hown, hts, hlk, hK, hlo, rfl, rfl⟩ := C
  exact fun ls H locs hl hH hS => lv_iand hx hb d (k ls H locs hl hH hS)
theorem a_ior (C : CX G lo cc own ret rm nL0) {x y : Int32} (d : decode cc pc = .ok (.ior, 1)) (k : AW G lo ce sl (pc + 1) lv (.int (x ||| y) :: st) h) : AW G lo ce sl pc lv (.int y :: .int x :: st) h := by
  obtain ⟨p, l, e, R, s, m, args, below, meth, c, Q, dd, nL⟩ := G
  obtain ⟨hx, hb, hr, hml, hown, hts, hlk, hK, hlo, rfl, rfl⟩ := C
  exact fun ls H locs hl hH hS => lv_ior hx hb d (k ls H locs hl hH hS)
theorem a_ixor (C : CX G lo cc own ret rm nL0) {x y : Int32} (d : decode cc pc = .ok (.ixor, 1)) (k : AW G lo ce sl (pc + 1) lv (.int (x ^^^ y) :: st) h) : AW G lo ce sl pc lv (.int y :: .int x :: st) h := by
  obtain ⟨p, l, e, R, s, m, args, below, meth, c, Q, dd, nL⟩ := G
  obtain ⟨hx, hb, hr, hml, hown, hts, hlk, hK, hlo, rfl, rfl⟩ := C
  exact fun ls H locs hl hH hS => lv_ixor hx hb d (k ls H locs hl hH hS)
theorem a_ishl (C : CX G lo cc own ret rm nL0) {x y : Int32} (d : decode cc pc = .ok (.ishl, 1)) (k : AW G lo ce sl (pc + 1) lv (.int (x <<< (y &&& 31)) :: st) h) : AW G lo ce sl pc lv (.int y :: .int x :: st) h := by
  obtain ⟨p, l, e, R, s, m, args, below, meth, c, Q, dd, nL⟩ := G
  obtain ⟨hx, hb, hr, hml, hown, hts, hlk, hK, hlo, rfl, rfl⟩ := C
  exact fun ls H locs hl hH hS => lv_ishl hx hb d (k ls H locs hl hH hS)
theorem a_ishr (C : CX G lo cc own ret rm nL0) {x y : Int32} (d : decode cc pc = .ok (.ishr, 1)) (k : AW G lo ce sl (pc + 1) lv (.int (x >>> (y &&& 31)) :: st) h) : AW G lo ce sl pc lv (.int y :: .int x :: st) h := by
  obtain ⟨p, l, e, R, s, m, args, below, meth, c, Q, dd, nL⟩ := G
  obtain ⟨hx, hb, hr, hml, hown, hts, hlk, hK, hlo, rfl, rfl⟩ := C
  exact fun ls H locs hl hH hS => lv_ishr hx hb d (k ls H locs hl hH hS)
theorem a_iushr (C : CX G lo cc own ret rm nL0) {x y : Int32} (d : decode cc pc = .ok (.iushr, 1)) (k : AW G lo ce sl (pc + 1) lv (.int ((x.toUInt32 >>> (y.toUInt32 &&& Int32.toUInt32 31)).toInt32) :: st) h) : AW G lo ce sl pc lv (.int y :: .int x :: st) h := by
  obtain ⟨p, l, e, R, s, m, args, below, meth, c, Q, dd, nL⟩ := G
  obtain ⟨hx, hb, hr, hml, hown, hts, hlk, hK, hlo, rfl, rfl⟩ := C
  exact fun ls H locs hl hH hS => lv_iushr hx hb d rfl (k ls H locs hl hH hS)
theorem a_idiv (C : CX G lo cc own ret rm nL0) {x y : Int32} (d : decode cc pc = .ok (.idiv, 1)) (hz : ¬ y = 0) (k : AW G lo ce sl (pc + 1) lv (.int (x / y) :: st) h) : AW G lo ce sl pc lv (.int y :: .int x :: st) h := by
  obtain ⟨p, l, e, R, s, m, args, below, meth, c, Q, dd, nL⟩ := G
  obtain ⟨hx, hb, hr, hml, hown, hts, hlk, hK, hlo, rfl, rfl⟩ := C
  exact fun ls H locs hl hH hS => lv_idiv hx hb d hz (k ls H locs hl hH hS)
theorem a_irem (C : CX G lo cc own ret rm nL0) {x y : Int32} (d : decode cc pc = .ok (.irem, 1)) (hz : ¬ y = 0) (k : AW G lo ce sl (pc + 1) lv (.int (x - x / y * y) :: st) h) : AW G lo ce sl pc lv (.int y :: .int x :: st) h := by
  obtain ⟨p, l, e, R, s, m, args, below, meth, c, Q, dd, nL⟩ := G
  obtain ⟨hx, hb, hr, hml, hown, hts, hlk, hK, hlo, rfl, rfl⟩ := C
  exact fun ls H locs hl hH hS => lv_irem hx hb d hz (k ls H locs hl hH hS)
theorem a_ineg (C : CX G lo cc own ret rm nL0) {x : Int32} (d : decode cc pc = .ok (.ineg, 1)) (k : AW G lo ce sl (pc + 1) lv (.int (-x) :: st) h) : AW G lo ce sl pc lv (.int x :: st) h := by
  obtain ⟨p, l, e, R, s, m, args, below, meth, c, Q, dd, nL⟩ := G
  obtain ⟨hx, hb, hr, hml, hown, hts, hlk, hK, hlo, rfl, rfl⟩ := C
  exact fun ls H locs hl hH hS => lv_ineg hx hb d (k ls H locs hl hH hS)
theorem a_ladd (C : CX G lo cc own ret rm nL0) {x y : Int64} (d : decode cc pc = .ok (.ladd, 1)) (k : AW G lo ce sl (pc + 1) lv (.long (x + y) :: st) h) : AW G lo ce sl pc lv (.long y :: .long x :: st) h := by
  obtain ⟨p, l, e, R, s, m, args, below, meth, c, Q, dd, nL⟩ := G
  obtain ⟨hx, hb, hr, hml, hown, hts, hlk, hK, hlo, rfl, rfl⟩ := C
  exact fun ls H locs hl hH hS => lv_ladd hx hb d (k ls H locs hl hH hS)
theorem a_lsub (C : CX G lo cc own ret rm nL0) {x y : Int64} (d : decode cc pc = .ok (.lsub, 1)) (k : AW G lo ce sl (pc + 1) lv (.long (x - y) :: st) h) : AW G lo ce sl pc lv (.long y :: .long x :: st) h := by
  obtain ⟨p, l, e, R, s, m, args, below, meth, c, Q, dd, nL⟩ := G
  obtain ⟨hx, hb, hr, hml, hown, hts, hlk, hK, hlo, rfl, rfl⟩ := C
  exact fun ls H locs hl hH hS => lv_lsub hx hb d (k ls H locs hl hH hS)
theorem a_lmul (C : CX G lo cc own ret rm nL0) {x y : Int64} (d : decode cc pc = .ok (.lmul, 1)) (k : AW G lo ce sl (pc + 1) lv (.long (x * y) :: st) h) : AW G lo ce sl pc lv (.long y :: .long x :: st) h := by
  obtain ⟨p, l, e, R, s, m, args, below, meth, c, Q, dd, nL⟩ := G
  obtain ⟨hx, hb, hr, hml, hown, hts, hlk, hK, hlo, rfl, rfl⟩ := C
  exact fun ls H locs hl hH hS => lv_lmul hx hb d (k ls H locs hl hH hS)
theorem a_ldiv (C : CX G lo cc own ret rm nL0) {x y : Int64} (d : decode cc pc = .ok (.ldiv, 1)) (hz : ¬ y = 0) (k : AW G lo ce sl (pc + 1) lv (.long (x / y) :: st) h) : AW G lo ce sl pc lv (.long y :: .long x :: st) h := by
  obtain ⟨p, l, e, R, s, m, args, below, meth, c, Q, dd, nL⟩ := G
  obtain ⟨hx, hb, hr, hml, hown, hts, hlk, hK, hlo, rfl, rfl⟩ := C
  exact fun ls H locs hl hH hS => lv_ldiv hx hb d hz (k ls H locs hl hH hS)
theorem a_lrem (C : CX G lo cc own ret rm nL0) {x y : Int64} (d : decode cc pc = .ok (.lrem, 1)) (hz : ¬ y = 0) (k : AW G lo ce sl (pc + 1) lv (.long (x - x / y * y) :: st) h) : AW G lo ce sl pc lv (.long y :: .long x :: st) h := by
  obtain ⟨p, l, e, R, s, m, args, below, meth, c, Q, dd, nL⟩ := G
  obtain ⟨hx, hb, hr, hml, hown, hts, hlk, hK, hlo, rfl, rfl⟩ := C
  exact fun ls H locs hl hH hS => lv_lrem hx hb d hz (k ls H locs hl hH hS)
theorem a_lcmp (C : CX G lo cc own ret rm nL0) {x y : Int64} (d : decode cc pc = .ok (.lcmp, 1)) (k : AW G lo ce sl (pc + 1) lv (.int (lg_cmp x y) :: st) h) : AW G lo ce sl pc lv (.long y :: .long x :: st) h := by
  obtain ⟨p, l, e, R, s, m, args, below, meth, c, Q, dd, nL⟩ := G
  obtain ⟨hx, hb, hr, hml, hown, hts, hlk, hK, hlo, rfl, rfl⟩ := C
  exact fun ls H locs hl hH hS => W.lcmp hx hb d (k ls H locs hl hH hS)
theorem a_i2l (C : CX G lo cc own ret rm nL0) {x : Int32} (d : decode cc pc = .ok (.i2l, 1)) (k : AW G lo ce sl (pc + 1) lv (.long x.toInt64 :: st) h) : AW G lo ce sl pc lv (.int x :: st) h := by
  obtain ⟨p, l, e, R, s, m, args, below, meth, c, Q, dd, nL⟩ := G
  obtain ⟨hx, hb, hr, hml, hown, hts, hlk, hK, hlo, rfl, rfl⟩ := C
  exact fun ls H locs hl hH hS => lv_i2l hx hb d rfl (k ls H locs hl hH hS)
theorem a_l2i (C : CX G lo cc own ret rm nL0) {x : Int64} (d : decode cc pc = .ok (.l2i, 1)) (k : AW G lo ce sl (pc + 1) lv (.int x.toInt32 :: st) h) : AW G lo ce sl pc lv (.long x :: st) h := by
  obtain ⟨p, l, e, R, s, m, args, below, meth, c, Q, dd, nL⟩ := G
  obtain ⟨hx, hb, hr, hml, hown, hts, hlk, hK, hlo, rfl, rfl⟩ := C
  exact fun ls H locs hl hH hS => lv_l2i hx hb d rfl (k ls H locs hl hH hS)
theorem a_i2b (C : CX G lo cc own ret rm nL0) {x : Int32} (d : decode cc pc = .ok (.i2b, 1)) (k : AW G lo ce sl (pc + 1) lv (.int x.toInt8.toInt32 :: st) h) : AW G lo ce sl pc lv (.int x :: st) h := by
  obtain ⟨p, l, e, R, s, m, args, below, meth, c, Q, dd, nL⟩ := G
  obtain ⟨hx, hb, hr, hml, hown, hts, hlk, hK, hlo, rfl, rfl⟩ := C
  exact fun ls H locs hl hH hS => lv_i2b hx hb d rfl (k ls H locs hl hH hS)
theorem a_i2s (C : CX G lo cc own ret rm nL0) {x : Int32} (d : decode cc pc = .ok (.i2s, 1)) (k : AW G lo ce sl (pc + 1) lv (.int x.toInt16.toInt32 :: st) h) : AW G lo ce sl pc lv (.int x :: st) h := by
  obtain ⟨p, l, e, R, s, m, args, below, meth, c, Q, dd, nL⟩ := G
  obtain ⟨hx, hb, hr, hml, hown, hts, hlk, hK, hlo, rfl, rfl⟩ := C
  exact fun ls H locs hl hH hS => lv_i2s hx hb d rfl (k ls H locs hl hH hS)
theorem a_dup (C : CX G lo cc own ret rm nL0) {v : Value} (d : decode cc pc = .ok (.dup, 1)) (hv : v.category = 1) (k : AW G lo ce sl (pc + 1) lv (v :: v :: st) h) : AW G lo ce sl pc lv (v :: st) h := by
  obtain ⟨p, l, e, R, s, m, args, below, meth, c, Q, dd, nL⟩ := G
  obtain ⟨hx, hb, hr, hml, hown, hts, hlk, hK, hlo, rfl, rfl⟩ := C
  exact fun ls H locs hl hH hS => lv_dup hx hb d hv (k ls H locs hl hH hS)
theorem a_dup2 (C : CX G lo cc own ret rm nL0) {v w : Value} (d : decode cc pc = .ok (.dup2, 1)) (hv : v.category = 1) (hw : w.category = 1) (k : AW G lo ce sl (pc + 1) lv (v :: w :: v :: w :: st) h) : AW G lo ce sl pc lv (v :: w :: st) h := by
  obtain ⟨p, l, e, R, s, m, args, below, meth, c, Q, dd, nL⟩ := G
  obtain ⟨hx, hb, hr, hml, hown, hts, hlk, hK, hlo, rfl, rfl⟩ := C
  exact fun ls H locs hl hH hS => lv_dup2_11 hx hb d hv hw (k ls H locs hl hH hS)
theorem a_pop (C : CX G lo cc own ret rm nL0) {v : Value} (d : decode cc pc = .ok (.pop, 1)) (hv : v.category = 1) (k : AW G lo ce sl (pc + 1) lv (st) h) : AW G lo ce sl pc lv (v :: st) h := by
  obtain ⟨p, l, e, R, s, m, args, below, meth, c, Q, dd, nL⟩ := G
  obtain ⟨hx, hb, hr, hml, hown, hts, hlk, hK, hlo, rfl, rfl⟩ := C
  exact fun ls H locs hl hH hS => lv_pop hx hb d hv (k ls H locs hl hH hS)
theorem a_goto (C : CX G lo cc own ret rm nL0) {off : Int} {tgt : Nat} (d : decode cc pc = .ok (.goto off, 3)) (ht : (pc : Int) + off = (tgt : Int)) (k : AW G lo ce sl (tgt) lv (st) h) : AW G lo ce sl pc lv (st) h := by
  obtain ⟨p, l, e, R, s, m, args, below, meth, c, Q, dd, nL⟩ := G
  obtain ⟨hx, hb, hr, hml, hown, hts, hlk, hK, hlo, rfl, rfl⟩ := C
  exact fun ls H locs hl hH hS => lv_goto hx hb d ht (k ls H locs hl hH hS)
theorem a_icmp_eq (C : CX G lo cc own ret rm nL0) {x y : Int32} {off : Int} {tgt : Nat} (d : decode cc pc = .ok (.if_icmp .eq off, 3)) (ht : (pc : Int) + off = (tgt : Int)) (kt : x = y → AW G lo ce sl tgt lv st h) (kf : ¬ x = y → AW G lo ce sl (pc + 3) lv st h) : AW G lo ce sl pc lv (.int y :: .int x :: st) h := by
  obtain ⟨p, l, e, R, s, m, args, below, meth, c, Q, dd, nL⟩ := G
  obtain ⟨hx, hb, hr, hml, hown, hts, hlk, hK, hlo, rfl, rfl⟩ := C
  exact fun ls H locs hl hH hS => lv_icmp_eq hx hb d ht (fun q => kt q ls H locs hl hH hS) (fun q => kf q ls H locs hl hH hS)
theorem a_if_eq (C : CX G lo cc own ret rm nL0) {x : Int32} {off : Int} {tgt : Nat} (d : decode cc pc = .ok (.ifCond .eq off, 3)) (ht : (pc : Int) + off = (tgt : Int)) (kt : x = 0 → AW G lo ce sl tgt lv st h) (kf : ¬ x = 0 → AW G lo ce sl (pc + 3) lv st h) : AW G lo ce sl pc lv (.int x :: st) h := by
  obtain ⟨p, l, e, R, s, m, args, below, meth, c, Q, dd, nL⟩ := G
  obtain ⟨hx, hb, hr, hml, hown, hts, hlk, hK, hlo, rfl, rfl⟩ := C
  exact fun ls H locs hl hH hS => lv_if_eq hx hb d ht (fun q => kt q ls H locs hl hH hS) (fun q => kf q ls H locs hl hH hS)
theorem a_icmp_ne (C : CX G lo cc own ret rm nL0) {x y : Int32} {off : Int} {tgt : Nat} (d : decode cc pc = .ok (.if_icmp .ne off, 3)) (ht : (pc : Int) + off = (tgt : Int)) (kt : ¬ x = y → AW G lo ce sl tgt lv st h) (kf : x = y → AW G lo ce sl (pc + 3) lv st h) : AW G lo ce sl pc lv (.int y :: .int x :: st) h := by
  obtain ⟨p, l, e, R, s, m, args, below, meth, c, Q, dd, nL⟩ := G
  obtain ⟨hx, hb, hr, hml, hown, hts, hlk, hK, hlo, rfl, rfl⟩ := C
  exact fun ls H locs hl hH hS => lv_icmp_ne hx hb d ht (fun q => kt q ls H locs hl hH hS) (fun q => kf q ls H locs hl hH hS)
theorem a_if_ne (C : CX G lo cc own ret rm nL0) {x : Int32} {off : Int} {tgt : Nat} (d : decode cc pc = .ok (.ifCond .ne off, 3)) (ht : (pc : Int) + off = (tgt : Int)) (kt : ¬ x = 0 → AW G lo ce sl tgt lv st h) (kf : x = 0 → AW G lo ce sl (pc + 3) lv st h) : AW G lo ce sl pc lv (.int x :: st) h := by
  obtain ⟨p, l, e, R, s, m, args, below, meth, c, Q, dd, nL⟩ := G
  obtain ⟨hx, hb, hr, hml, hown, hts, hlk, hK, hlo, rfl, rfl⟩ := C
  exact fun ls H locs hl hH hS => lv_if_ne hx hb d ht (fun q => kt q ls H locs hl hH hS) (fun q => kf q ls H locs hl hH hS)
theorem a_icmp_lt (C : CX G lo cc own ret rm nL0) {x y : Int32} {off : Int} {tgt : Nat} (d : decode cc pc = .ok (.if_icmp .lt off, 3)) (ht : (pc : Int) + off = (tgt : Int)) (kt : x < y → AW G lo ce sl tgt lv st h) (kf : ¬ x < y → AW G lo ce sl (pc + 3) lv st h) : AW G lo ce sl pc lv (.int y :: .int x :: st) h := by
  obtain ⟨p, l, e, R, s, m, args, below, meth, c, Q, dd, nL⟩ := G
  obtain ⟨hx, hb, hr, hml, hown, hts, hlk, hK, hlo, rfl, rfl⟩ := C
  exact fun ls H locs hl hH hS => lv_icmp_lt hx hb d ht (fun q => kt q ls H locs hl hH hS) (fun q => kf q ls H locs hl hH hS)
theorem a_if_lt (C : CX G lo cc own ret rm nL0) {x : Int32} {off : Int} {tgt : Nat} (d : decode cc pc = .ok (.ifCond .lt off, 3)) (ht : (pc : Int) + off = (tgt : Int)) (kt : x < 0 → AW G lo ce sl tgt lv st h) (kf : ¬ x < 0 → AW G lo ce sl (pc + 3) lv st h) : AW G lo ce sl pc lv (.int x :: st) h := by
  obtain ⟨p, l, e, R, s, m, args, below, meth, c, Q, dd, nL⟩ := G
  obtain ⟨hx, hb, hr, hml, hown, hts, hlk, hK, hlo, rfl, rfl⟩ := C
  exact fun ls H locs hl hH hS => lv_if_lt hx hb d ht (fun q => kt q ls H locs hl hH hS) (fun q => kf q ls H locs hl hH hS)
theorem a_icmp_ge (C : CX G lo cc own ret rm nL0) {x y : Int32} {off : Int} {tgt : Nat} (d : decode cc pc = .ok (.if_icmp .ge off, 3)) (ht : (pc : Int) + off = (tgt : Int)) (kt : y ≤ x → AW G lo ce sl tgt lv st h) (kf : ¬ y ≤ x → AW G lo ce sl (pc + 3) lv st h) : AW G lo ce sl pc lv (.int y :: .int x :: st) h := by
  obtain ⟨p, l, e, R, s, m, args, below, meth, c, Q, dd, nL⟩ := G
  obtain ⟨hx, hb, hr, hml, hown, hts, hlk, hK, hlo, rfl, rfl⟩ := C
  exact fun ls H locs hl hH hS => lv_icmp_ge hx hb d ht (fun q => kt q ls H locs hl hH hS) (fun q => kf q ls H locs hl hH hS)
theorem a_if_ge (C : CX G lo cc own ret rm nL0) {x : Int32} {off : Int} {tgt : Nat} (d : decode cc pc = .ok (.ifCond .ge off, 3)) (ht : (pc : Int) + off = (tgt : Int)) (kt : 0 ≤ x → AW G lo ce sl tgt lv st h) (kf : ¬ 0 ≤ x → AW G lo ce sl (pc + 3) lv st h) : AW G lo ce sl pc lv (.int x :: st) h := by
  obtain ⟨p, l, e, R, s, m, args, below, meth, c, Q, dd, nL⟩ := G
  obtain ⟨hx, hb, hr, hml, hown, hts, hlk, hK, hlo, rfl, rfl⟩ := C
  exact fun ls H locs hl hH hS => lv_if_ge hx hb d ht (fun q => kt q ls H locs hl hH hS) (fun q => kf q ls H locs hl hH hS)
theorem a_icmp_gt (C : CX G lo cc own ret rm nL0) {x y : Int32} {off : Int} {tgt : Nat} (d : decode cc pc = .ok (.if_icmp .gt off, 3)) (ht : (pc : Int) + off = (tgt : Int)) (kt : y < x → AW G lo ce sl tgt lv st h) (kf : ¬ y < x → AW G lo ce sl (pc + 3) lv st h) : AW G lo ce sl pc lv (.int y :: .int x :: st) h := by
  obtain ⟨p, l, e, R, s, m, args, below, meth, c, Q, dd, nL⟩ := G
  obtain ⟨hx, hb, hr, hml, hown, hts, hlk, hK, hlo, rfl, rfl⟩ := C
  exact fun ls H locs hl hH hS => lv_icmp_gt hx hb d ht (fun q => kt q ls H locs hl hH hS) (fun q => kf q ls H locs hl hH hS)
theorem a_if_gt (C : CX G lo cc own ret rm nL0) {x : Int32} {off : Int} {tgt : Nat} (d : decode cc pc = .ok (.ifCond .gt off, 3)) (ht : (pc : Int) + off = (tgt : Int)) (kt : 0 < x → AW G lo ce sl tgt lv st h) (kf : ¬ 0 < x → AW G lo ce sl (pc + 3) lv st h) : AW G lo ce sl pc lv (.int x :: st) h := by
  obtain ⟨p, l, e, R, s, m, args, below, meth, c, Q, dd, nL⟩ := G
  obtain ⟨hx, hb, hr, hml, hown, hts, hlk, hK, hlo, rfl, rfl⟩ := C
  exact fun ls H locs hl hH hS => lv_if_gt hx hb d ht (fun q => kt q ls H locs hl hH hS) (fun q => kf q ls H locs hl hH hS)
theorem a_icmp_le (C : CX G lo cc own ret rm nL0) {x y : Int32} {off : Int} {tgt : Nat} (d : decode cc pc = .ok (.if_icmp .le off, 3)) (ht : (pc : Int) + off = (tgt : Int)) (kt : x ≤ y → AW G lo ce sl tgt lv st h) (kf : ¬ x ≤ y → AW G lo ce sl (pc + 3) lv st h) : AW G lo ce sl pc lv (.int y :: .int x :: st) h := by
  obtain ⟨p, l, e, R, s, m, args, below, meth, c, Q, dd, nL⟩ := G
  obtain ⟨hx, hb, hr, hml, hown, hts, hlk, hK, hlo, rfl, rfl⟩ := C
  exact fun ls H locs hl hH hS => lv_icmp_le hx hb d ht (fun q => kt q ls H locs hl hH hS) (fun q => kf q ls H locs hl hH hS)
theorem a_if_le (C : CX G lo cc own ret rm nL0) {x : Int32} {off : Int} {tgt : Nat} (d : decode cc pc = .ok (.ifCond .le off, 3)) (ht : (pc : Int) + off = (tgt : Int)) (kt : x ≤ 0 → AW G lo ce sl tgt lv st h) (kf : ¬ x ≤ 0 → AW G lo ce sl (pc + 3) lv st h) : AW G lo ce sl pc lv (.int x :: st) h := by
  obtain ⟨p, l, e, R, s, m, args, below, meth, c, Q, dd, nL⟩ := G
  obtain ⟨hx, hb, hr, hml, hown, hts, hlk, hK, hlo, rfl, rfl⟩ := C
  exact fun ls H locs hl hH hS => lv_if_le hx hb d ht (fun q => kt q ls H locs hl hH hS) (fun q => kf q ls H locs hl hH hS)
theorem a_ifnull (C : CX G lo cc own ret rm nL0) {x : Nat} {off : Int} (d : decode cc pc = .ok (.ifnull off, 3)) (k : AW G lo ce sl (pc + 3) lv (st) h) : AW G lo ce sl pc lv (.ref x :: st) h := by
  obtain ⟨p, l, e, R, s, m, args, below, meth, c, Q, dd, nL⟩ := G
  obtain ⟨hx, hb, hr, hml, hown, hts, hlk, hK, hlo, rfl, rfl⟩ := C
  exact fun ls H locs hl hH hS => lv_ifnull hx hb d (k ls H locs hl hH hS)
theorem a_ifnullN (C : CX G lo cc own ret rm nL0) {off : Int} {tgt : Nat} (d : decode cc pc = .ok (.ifnull off, 3)) (ht : (pc : Int) + off = (tgt : Int)) (k : AW G lo ce sl (tgt) lv (st) h) : AW G lo ce sl pc lv (.null :: st) h := by
  obtain ⟨p, l, e, R, s, m, args, below, meth, c, Q, dd, nL⟩ := G
  obtain ⟨hx, hb, hr, hml, hown, hts, hlk, hK, hlo, rfl, rfl⟩ := C
  exact fun ls H locs hl hH hS => lv_ifnullN hx hb d ht (k ls H locs hl hH hS)
theorem a_ifnonnull (C : CX G lo cc own ret rm nL0) {x : Nat} {off : Int} {tgt : Nat} (d : decode cc pc = .ok (.ifnonnull off, 3)) (ht : (pc : Int) + off = (tgt : Int)) (k : AW G lo ce sl (tgt) lv (st) h) : AW G lo ce sl pc lv (.ref x :: st) h := by
  obtain ⟨p, l, e, R, s, m, args, below, meth, c, Q, dd, nL⟩ := G
  obtain ⟨hx, hb, hr, hml, hown, hts, hlk, hK, hlo, rfl, rfl⟩ := C
  exact fun ls H locs hl hH hS => lv_ifnonnull hx hb d ht (k ls H locs hl hH hS)
theorem a_ifnonnullN (C : CX G lo cc own ret rm nL0) {off : Int} (d : decode cc pc = .ok (.ifnonnull off, 3)) (k : AW G lo ce sl (pc + 3) lv (st) h) : AW G lo ce sl pc lv (.null :: st) h := by
  obtain ⟨p, l, e, R, s, m, args, below, meth, c, Q, dd, nL⟩ := G
  obtain ⟨hx, hb, hr, hml, hown, hts, hlk, hK, hlo, rfl, rfl⟩ := C
  exact fun ls H locs hl hH hS => lv_ifnonnullN hx hb d (k ls H locs hl hH hS)
theorem a_tableIn (C : CX G lo cc own ret rm nL0) {dflt a b : Int} {offs : Array Int} {len : Nat} {x : Int32} {off : Int} {tgt : Nat} (d : decode cc pc = .ok (.tableswitch dflt a b offs, len)) (h1 : ¬ x.toInt < a) (h2 : ¬ b < x.toInt) (ho : offs[(x.toInt - a).toNat]? = some off) (ht : (pc : Int) + off = (tgt : Int)) (k : AW G lo ce sl (tgt) lv (st) h) : AW G lo ce sl pc lv (.int x :: st) h := by
  obtain ⟨p, l, e, R, s, m, args, below, meth, c, Q, dd, nL⟩ := G
  obtain ⟨hx, hb, hr, hml, hown, hts, hlk, hK, hlo, rfl, rfl⟩ := C
  exact fun ls H locs hl hH hS => lv_tableIn hx hb d h1 h2 ho ht (k ls H locs hl hH hS)
theorem a_tableOut (C : CX G lo cc own ret rm nL0) {dflt a b : Int} {offs : Array Int} {len : Nat} {x : Int32} {tgt : Nat} (d : decode cc pc = .ok (.tableswitch dflt a b offs, len)) (h1 : x.toInt < a ∨ b < x.toInt) (ht : (pc : Int) + dflt = (tgt : Int)) (k : AW G lo ce sl (tgt) lv (st) h) : AW G lo ce sl pc lv (.int x :: st) h := by
  obtain ⟨p, l, e, R, s, m, args, below, meth, c, Q, dd, nL⟩ := G
  obtain ⟨hx, hb, hr, hml, hown, hts, hlk, hK, hlo, rfl, rfl⟩ := C
  exact fun ls H locs hl hH hS => lv_tableOut hx hb d h1 ht (k ls H locs hl hH hS)
theorem a_lookup (C : CX G lo cc own ret rm nL0) {dflt : Int} {ps : Array (Int × Int)} {len : Nat} {x : Int32} {off : Int} {tgt : Nat} (d : decode cc pc = .ok (.lookupswitch dflt ps, len)) (hp : (ps.toList.zip (ps.toList.drop 1)).all (fun (a, next) => a.1 < next.1) = true) (ho : Op.lookupswitch.offset ps.toList dflt x.toInt = off) (ht : (pc : Int) + off = (tgt : Int)) (k : AW G lo ce sl (tgt) lv (st) h) : AW G lo ce sl pc lv (.int x :: st) h := by
  obtain ⟨p, l, e, R, s, m, args, below, meth, c, Q, dd, nL⟩ := G
  obtain ⟨hx, hb, hr, hml, hown, hts, hlk, hK, hlo, rfl, rfl⟩ := C
  exact fun ls H locs hl hH hS => lv_lookup hx hb d hp ho ht (k ls H locs hl hH hS)
theorem a_sub {lv2 : List (Nat × Value)} (ks : List Nat) (hq : lv_pick lv ks = lv2) (k : AW G lo ce sl pc lv2 st h) : AW G lo ce sl pc lv st h := by
  obtain ⟨p, l, e, R, s, m, args, below, meth, c, Q, dd, nL⟩ := G
  exact fun ls H locs hl hH hS => k ls H locs (lv_sub hl ks hq) hH hS
theorem a_widen {ce2 sl2 : Nat} (h1 : ce ≤ ce2) (h2 : sl ≤ sl2) (k : AW G lo ce2 sl2 pc lv st h) : AW G lo ce sl pc lv st h := by
  obtain ⟨p, l, e, R, s, m, args, below, meth, c, Q, dd, nL⟩ := G
  exact fun ls H locs hl hH hS => W.widen h1 h2 (k ls H locs hl hH hS)
theorem a_topi {x : Int32} (k : ∀ y : Int32, y = x → AW G lo ce sl pc lv (.int y :: st) h) : AW G lo ce sl pc lv (.int x :: st) h := k x rfl
theorem a_topl {x : Int64} (k : ∀ y : Int64, y = x → AW G lo ce sl pc lv (.long y :: st) h) : AW G lo ce sl pc lv (.long x :: st) h := k x rfl
end Rows
end
section
/-! ROWS OVER THE HEAP -/
/-- a class of the worlds, with its tables -/
def CB (ci : Nat) (CN : String) (T : u_T) (N : Nat) (ty : Nat → FieldType) : Prop := vwCl[ci]? = some (CN, T, N) ∧ (∀ w ∈ u_ws CN T N, w ∈ gw) ∧ (∀ k, k < N → parseFieldDescriptor (T k).2.2.1 = some (ty k)) ∧ (∀ a, a < N → ∀ b, b < N → a ≠ b → (T a).2.1 ≠ (T b).2.1)
theorem cb0 : CB 0 RX0 TX0 4 tyX0 := ⟨rfl, inX0, tyX0_ok, nmX0⟩
theorem cb1 : CB 1 RX1 TX1 4 tyX1 := ⟨rfl, inX1, tyX1_ok, nmX1⟩
theorem cb2 : CB 2 RX3 TX3 9 tyX3 := ⟨rfl, inX3, tyX3_ok, nmX3⟩
theorem cb3 : CB 3 RX4 TX4 4 tyX4 := ⟨rfl, inX4, tyX4_ok, nmX4⟩
theorem cb4 : CB 4 RX5 TX5 4 tyX5 := ⟨rfl, inX5, tyX5_ok, nmX5⟩
theorem cb5 : CB 5 RX6 TX6 2 tyX6 := ⟨rfl, inX6, tyX6_ok, nmX6⟩
theorem cb6 : CB 6 RX7 TX7 5 tyX7 := ⟨rfl, inX7, tyX7_ok, nmX7⟩
theorem cb7 : CB 7 RX8 TX8 3 tyX8 := ⟨rfl, inX8, tyX8_ok, nmX8⟩
theorem cb8 : CB 8 RX9 TX9 4 tyX9 := ⟨rfl, inX9, tyX9_ok, nmX9⟩
theorem cb9 : CB 9 RX10 TX10 11 tyX10 := ⟨rfl, inX10, tyX10_ok, nmX10⟩
theorem cb10 : CB 10 RX11 TX11 16 tyX11 := ⟨rfl, inX11, tyX11_ok, nmX11⟩
theorem cb11 : CB 11 RX12 TX12 32 tyX12 := ⟨rfl, inX12, tyX12_ok, nmX12⟩
/-- every door's class has the fields of TX0 -/
theorem isD_cb {c : Nat} (h : isD c = true) : ∃ CN ty, CB c CN TX0 4 ty := by
  have e1 : TX1 = TX0 := funext fun k => match k with
    | 0 => rfl
    | 1 => rfl
    | 2 => rfl
    | _ + 3 => rfl
  have e4 : TX4 = TX0 := funext fun k => match k with
    | 0 => rfl
    | 1 => rfl
    | 2 => rfl
    | _ + 3 => rfl
  have e5 : TX5 = TX0 := funext fun k => match k with
    | 0 => rfl
    | 1 => rfl
    | 2 => rfl
    | _ + 3 => rfl
  have e9 : TX9 = TX0 := funext fun k => match k with
    | 0 => rfl
    | 1 => rfl
    | 2 => rfl
    | _ + 3 => rfl
  simp only [isD, Bool.or_eq_true, beq_iff_eq] at h
  rcases h with (((h | h) | h) | h) | h <;> subst h
  · exact ⟨_, _, cb0⟩
  · exact ⟨_, _, e1 ▸ cb1⟩
  · exact ⟨_, _, e4 ▸ cb3⟩
  · exact ⟨_, _, e5 ▸ cb4⟩
  · exact ⟨_, _, e9 ▸ cb8⟩
section Heap
variable {G : Gm} {lo ce sl pc : Nat} {lv : List (Nat × Value)} {st : List Value} {h : Hp} {cc : ByteArray} {own : String} {ret : Option FieldType} {rm : Room} {nL0 : Nat}
theorem a_get0 (C : CX G lo cc own ret rm nL0) {a ci idx N : Nat} {fs : List Vl} {v : Vl} {CN ref : String} {T : u_T} {ty : Nat → FieldType} (cb : CB ci CN T N ty) (k : Nat) (hk : k < N) (hl : Cond.fieldLink own idx ref (T k).2.1 (T k).2.2.1 ∈ gw) (hs : ref = (T k).1 ∨ Cond.sameField ref (T k).1 (T k).2.1 (T k).2.2.1 ∈ gw) (d : decode cc pc = .ok (.getfield idx, 3)) (ho : gO h a = some (ci, fs)) (hv : fs[k]? = some v) (kk : AW G lo ce sl (pc + 3) lv (vl lo v :: st) h) : AW G lo ce sl pc lv (.ref (lo + a) :: st) h := by
  obtain ⟨p, l, e, R, s, m, args, below, meth, c, Q, dd, nL⟩ := G
  obtain ⟨hx, hb, hr, hml, hown, hts, hlk, hK, hlo, rfl, rfl⟩ := C
  intro ls H locs hlv hH hS
  obtain ⟨ha, hc⟩ := gO_some ho
  have hP : va_P (dd.1, dd.2.1) vwCl [(lo + a, .inr (ci, fs.map (vl lo)))] H := by
    intro q x hq
    have hz : q < 1 := (List.getElem?_eq_some_iff.mp hq).1
    rw [show q = 0 by omega] at hq
    cases hq
    exact hH.at ha hc
  refine va_get (D := (dd.1, dd.2.1)) (ci := ci) (v := vl lo v) (C := CN) (T := T) (N := N) (fs := fs.map (vl lo)) hx hb hts cb.2.1 hown hK.1 hP 0 rfl cb.1 k hk (hts _ hl) (fun x hx' => ?_) (by rw [List.getElem?_map, hv]; rfl) d (kk ls H locs hlv hH hS)
  rcases hs with q | q
  · rw [q]; exact hx'
  · exact u_same (hts _ q) x hx'
theorem a_getI (C : CX G lo cc own ret rm nL0) {a ci idx N : Nat} {x : Int32} {CN ref : String} {T : u_T} {ty : Nat → FieldType} (cb : CB ci CN T N ty) (k : Nat) (hk : k < N) (hl : Cond.fieldLink own idx ref (T k).2.1 (T k).2.2.1 ∈ gw) (hs : ref = (T k).1) (d : decode cc pc = .ok (.getfield idx, 3)) (ho : gI h a ci k = some x) (kk : AW G lo ce sl (pc + 3) lv (.int x :: st) h) : AW G lo ce sl pc lv (.ref (lo + a) :: st) h := by
  obtain ⟨fs, h1, h2⟩ := gI_some ho
  exact a_get0 C cb k hk hl (Or.inl hs) d h1 h2 kk
theorem a_getN (C : CX G lo cc own ret rm nL0) {a ci idx N : Nat} {x : Nat} {CN ref : String} {T : u_T} {ty : Nat → FieldType} (cb : CB ci CN T N ty) (k : Nat) (hk : k < N) (hl : Cond.fieldLink own idx ref (T k).2.1 (T k).2.2.1 ∈ gw) (hs : ref = (T k).1) (d : decode cc pc = .ok (.getfield idx, 3)) (ho : gN h a ci k = some x) (kk : AW G lo ce sl (pc + 3) lv (.ref (lo + x) :: st) h) : AW G lo ce sl pc lv (.ref (lo + a) :: st) h := by
  obtain ⟨fs, h1, h2⟩ := gN_some ho
  exact a_get0 C cb k hk hl (Or.inl hs) d h1 h2 kk
theorem a_getD (C : CX G lo cc own ret rm nL0) {a idx : Nat} {x : Int32} {ref : String} (k : Nat) (hk : k < 4) (hl : Cond.fieldLink own idx ref (TX0 k).2.1 (TX0 k).2.2.1 ∈ gw) (hs : ref = (TX0 k).1 ∨ Cond.sameField ref (TX0 k).1 (TX0 k).2.1 (TX0 k).2.2.1 ∈ gw) (d : decode cc pc = .ok (.getfield idx, 3)) (ho : gD h a k = some x) (kk : AW G lo ce sl (pc + 3) lv (.int x :: st) h) : AW G lo ce sl pc lv (.ref (lo + a) :: st) h := by
  obtain ⟨c, fs, h1, h2, h3⟩ := gD_some ho
  obtain ⟨CN, ty, cb⟩ := isD_cb h2
  exact a_get0 C cb k hk hl hs d h1 h3 kk
theorem a_put0 (C : CX G lo cc own ret rm nL0) {a ci idx N : Nat} {fs : List Vl} {v : Vl} {CN : String} {T : u_T} {ty : Nat → FieldType} (cb : CB ci CN T N ty) (k : Nat) (hk : k < N) (hl : Cond.fieldLink own idx (T k).1 (T k).2.1 (T k).2.2.1 ∈ gw) (hfin : (T k).2.2.2 = false) {t : FieldType} (hd : parseFieldDescriptor (T k).2.2.1 = some t) (hn : narrow t (vl lo v) = vl lo v) (hfit : fits t (vl lo v) = true) (d : decode cc pc = .ok (.putfield idx, 3)) (ho : gO h a = some (ci, fs)) (hlen : k < fs.length) (kk : AW G lo ce sl (pc + 3) lv st (hup h a (.inr (.inr (ci, fs.set k v))))) : AW G lo ce sl pc lv (vl lo v :: .ref (lo + a) :: st) h := by
  obtain ⟨p, l, e, R, s, m, args, below, meth, c, Q, dd, nL⟩ := G
  obtain ⟨hx, hb, hr, hml, hown, hts, hlk, hK, hlo, rfl, rfl⟩ := C
  intro ls H locs hlv hH hS
  obtain ⟨ha, hc⟩ := gO_some ho
  obtain ⟨hcl, hin, hty, hnm⟩ := cb
  have hap := va_apart (own := own) hts hin ty hty hnm hK.1 hcl
  obtain ⟨r, h1, cell, q1, q2, q3, q4⟩ := hH.at ha hc
  have hr : r = (CN, T, N) := Option.some.inj (h1.symm.trans hcl)
  subst hr
  obtain ⟨hSl, hfc, kC, hkC, hkind⟩ := hK.1.1 ci _ hcl
  obtain ⟨cf, kf, fi, f, hi, hsl⟩ := hSl k hk
  have hlay := hts _ (hin _ (u_in_lay hk))
  unfold u_lay at hlay
  rw [if_neg (by rw [hfin]; decide)] at hlay
  have hst := (u_facts hfc hkC (u_lays hts hin hk) hi).1
  have h6 := u_store hfc hkC hkind hlay hi hd hn hfit
  refine W.putK hx hb (f := f) ⟨hown, hts _ hl, ⟨_, _, _, hi⟩, hst⟩ (by rw [q2]; exact h6) q1 q3 (by rw [hsl]; exact k2_hasslot (q4 k hk)) rfl rfl d fun H' e1 e2 e3 => ?_
  rw [hsl] at e1 ⊢
  refine kk ls H' _ hlv (hH.up e2 e3 ?_) (hS.put e2 e3 (Nat.le_add_right lo a))
  refine ⟨_, hcl, t_OB.to (V := updV (vp_V (fs.map (vl lo))) k (vl lo v)) ⟨_, e1, q2, q3, t_set q4 hap hk _⟩ (fun j _ => ?_)⟩
  rw [vp_updV_set (by rw [List.length_map]; exact hlen), List.map_set]
theorem a_putI (C : CX G lo cc own ret rm nL0) {a ci idx N : Nat} {x : Int32} {CN : String} {T : u_T} {ty : Nat → FieldType} (cb : CB ci CN T N ty) (k : Nat) (hk : k < N) (hl : Cond.fieldLink own idx (T k).1 (T k).2.1 (T k).2.2.1 ∈ gw) (hfin : (T k).2.2.2 = false) (hd : parseFieldDescriptor (T k).2.2.1 = some .int) (d : decode cc pc = .ok (.putfield idx, 3)) {h' : Hp} (ho : pV h a ci k (.inl x) = some h') (kk : AW G lo ce sl (pc + 3) lv st h') : AW G lo ce sl pc lv (.int x :: .ref (lo + a) :: st) h := by
  obtain ⟨fs, h1, h2, rfl⟩ := pV_some ho
  exact a_put0 (v := .inl x) C cb k hk hl hfin hd rfl rfl d h1 h2 kk
theorem a_putF0 (C : CX G lo cc own ret rm nL0) (hini : match G with | (p, l, e, R, s, m, args, below, meth, c, Q, d, nL) => meth.name = "<init>") {a ci idx N : Nat} {fs : List Vl} {v : Vl} {CN : String} {T : u_T} {ty : Nat → FieldType} (cb : CB ci CN T N ty) (k : Nat) (hk : k < N) (hl : Cond.fieldLink own idx (T k).1 (T k).2.1 (T k).2.2.1 ∈ gw) (hfin : (T k).2.2.2 = true) (hdecl : (T k).1 = own) {t : FieldType} (hd : parseFieldDescriptor (T k).2.2.1 = some t) (hn : narrow t (vl lo v) = vl lo v) (hfit : fits t (vl lo v) = true) (d : decode cc pc = .ok (.putfield idx, 3)) (ho : gO h a = some (ci, fs)) (hlen : k < fs.length) (kk : AW G lo ce sl (pc + 3) lv st (hup h a (.inr (.inr (ci, fs.set k v))))) : AW G lo ce sl pc lv (vl lo v :: .ref (lo + a) :: st) h := by
  obtain ⟨p, l, e, R, s, m, args, below, meth, c, Q, dd, nL⟩ := G
  obtain ⟨hx, hb, hr, hml, hown, hts, hlk, hK, hlo, rfl, rfl⟩ := C
  intro ls H locs hlv hH hS
  obtain ⟨ha, hc⟩ := gO_some ho
  obtain ⟨hcl, hin, hty, hnm⟩ := cb
  have hap := va_apart (own := own) hts hin ty hty hnm hK.1 hcl
  obtain ⟨r, h1, cell, q1, q2, q3, q4⟩ := hH.at ha hc
  have hr : r = (CN, T, N) := Option.some.inj (h1.symm.trans hcl)
  subst hr
  obtain ⟨hSl, hfc, kC, hkC, hkind⟩ := hK.1.1 ci _ hcl
  obtain ⟨cf, kf, fi, f, hi, hsl⟩ := hSl k hk
  have hlay := hts _ (hin _ (u_in_lay hk))
  unfold u_lay at hlay
  rw [if_pos hfin] at hlay
  have hst := (u_facts hfc hkC (u_lays hts hin hk) hi).1
  have hcf : m.cls = cf := by
    obtain ⟨_, _, c', _, _, _, -, -, hf', -, -, -, hown2, -⟩ := Cond.laysFinal_spec hlay
    have e1 : c' = cf := by have := hi.symm.trans hf'; simp at this; exact this.1.symm
    rw [hdecl] at hown2
    rw [← e1]; exact Option.some.inj (hown.symm.trans hown2)
  have h6 := u_fits hfc hkC hkind (Or.inr hlay) hi hd hn hfit
  refine W.putFinK hx hb hown (hts _ hl) hi hst hcf hini (by rw [q2]; exact h6) q1 q3 (by rw [hsl]; exact k2_hasslot (q4 k hk)) rfl rfl d fun H' e1 e2 e3 => ?_
  rw [hsl] at e1 ⊢
  refine kk ls H' _ hlv (hH.up e2 e3 ?_) (hS.put e2 e3 (Nat.le_add_right lo a))
  refine ⟨_, hcl, t_OB.to (V := updV (vp_V (fs.map (vl lo))) k (vl lo v)) ⟨_, e1, q2, q3, t_set q4 hap hk _⟩ (fun j _ => ?_)⟩
  rw [vp_updV_set (by rw [List.length_map]; exact hlen), List.map_set]
theorem a_putFI (C : CX G lo cc own ret rm nL0) (hini : match G with | (p, l, e, R, s, m, args, below, meth, c, Q, d, nL) => meth.name = "<init>") {a idx : Nat} {x : Int32} (k : Nat) (hk : k < 4) (hl : Cond.fieldLink own idx (TX0 k).1 (TX0 k).2.1 (TX0 k).2.2.1 ∈ gw) (hfin : (TX0 k).2.2.2 = true) (hdecl : (TX0 k).1 = own) (hd : parseFieldDescriptor (TX0 k).2.2.1 = some .int) (d : decode cc pc = .ok (.putfield idx, 3)) {h' : Hp} (ho : pD h a k (.inl x) = some h') (kk : AW G lo ce sl (pc + 3) lv st h') : AW G lo ce sl pc lv (.int x :: .ref (lo + a) :: st) h := by
  obtain ⟨c, fs, h1, h2, h3, rfl⟩ := pD_some ho
  obtain ⟨CN, ty, cb⟩ := isD_cb h2
  exact a_putF0 (v := .inl x) C hini cb k hk hl hfin hdecl hd rfl rfl d h1 h3 kk
theorem a_putFR (C : CX G lo cc own ret rm nL0) (hini : match G with | (p, l, e, R, s, m, args, below, meth, c, Q, d, nL) => meth.name = "<init>") {a ci idx N x : Nat} {CN : String} {T : u_T} {ty : Nat → FieldType} (cb : CB ci CN T N ty) (k : Nat) (hk : k < N) (hl : Cond.fieldLink own idx (T k).1 (T k).2.1 (T k).2.2.1 ∈ gw) (hfin : (T k).2.2.2 = true) (hdecl : (T k).1 = own) {t : FieldType} (hd : parseFieldDescriptor (T k).2.2.1 = some t) (hn : narrow t (.ref (lo + x)) = .ref (lo + x)) (hfit : fits t (.ref (lo + x)) = true) (d : decode cc pc = .ok (.putfield idx, 3)) {h' : Hp} (ho : pV h a ci k (.inr (some x)) = some h') (kk : AW G lo ce sl (pc + 3) lv st h') : AW G lo ce sl pc lv (.ref (lo + x) :: .ref (lo + a) :: st) h := by
  obtain ⟨fs, h1, h2, rfl⟩ := pV_some ho
  exact a_putF0 (v := .inr (some x)) C hini cb k hk hl hfin hdecl hd hn hfit d h1 h2 kk
theorem a_iald (C : CX G lo cc own ret rm nL0) {a : Nat} {i x : Int32} (d : decode cc pc = .ok (.iaload, 1)) (ho : ald h a 0 i = some x) (kk : AW G lo ce sl (pc + 1) lv (.int x :: st) h) : AW G lo ce sl pc lv (.int i :: .ref (lo + a) :: st) h := by
  obtain ⟨p, l, e, R, s, m, args, below, meth, c, Q, dd, nL⟩ := G
  obtain ⟨hx, hb, hr, hml, hown, hts, hlk, hK, hlo, rfl, rfl⟩ := C
  intro ls H locs hlv hH hS
  obtain ⟨n, f, h1, h2, rfl⟩ := ald_some ho
  obtain ⟨ha, hc⟩ := gA_some h1
  have hP : va_P (dd.1, dd.2.1) vwCl [(lo + a, .inl (dd.2.2 0, n, .inl f))] H := by
    intro q x hq
    have hz : q < 1 := (List.getElem?_eq_some_iff.mp hq).1
    rw [show q = 0 by omega] at hq
    cases hq
    exact hH.at ha hc
  exact va_iald (D := (dd.1, dd.2.1)) hx hb hK.1 hP 0 0 rfl rfl h2 d (kk ls H locs hlv hH hS)
theorem a_zald (C : CX G lo cc own ret rm nL0) {a : Nat} {i x : Int32} (d : decode cc pc = .ok (.baload, 1)) (ho : ald h a 1 i = some x) (kk : AW G lo ce sl (pc + 1) lv (.int x :: st) h) : AW G lo ce sl pc lv (.int i :: .ref (lo + a) :: st) h := by
  obtain ⟨p, l, e, R, s, m, args, below, meth, c, Q, dd, nL⟩ := G
  obtain ⟨hx, hb, hr, hml, hown, hts, hlk, hK, hlo, rfl, rfl⟩ := C
  intro ls H locs hlv hH hS
  obtain ⟨n, f, h1, h2, rfl⟩ := ald_some ho
  obtain ⟨ha, hc⟩ := gA_some h1
  have hP : va_P (dd.1, dd.2.1) vwCl [(lo + a, .inl (dd.2.2 1, n, .inl f))] H := by
    intro q x hq
    have hz : q < 1 := (List.getElem?_eq_some_iff.mp hq).1
    rw [show q = 0 by omega] at hq
    cases hq
    exact hH.at ha hc
  exact va_zald (D := (dd.1, dd.2.1)) hx hb hK.1 hP 0 1 rfl rfl h2 d (kk ls H locs hlv hH hS)
theorem upd_val (f : Nat → Int32) (k : Nat) (x : Int32) : (fun j => Value.int (upd f k x j)) = updV (fun j => .int (f j)) k (.int x) := by
  funext q
  by_cases hq : q = k <;> simp [updV, upd, hq]
theorem a_iast (C : CX G lo cc own ret rm nL0) {a : Nat} {i x : Int32} {h' : Hp} (d : decode cc pc = .ok (.iastore, 1)) (ho : ast h a 0 i x = some h') (kk : AW G lo ce sl (pc + 1) lv st h') : AW G lo ce sl pc lv (.int x :: .int i :: .ref (lo + a) :: st) h := by
  obtain ⟨p, l, e, R, s, m, args, below, meth, c, Q, dd, nL⟩ := G
  obtain ⟨hx, hb, hr, hml, hown, hts, hlk, hK, hlo, rfl, rfl⟩ := C
  intro ls H locs hlv hH hS
  obtain ⟨n, f, h1, h2, rfl⟩ := ast_some ho
  obtain ⟨ha, hc⟩ := gA_some h1
  have hcell : H[lo + a]? = some (arrV (dd.2.2 0) n (fun j => .int (f j))) := hH.at ha hc
  refine W.iast hx hb hcell ((hK.1.2 0 _ rfl).1 n (fun j => .int (f j))) (fun q => by cases q) (by rw [arrV_size]; exact h2) rfl rfl d fun H1 e z oq => ?_
  refine kk ls H1 _ hlv (hH.up z oq ?_) (hS.put z oq (Nat.le_add_right lo a))
  show H1[lo + a]? = some (arrV (dd.2.2 0) n (fun j => .int (upd f i.toNatClampNeg x j)))
  rw [e, arrV_store, upd_val]
theorem a_zast (C : CX G lo cc own ret rm nL0) {a : Nat} {i x : Int32} {h' : Hp} (d : decode cc pc = .ok (.bastore, 1)) (ho : ast h a 1 i (x &&& 1) = some h') (kk : AW G lo ce sl (pc + 1) lv st h') : AW G lo ce sl pc lv (.int x :: .int i :: .ref (lo + a) :: st) h := by
  obtain ⟨p, l, e, R, s, m, args, below, meth, c, Q, dd, nL⟩ := G
  obtain ⟨hx, hb, hr, hml, hown, hts, hlk, hK, hlo, rfl, rfl⟩ := C
  intro ls H locs hlv hH hS
  obtain ⟨n, f, h1, h2, rfl⟩ := ast_some ho
  obtain ⟨ha, hc⟩ := gA_some h1
  have hcell : H[lo + a]? = some (arrV (dd.2.2 1) n (fun j => .int (f j))) := hH.at ha hc
  refine W.zast hx hb hcell ((hK.1.2 1 _ rfl).1 n (fun j => .int (f j))) (fun q => by cases q) (by rw [arrV_size]; exact h2) rfl rfl d fun H1 e z oq => ?_
  refine kk ls H1 _ hlv (hH.up z oq ?_) (hS.put z oq (Nat.le_add_right lo a))
  show H1[lo + a]? = some (arrV (dd.2.2 1) n (fun j => .int (upd f i.toNatClampNeg (x &&& 1) j)))
  rw [e, arrV_store, upd_val]
  rfl
theorem a_aln (C : CX G lo cc own ret rm nL0) {a : Nat} {x : Int32} (d : decode cc pc = .ok (.arraylength, 1)) (ho : aln h a 0 = some x) (kk : AW G lo ce sl (pc + 1) lv (.int x :: st) h) : AW G lo ce sl pc lv (.ref (lo + a) :: st) h := by
  obtain ⟨p, l, e, R, s, m, args, below, meth, c, Q, dd, nL⟩ := G
  obtain ⟨hx, hb, hr, hml, hown, hts, hlk, hK, hlo, rfl, rfl⟩ := C
  intro ls H locs hlv hH hS
  obtain ⟨n, f, h1, h2⟩ := aln_some ho
  obtain ⟨ha, hc⟩ := gA_some h1
  have hP : va_P (dd.1, dd.2.1) vwCl [(lo + a, .inl (dd.2.2 0, n, .inl f))] H := by
    intro q x hq
    have hz : q < 1 := (List.getElem?_eq_some_iff.mp hq).1
    rw [show q = 0 by omega] at hq
    cases hq
    exact hH.at ha hc
  exact va_alen (D := (dd.1, dd.2.1)) hx hb hK.1 hP 0 0 rfl rfl h2 d (kk ls H locs hlv hH hS)
theorem tysL_at {dA : Nat → ClassId} {t : Nat} (ht : t = 2 ∨ t = 3 ∨ t = 4) : ∃ E, (tysL dA)[t]? = some (dA t, .object E) := by
  rcases ht with rfl | rfl | rfl
  · exact ⟨_, rfl⟩
  · exact ⟨_, rfl⟩
  · exact ⟨_, rfl⟩
theorem a_qln (C : CX G lo cc own ret rm nL0) {a t : Nat} {x : Int32} (ht : t = 2 ∨ t = 3 ∨ t = 4) (d : decode cc pc = .ok (.arraylength, 1)) (ho : qln h a t = some x) (kk : AW G lo ce sl (pc + 1) lv (.int x :: st) h) : AW G lo ce sl pc lv (.ref (lo + a) :: st) h := by
  obtain ⟨p, l, e, R, s, m, args, below, meth, c, Q, dd, nL⟩ := G
  obtain ⟨hx, hb, hr, hml, hown, hts, hlk, hK, hlo, rfl, rfl⟩ := C
  intro ls H locs hlv hH hS
  obtain ⟨n, f, h1, h2⟩ := qln_some ho
  obtain ⟨ha, hc⟩ := gQ_some h1
  have hP : va_P (dd.1, dd.2.1) vwCl [(lo + a, .inl (dd.2.2 t, n, .inr (.inr (.inr (.inr (fun k => rl lo (f k)))))))] H := by
    intro q x hq
    have hz : q < 1 := (List.getElem?_eq_some_iff.mp hq).1
    rw [show q = 0 by omega] at hq
    cases hq
    exact hH.at ha hc
  obtain ⟨E, hE⟩ := tysL_at (dA := dd.2.2) ht
  exact va_alen (D := (dd.1, dd.2.1)) hx hb hK.1 hP 0 t rfl hE h2 d (kk ls H locs hlv hH hS)
theorem a_aldq (C : CX G lo cc own ret rm nL0) {a t : Nat} {i : Int32} {r : Option Nat} (ht : t = 2 ∨ t = 3 ∨ t = 4) (d : decode cc pc = .ok (.aaload, 1)) (ho : aldq h a t i = some r) (kk : AW G lo ce sl (pc + 1) lv (va_rf (rl lo r) :: st) h) : AW G lo ce sl pc lv (.int i :: .ref (lo + a) :: st) h := by
  obtain ⟨p, l, e, R, s, m, args, below, meth, c, Q, dd, nL⟩ := G
  obtain ⟨hx, hb, hr, hml, hown, hts, hlk, hK, hlo, rfl, rfl⟩ := C
  intro ls H locs hlv hH hS
  obtain ⟨n, f, h1, h2, rfl⟩ := aldq_some ho
  obtain ⟨ha, hc⟩ := gQ_some h1
  have hP : va_P (dd.1, dd.2.1) vwCl [(lo + a, .inl (dd.2.2 t, n, .inr (.inr (.inr (.inr (fun k => rl lo (f k)))))))] H := by
    intro q x hq
    have hz : q < 1 := (List.getElem?_eq_some_iff.mp hq).1
    rw [show q = 0 by omega] at hq
    cases hq
    exact hH.at ha hc
  obtain ⟨E, hE⟩ := tysL_at (dA := dd.2.2) ht
  exact va_aldq (D := (dd.1, dd.2.1)) (f := fun k => rl lo (f k)) hx hb hK.1 hP 0 t rfl hE h2 d (kk ls H locs hlv hH hS)
theorem a_aldn (C : CX G lo cc own ret rm nL0) {a t x : Nat} {i : Int32} (ht : t = 2 ∨ t = 3 ∨ t = 4) (d : decode cc pc = .ok (.aaload, 1)) (ho : aldn h a t i = some x) (kk : AW G lo ce sl (pc + 1) lv (.ref (lo + x) :: st) h) : AW G lo ce sl pc lv (.int i :: .ref (lo + a) :: st) h := a_aldq C ht d (aldn_some ho) kk
end Heap
end
section
/-! STORES OF REFERENCES, NEW CELLS, COPIES -/
theorem rf_up (lo : Nat) (f : Nat → Option Nat) (k : Nat) (r : Option Nat) : (fun j => va_rf (rl lo (va_up f k r j))) = updV (fun j => va_rf (rl lo (f j))) k (va_rf (rl lo r)) := by
  funext q
  by_cases hq : q = k <;> simp [updV, va_up, hq]
theorem isD_ca {c : Nat} (h : isD c = true) : ∃ CN, (∃ T, vwCl[c]? = some (CN, T, 4)) ∧ Cond.castable CN RX2 ∈ bwN := by
  simp only [isD, Bool.or_eq_true, beq_iff_eq] at h
  rcases h with (((h | h) | h) | h) | h <;> subst h
  · exact ⟨RX0, ⟨_, rfl⟩, by simp [bwN]⟩
  · exact ⟨RX1, ⟨_, rfl⟩, by simp [bwN]⟩
  · exact ⟨RX4, ⟨_, rfl⟩, by simp [bwN]⟩
  · exact ⟨RX5, ⟨_, rfl⟩, by simp [bwN]⟩
  · exact ⟨RX9, ⟨_, rfl⟩, by simp [bwN]⟩
/-- what stands in a row of references may be stored there -/
theorem okq_store {d : DD} {lo : Nat} {h : Hp} {H : Heap} {s : State} {args : Array Value} (hK : KK d s) (hH : HP d lo h H) {t v : Nat} (ho : okq h t (some v) = true) : ∃ (cellV : Cell) (kA kC kE : Class) (comp : ClassId) (E : String), (tysL d.2.2)[t]? = some (d.2.2 t, .object E) ∧ H[lo + v]? = some cellV ∧ cellV.vm = .none ∧ s.vm.classes[d.2.2 t]? = some kA ∧ kA.kind = .array comp (.object E) ∧ s.vm.classes[comp]? = some kE ∧ s.vm.classes[cellV.cls]? = some kC ∧ s.vm.assignable cellV.cls comp = true := by
  unfold okq at ho
  simp only at ho
  split at ho
  · next c fs hg =>
    obtain ⟨ha, hc⟩ := gO_some hg
    obtain ⟨r, h1, cell, q1, q2, q3, q4⟩ := hH.at ha hc
    obtain ⟨hSl, hfc, kC, hkC, hkind⟩ := hK.1.1 c _ h1
    simp only [Bool.or_eq_true, Bool.and_eq_true, beq_iff_eq] at ho
    rcases ho with (⟨rfl, rfl⟩ | ⟨rfl, rfl⟩) | ⟨rfl, hD⟩
    · obtain ⟨kA, comp, k1, k2, k3, -⟩ := (hK.1.2 2 _ rfl).2
      cases h1
      have hcomp : comp = d.1 7 := Option.some.inj (k3.symm.trans hfc)
      subst hcomp
      exact ⟨cell, kA, kC, kC, _, RX8, rfl, q1, q3, k1, k2, hkC, by rw [q2]; exact hkC, by rw [q2]; exact va_assign ⟨hfc, kC, hkC, hkind⟩⟩
    · obtain ⟨kA, comp, k1, k2, k3, -⟩ := (hK.1.2 3 _ rfl).2
      cases h1
      have hcomp : comp = d.1 2 := Option.some.inj (k3.symm.trans hfc)
      subst hcomp
      exact ⟨cell, kA, kC, kC, _, RX3, rfl, q1, q3, k1, k2, hkC, by rw [q2]; exact hkC, by rw [q2]; exact va_assign ⟨hfc, kC, hkC, hkind⟩⟩
    · obtain ⟨kA, comp, k1, k2, k3, -⟩ := (hK.1.2 4 _ rfl).2
      obtain ⟨kE, hkE, -⟩ := Vm.findClass_spec k3
      obtain ⟨CN, ⟨T, hT⟩, hca⟩ := isD_ca hD
      cases h1.symm.trans hT
      obtain ⟨c0, t1, f1, f2, f3⟩ := Cond.castable_spec (va_Nw.use (A := args) rfl (hK.2.1 _ hca))
      cases hfc.symm.trans f1
      cases k3.symm.trans f2
      exact ⟨cell, kA, kC, kE, _, RX2, rfl, q1, q3, k1, k2, hkE, by rw [q2]; exact hkC, by rw [q2]; exact f3⟩
  · cases ho
section Calls1
variable {G : Gm} {lo ce sl pc : Nat} {lv : List (Nat × Value)} {st : List Value} {h : Hp} {cc : ByteArray} {own : String} {ret : Option FieldType} {rm : Room} {nL0 : Nat}
theorem a_astq (C : CX G lo cc own ret rm nL0) {a t : Nat} {i : Int32} {r : Option Nat} {h' : Hp} (d : decode cc pc = .ok (.aastore, 1)) (ho : astq h a t i r = some h') (kk : AW G lo ce sl (pc + 1) lv st h') : AW G lo ce sl pc lv (va_rf (rl lo r) :: .int i :: .ref (lo + a) :: st) h := by
  obtain ⟨p, l, e, R, s, m, args, below, meth, c, Q, dd, nL⟩ := G
  obtain ⟨hx, hb, hr, hml, hown, hts, hlk, hK, hlo, rfl, rfl⟩ := C
  intro ls H locs hlv hH hS
  obtain ⟨n, f, h1, h2, h3, rfl⟩ := astq_some ho
  obtain ⟨ha, hc⟩ := gQ_some h1
  have hcell : H[lo + a]? = some (arrV (dd.2.2 t) n (fun j => va_rf (rl lo (f j)))) := hH.at ha hc
  have fin : ∀ H1 : Heap, H1[lo + a]? = some ((arrV (dd.2.2 t) n (fun j => va_rf (rl lo (f j)))).setSlot i.toNatClampNeg (va_rf (rl lo r))) → H1.size = H.size → (∀ q, q ≠ lo + a → H1[q]? = H[q]?) → W p l e R s m args below meth c H1 (locs ++ [⟨lo + a, i.toNatClampNeg⟩]) ce sl Q (F0 m (pc + 1) ls st) := by
    intro H1 e1 z oq
    refine kk ls H1 _ hlv (hH.up z oq ?_) (hS.put z oq (Nat.le_add_right lo a))
    show H1[lo + a]? = some (arrV (dd.2.2 t) n (fun j => va_rf (rl lo (va_up f i.toNatClampNeg r j))))
    rw [e1, arrV_store, rf_up]
  cases r with
  | none =>
    have ht : t = 4 := by simpa [okq] using h3
    subst ht
    exact va_WaastN (C := RX2) hx hb hcell ((hK.1.2 4 _ rfl).1 n (fun j => va_rf (rl lo (f j)))) (fun q => by cases q) (by rw [arrV_size]; exact h2) rfl rfl d fin
  | some v =>
    obtain ⟨cellV, kA, kC, kE, comp, E, -, g1, g2, g3, g4, g5, g6, g7⟩ := okq_store (args := args) hK hH h3
    exact W.aast hx hb hcell (fun q h => by cases h) (fun h => by cases h) g3 g4 rfl g5 ⟨fun q => h2 (Or.inl q), by rw [arrV_size]; exact Nat.not_le.mp fun q => h2 (Or.inr q)⟩ g1 (fun q h => by rw [g2] at h; cases h) g6 g7 rfl rfl d fin
theorem a_new (C : CX G lo cc own ret rm nL0) {ci idx N : Nat} {CN : String} {T : u_T} {ty : Nat → FieldType} (cb : CB ci CN T N ty) (fs : List Vl) (hcl : Cond.classLink own idx CN ∈ gw) (hins : Cond.instantiable CN N ∈ gw) (hini : Cond.initialized CN ∈ gw) (hfs : ∀ j, j < N → defaultValue (ty j) = vp_V (fs.map (vl 0)) j) (hf0 : fs.map (vl 0) = fs.map (vl lo)) (h1 : ce + 1 ≤ rm.cells) (h2 : sl + N ≤ rm.slots) (d : decode cc pc = .ok (.new idx, 3)) (kk : AW G lo (ce + 1) (sl + N) (pc + 3) lv (.ref (lo + h.1) :: st) (hnew h (.inr (.inr (ci, fs))))) : AW G lo ce sl pc lv st h := by
  obtain ⟨p, l, e, R, s, m, args, below, meth, c, Q, dd, nL⟩ := G
  obtain ⟨hx, hb, hr, hml, hown, hts, hlk, hK, hlo, rfl, rfl⟩ := C
  intro ls H locs hlv hH hS
  obtain ⟨hcb, hin, hty, hnm⟩ := cb
  have hKn := hK.1.1 ci _ hcb
  refine W.newcK hx hb hown (hts _ hcl) (hts _ hins) (hts _ hini) rfl d h1 h2 hKn.2.1 rfl fun H1 kC hkC e1 z1 o1 => ?_
  have hz : H.size = lo + h.1 := hH.1
  have hgo := kk ls H1 locs hlv (hH.push z1 o1 ⟨_, hcb, (u_born ty hts hin hKn hkC e1 hty).to (fun j hj => by rw [hfs j hj, hf0])⟩) ⟨Nat.le_trans hS.1 (by omega), fun x q1 q2 => (o1 x (Nat.lt_of_lt_of_le q1 hS.1)).trans (hS.2.1 x q1 q2), hS.2.2⟩
  rw [← hz] at hgo
  exact hgo
theorem a_newa (C : CX G lo cc own ret rm nL0) {n : Int32} {N : Nat} (hn : ¬ n < 0) (hN : n.toNatClampNeg = N) (hby : N * 8 ≤ 536870912) (h1 : ce + 1 ≤ rm.cells) (h2 : sl + N ≤ rm.slots) (d : decode cc pc = .ok (.newarray .int, 2)) (kk : AW G lo (ce + 1) (sl + N) (pc + 2) lv (.ref (lo + h.1) :: st) (hnew h (.inl (0, N, fun _ => 0)))) : AW G lo ce sl pc lv (.int n :: st) h := by
  obtain ⟨p, l, e, R, s, m, args, below, meth, c, Q, dd, nL⟩ := G
  obtain ⟨hx, hb, hr, hml, hown, hts, hlk, hK, hlo, rfl, rfl⟩ := C
  intro ls H locs hlv hH hS
  refine va_newaK (atype := .int) hx hb (hts _ ac_int) rfl d rfl hn hN (by show N * 4 ≤ _; omega) h1 h2 rfl fun H1 cA e1 z1 o1 hAr hNm => ?_
  have hz : H.size = lo + h.1 := hH.1
  have hcA : cA = dd.2.2 0 := Option.some.inj (hNm.symm.trans (hK.1.2 0 _ rfl).2)
  subst hcA
  have hgo := kk ls H1 locs hlv (hH.push z1 o1 e1) ⟨Nat.le_trans hS.1 (by omega), fun x q1 q2 => (o1 x (Nat.lt_of_lt_of_le q1 hS.1)).trans (hS.2.1 x q1 q2), hS.2.2⟩
  rw [← hz] at hgo
  exact hgo
theorem a_newz (C : CX G lo cc own ret rm nL0) {n : Int32} {N : Nat} (hn : ¬ n < 0) (hN : n.toNatClampNeg = N) (hby : N * 8 ≤ 536870912) (h1 : ce + 1 ≤ rm.cells) (h2 : sl + N ≤ rm.slots) (d : decode cc pc = .ok (.newarray .boolean, 2)) (kk : AW G lo (ce + 1) (sl + N) (pc + 2) lv (.ref (lo + h.1) :: st) (hnew h (.inl (1, N, fun _ => 0)))) : AW G lo ce sl pc lv (.int n :: st) h := by
  obtain ⟨p, l, e, R, s, m, args, below, meth, c, Q, dd, nL⟩ := G
  obtain ⟨hx, hb, hr, hml, hown, hts, hlk, hK, hlo, rfl, rfl⟩ := C
  intro ls H locs hlv hH hS
  refine va_newaK (atype := .boolean) hx hb (hts _ ac_boolean) rfl d rfl hn hN (by show N * 1 ≤ _; omega) h1 h2 rfl fun H1 cA e1 z1 o1 hAr hNm => ?_
  have hz : H.size = lo + h.1 := hH.1
  have hcA : cA = dd.2.2 1 := Option.some.inj (hNm.symm.trans (hK.1.2 1 _ rfl).2)
  subst hcA
  have hgo := kk ls H1 locs hlv (hH.push z1 o1 e1) ⟨Nat.le_trans hS.1 (by omega), fun x q1 q2 => (o1 x (Nat.lt_of_lt_of_le q1 hS.1)).trans (hS.2.1 x q1 q2), hS.2.2⟩
  rw [← hz] at hgo
  exact hgo
theorem tys_row {d : DD} {s : State} {cA : ClassId} {t : Nat} {E : String} (hK : KK d s) (ht : (tysL d.2.2)[t]? = some (d.2.2 t, .object E)) (hf : s.vm.findClass ("[" ++ (FieldType.object E).toString) = some cA) : cA = d.2.2 t := by
  obtain ⟨-, kA, comp, -, -, -, k4⟩ := hK.1.2 t _ ht
  exact Option.some.inj (hf.symm.trans k4)
theorem a_newq (C : CX G lo cc own ret rm nL0) {n : Int32} {N t idx : Nat} {E : String} (ht : ∀ dA, (tysL dA)[t]? = some (dA t, .object E)) (hao : ∀ d s, KK d s → va_AO E s) (hcl : Cond.classLink own idx E ∈ gw) (hn : ¬ n < 0) (hN : n.toNatClampNeg = N) (hby : N * 4 ≤ 536870912) (h1 : ce + 1 ≤ rm.cells) (h2 : sl + N ≤ rm.slots) (d : decode cc pc = .ok (.anewarray idx, 3)) (kk : AW G lo (ce + 1) (sl + N) (pc + 3) lv (.ref (lo + h.1) :: st) (hnew h (.inr (.inl (t, N, fun _ => none))))) : AW G lo ce sl pc lv (.int n :: st) h := by
  obtain ⟨p, l, e, R, s, m, args, below, meth, c, Q, dd, nL⟩ := G
  obtain ⟨hx, hb, hr, hml, hown, hts, hlk, hK, hlo, rfl, rfl⟩ := C
  intro ls H locs hlv hH hS
  subst hN
  refine W.anew hx hb hown (hts _ hcl) (va_AO.use (hao _ _ hK)) rfl d rfl hn hby h1 h2 fun cA kA comp f1 f2 f3 f4 => ?_
  have hz : H.size = lo + h.1 := hH.1
  have hcA : cA = dd.2.2 t := tys_row hK (ht _) f1
  subst hcA
  generalize hH1 : H.push ({ cls := dd.2.2 t, slots := Array.replicate n.toNatClampNeg .null, vm := .none } : Cell) = H1
  have z1 : H1.size = H.size + 1 := by rw [← hH1, Array.size_push]
  have e1 : H1[H.size]? = some (arrV (dd.2.2 t) n.toNatClampNeg (fun _ => .null)) := by rw [← hH1, Array.getElem?_push_size, ← arrV_new]
  have o1 : ∀ q : Nat, q < H.size → H1[q]? = H[q]? := fun q hq => by rw [← hH1, Array.getElem?_push, if_neg (Nat.ne_of_lt hq)]
  have hgo := kk ls H1 locs hlv (hH.push z1 o1 e1) ⟨Nat.le_trans hS.1 (by omega), fun x q1 q2 => (o1 x (Nat.lt_of_lt_of_le q1 hS.1)).trans (hS.2.1 x q1 q2), hS.2.2⟩
  rw [← hz] at hgo
  exact hgo
theorem acpy_some {h h' : Hp} {a0 a1 : Nat} {sp dp n : Int32} (e : acpy h a0 sp a1 dp n = some h') : ∃ n0 f n1 g, gA h a0 0 = some (n0, f) ∧ gA h a1 0 = some (n1, g) ∧ ¬ sp < 0 ∧ ¬ dp < 0 ∧ ¬ n < 0 ∧ sp.toNatClampNeg + n.toNatClampNeg ≤ n0 ∧ dp.toNatClampNeg + n.toNatClampNeg ≤ n1 ∧ h' = hup h a1 (.inl (0, n1, va_cpy f g sp.toNatClampNeg dp.toNatClampNeg n.toNatClampNeg)) := by
  unfold acpy at e
  split at e
  · next n0 f n1 g e0 e1 =>
    split at e
    · cases e
    · next q =>
      cases e
      refine ⟨n0, f, n1, g, e0, e1, fun z => q (Or.inl z), fun z => q (Or.inr (Or.inl z)), fun z => q (Or.inr (Or.inr (Or.inl z))), Nat.le_of_not_lt fun z => q (Or.inr (Or.inr (Or.inr (Or.inl z)))), Nat.le_of_not_lt fun z => q (Or.inr (Or.inr (Or.inr (Or.inr z)))), rfl⟩
  · cases e
theorem a_copy (C : CX G lo cc own ret rm nL0) {idx a0 a1 : Nat} {sp dp n : Int32} {h' : Hp} (hl : Cond.methodLink own idx arraycopyName ∈ gw) (hnat : Cond.native arraycopyName ∈ gw) (hstat : Cond.static arraycopyName ∈ gw) (hini : Cond.initialized "java/lang/System" ∈ gw) (hfr : 1 ≤ rm.frames) (hlc : (st.map fun v => v.category).sum + (nativeFrameWords "java/lang/System" "arraycopy" 5 + 11) ≤ rm.locals) (d : decode cc pc = .ok (.invokestatic idx, 3)) (ho : acpy h a0 sp a1 dp n = some h') (kk : AW G lo ce sl (pc + 3) lv st h') : AW G lo ce sl pc lv (.int n :: .int dp :: .ref (lo + a1) :: .int sp :: .ref (lo + a0) :: st) h := by
  obtain ⟨p, l, e, R, s, m, args, below, meth, c, Q, dd, nL⟩ := G
  obtain ⟨hx, hb, hr, hml, hown, hts, hlk, hK, hlo, rfl, rfl⟩ := C
  intro ls H locs hlv hH hS
  obtain ⟨n0, f, n1, g, e0, e1, h1, h2, h3, h4, h5, rfl⟩ := acpy_some ho
  obtain ⟨ha0, hc0'⟩ := gA_some e0
  obtain ⟨ha1, hc1'⟩ := gA_some e1
  have nn : ∀ z : Int32, ¬ z < 0 → z.toInt = (z.toNatClampNeg : Int) := by
    intro z hz
    have hz0 : (0 : Int) ≤ z.toInt := by
      have := Int32.not_lt.mp hz
      simpa using Int32.le_iff_toInt_le.mp this
    show z.toInt = ((z.toInt.toNat : Nat) : Int)
    omega
  intro T hT X
  have hc0 : H[lo + a0]? = some (vp_cell (dd.2.2 0) (n0, .inl f)) := hH.at ha0 hc0'
  have hc1 : H[lo + a1]? = some (vp_cell (dd.2.2 0) (n1, .inl g)) := hH.at ha1 hc1'
  obtain ⟨-, k0, hk0, cm0, hkk0⟩ := (hK.1.2 0 _ rfl).1 n0 (fun j => .int (f j))
  obtain ⟨-, k1, hk1, cm1, hkk1⟩ := (hK.1.2 0 _ rfl).1 n1 (fun j => .int (g j))
  obtain ⟨vm', X', step⟩ := X.arraycopy hx hown (hts _ hl) (hts _ hnat) (hts _ hstat) (hts _ hini) (src := lo + a0) (dst := lo + a1) (cs := vp_cell (dd.2.2 0) (n0, .inl f)) (cd := vp_cell (dd.2.2 0) (n1, .inl g)) (srcPos := sp) (destPos := dp) (n := n) (by rw [hT]; exact hc0) (by rw [hT]; exact hc1)
    (fun _ h => by cases h) (fun _ h => by cases h) (fun h => by cases h) (fun h => by cases h) hk0 hk1 hkk0 hkk1 (by simp [refKind]) h1 h2 h3
    (by rw [nn sp h1, nn n h3]; show ¬ _ > ((arrV (dd.2.2 0) n0 (fun j => .int (f j))).slots.size : Int); rw [arrV_size]; omega)
    (by rw [nn dp h2, nn n h3]; show ¬ _ > ((arrV (dd.2.2 0) n1 (fun j => .int (g j))).slots.size : Int); rw [arrV_size]; omega)
    (fun vm₁ _ i hi => by
      have e : (vp_cell (dd.2.2 0) (n0, .inl f)).slots.getD (sp.toNatClampNeg + i) .null = .int (f (sp.toNatClampNeg + i)) := by
        show (arrV (dd.2.2 0) n0 (fun j => .int (f j))).slots.getD _ _ = _
        rw [Array.getD_eq_getD_getElem?, arrV_read _ _ (by omega)]
        rfl
      refine ⟨?_, ?_⟩
      · rw [e]
        rfl
      · rw [e]
        exact trivial)
    (g := F0 m pc ls (.int n :: .int dp :: .ref (lo + a1) :: .int sp :: .ref (lo + a0) :: st)) rfl (by rw [hml]; exact hlv.1) (rest := st) rfl (by rw [hb]; exact d) hfr (by show 2 * 0 + _ + _ ≤ _; omega)
  have e1 : copied (vp_cell (dd.2.2 0) (n0, .inl f)) (vp_cell (dd.2.2 0) (n1, .inl g)) sp dp n = vp_cell (dd.2.2 0) (n1, .inl (va_cpy f g sp.toNatClampNeg dp.toNatClampNeg n.toNatClampNeg)) := va_copied (fun z => .int z) (dd.2.2 0) (dd.2.2 0) f g h4
  rw [e1] at X' step
  have hl : lo + a1 < H.size := (Array.getElem?_eq_some_iff.mp hc1).1
  have hheap : ((T.setVm vm').setCell (lo + a1) (vp_cell (dd.2.2 0) (n1, .inl (va_cpy f g sp.toNatClampNeg dp.toNatClampNeg n.toNatClampNeg)))).heap = H.setIfInBounds (lo + a1) (vp_cell (dd.2.2 0) (n1, .inl (va_cpy f g sp.toNatClampNeg dp.toNatClampNeg n.toNatClampNeg))) := by rw [← hT]; rfl
  have oq : ∀ q : Nat, q ≠ lo + a1 → (H.setIfInBounds (lo + a1) (vp_cell (dd.2.2 0) (n1, .inl (va_cpy f g sp.toNatClampNeg dp.toNatClampNeg n.toNatClampNeg))))[q]? = H[q]? := fun q hq => by simp [Array.getElem?_setIfInBounds, Ne.symm hq]
  obtain ⟨t, b1, b2⟩ := kk ls _ _ hlv (hH.up (a := a1) (c := .inl (0, n1, va_cpy f g sp.toNatClampNeg dp.toNatClampNeg n.toNatClampNeg)) (by simp) oq (show (H.setIfInBounds (lo + a1) _)[lo + a1]? = some _ by simp [Array.getElem?_setIfInBounds, hl])) ⟨by simp; exact hS.1, fun q g1 g2 => by
      rw [oq q (fun e => g2 (by rw [e]; exact Nat.le_add_right lo a1))]
      exact hS.2.1 q g1 g2, fun q hq => by
      rcases List.mem_append.mp hq with h | h
      · exact hS.2.2 q h
      · obtain ⟨z, -, hz⟩ := List.mem_map.mp h
        rw [← hz]
        exact Nat.le_add_right lo a1⟩ _ hheap X'
  exact ⟨t, step t b1, b2⟩
end Calls1
end
section
/-! A METHOD'S CONTRACT at one heap: from h with these arguments it returns rv, and the heap is h' -/
def MN (G : Gm) (nm : String) : Prop := match G with
  | (p, l, e, R, s, m, args, below, meth, c, Q, d, nL) => meth.name = nm
def QH (d : DD) (lo : Nat) (rv : Option Value) (h' : Hp) : Array Value → State → Outcome → State → Prop := fun _ st o t => o = .returned rv ∧ HP d lo h' t.heap ∧ va_F (fun q => lo ≤ q) st t
def AC (l : Launch) (d : DD) (lo : Nat) (y : MethodName) (cy : ByteArray) (nL : Nat) (ret : Option FieldType) (rm : Room) (as : List Value) (h : Hp) (rv : Option Value) (h' : Hp) : Prop :=
  Met l y (.code y cy nL ret :: gw) rm (va_Pc as (fun U => KK d U ∧ HP d lo h U.heap)) (QH d lo rv h') rm.cells rm.slots (fun q => lo ≤ q)
def RQ (G : Gm) (lo : Nat) (rv : Option Value) (h' : Hp) (mc ms : Nat) : Prop := match G with
  | (p, l, e, R, s, m, args, below, meth, c, Q, d, nL) => Q = MQ below (QH d lo rv h') args s mc ms (fun q => lo ≤ q)
theorem blind {as : List Value} {d : DD} {lo : Nat} {h : Hp} : FrameBlind (va_Pc as (fun U => KK d U ∧ HP d lo h U.heap)) := fun a U g mk q => ⟨q.1, KK.same (s := U) (U := U.calling g mk a) rfl q.2.1, q.2.2⟩
theorem AC_of {l : Launch} {d : DD} {lo : Nat} {y : MethodName} {cy : ByteArray} {nL : Nat} {ret : Option FieldType} {rm : Room} {as : List Value} {h : Hp} {rv : Option Value} {h' : Hp} (hy : plainName y.cls = true) (hargs : (lg_sl as).length ≤ nL)
    (core : ∀ G : Gm, CX G lo cy y.cls ret rm nL → MN G y.name → LD G = (l, d) → RQ G lo rv h' rm.cells rm.slots → AW G lo 0 0 0 (lv_args 0 as) [] h) : AC l d lo y cy nL ret rm as h rv h' := by
  refine Met.ofW (cc := cy) (maxL := nL) (ret := ret) hy rfl ?_
  intro p e s m args below meth c s₁ B hml hv
  obtain ⟨rfl, hK, hH⟩ := hv
  have hts := atoms_spec (ws := .code y cy nL ret :: gw) B.pre
  have hown : s.vm.findClass y.cls = some m.cls := findClass_of_methodNamed B.named
  have hn : meth.name = y.name := (name_of_methodNamed B.named B.method).1
  have hlo : lo ≤ s.heap.size := by rw [hH.1]; exact Nat.le_add_right _ _
  have K := core (p, l, e, (headSpec (.code y cy nL ret :: gw) rm).room, s, m, as.toArray, below, meth, c, _, d, nL) ⟨B.exec, B.bytes, B.returns, hml, hown, fun w hw => hts w (List.mem_cons_of_mem _ hw), B.notSynchronized, hK, hlo, rfl, rfl⟩ hn rfl rfl
  rw [lg_entry_eq]
  exact K _ s.heap [] (lv_entry as hargs) hH va_S.rf
/-- a method's own words -/
def MI (y : MethodName) (cy : ByteArray) (nL : Nat) (ret : Option FieldType) (n : Nat) : Prop := Cond.code y cy nL ret ∈ gw ∧ Cond.initialized y.cls ∈ gw ∧ (y.cls ≠ "java/lang/invoke/MethodHandle" ∧ y.cls ≠ "java/lang/invoke/VarHandle") ∧ (parseMethodDescriptor y.desc).map (fun d => d.parameters.length) = some n
theorem gw_all {args : Array Value} {s : State} (hts : ∀ w ∈ gw, w.before args s = true) {cw : Cond} (hc : cw ∈ gw) : ∀ w ∈ cw :: gw, ∀ (a' : Array Value) (U : State), s.WarmedH U.vm → w.before a' U = true := fun w hw a' U hW => by
  have hm : w ∈ gw := (List.mem_cons.mp hw).elim (fun e => e ▸ hc) id
  exact word_at hW (good_of_word (List.mem_filter.mp hm).2) (hts w hm)
theorem sig_len {desc : String} {n : Nat} (h : (parseMethodDescriptor desc).map (fun d => d.parameters.length) = some n) : ∀ sig, parseMethodDescriptor desc = some sig → n = sig.parameters.length := fun sig hs => by
  rw [hs] at h
  exact (Option.some.inj h).symm
theorem mk_callB {R : Room} {s : State} {args : Array Value} {own : String} {idx nL n : Nat} {y : MethodName} {cy : ByteArray} {ret : Option FieldType} {rm : Room} (hts : ∀ w ∈ gw, w.before args s = true) (mi : MI y cy nL ret n) (hl : Cond.methodLink own idx y ∈ gw) (hfr : rm.frames + 1 ≤ R.frames) (hlo : 8 + (nL + 11) + rm.locals ≤ R.locals) : CallB R s args own idx y cy nL ret (.code y cy nL ret :: gw) rm rm.cells rm.slots n :=
  ⟨rfl, rfl, hfr, hlo, gw_all hts mi.1, List.mem_cons_self, hts _ mi.1, hts _ mi.2.1, mi.2.2.1, sig_len mi.2.2.2, hts _ hl⟩
theorem run_k {p : Program} {l : Launch} {e : Env} {R : Room} {s : State} {m : MethodId} {args : Array Value} {below : List Frame} {meth : Method} {c : Code} {H : Heap} {locs : List Loc} {ce sl mc ms pc lo : Nat} {Q : State → Prop} {d : DD} {h' : Hp} {rv : Option Value} {ls : Array Slot} {st0 rest : List Value} {aa : Array Value}
    (hr : va_Run p l e R s m args below meth c H locs ce sl mc ms (F0 m pc ls st0) rest (QH d lo rv h' aa) (fun q => lo ≤ q)) (hS : va_S (fun q => lo ≤ q) s.heap H locs)
    (kk : ∀ (H1 : Heap) (locs1 : List Loc), HP d lo h' H1 → va_S (fun q => lo ≤ q) s.heap H1 locs1 → W p l e R s m args below meth c H1 locs1 (ce + mc) (sl + ms) Q (F0 m (pc + 3) ls (rv.toList ++ rest))) : W p l e R s m args below meth c H locs ce sl Q (F0 m pc ls st0) := by
  intro T hT X
  obtain ⟨v, st₀, t, T', L, e0, X', hL, e1, e2, ⟨hq1, hq2, hq3⟩, go⟩ := hr T hT X
  cases hq1
  rw [va_F, e0] at hq3
  obtain ⟨z, a1, b1⟩ := kk t.heap (locs ++ L) hq2 ⟨Nat.le_trans hS.1 hq3.1, fun q g1 g2 => (hq3.2 q (Nat.lt_of_lt_of_le g1 hS.1) g2).trans (hS.2.1 q g1 g2), fun q hq => (List.mem_append.mp hq).elim (hS.2.2 q) (hL q)⟩ T' e1 X'
  exact ⟨z, go z a1, b1⟩
section Calls2
variable {G : Gm} {lo ce sl pc : Nat} {lv : List (Nat × Value)} {st : List Value} {h : Hp} {cc : ByteArray} {own : String} {ret : Option FieldType} {rm : Room} {nL0 : Nat}
variable {y : MethodName} {cy : ByteArray} {nLy n idx : Nat} {rety : Option FieldType} {rmy : Room} {as rest : List Value} {rv : Option Value} {h' : Hp} {b ci : Nat} {fs : List Vl} {CN : String}
theorem recv {d : DD} {s : State} {H : Heap} (hK : KK d s) (hH : HP d lo h H) (ho : gO h b = some (ci, fs)) {T : u_T} {N : Nat} (hc : vwCl[ci]? = some (CN, T, N)) : ∃ cell : Cell, H[lo + b]? = some cell ∧ cell.vm.isStatics = false ∧ s.vm.findClass CN = some cell.cls := by
  obtain ⟨ha, hb⟩ := gO_some ho
  obtain ⟨r, h1, cell, q1, q2, q3, q4⟩ := hH.at ha hb
  cases h1.symm.trans hc
  exact ⟨cell, q1, by rw [q3]; rfl, by rw [q2]; exact (hK.1.1 ci _ hc).2.1⟩
theorem a_callV (C : CX G lo cc own ret rm nL0) (mi : MI y cy nLy rety n) (hin : Cond.instanceMethod y ∈ gw) {T : u_T} {N : Nat} {ty : Nat → FieldType} (cb : CB ci CN T N ty) (hse : Cond.selects CN y y ∈ gw) (hl : Cond.methodLink own idx y ∈ gw) (hn : as.length = n) (hfr : rmy.frames + 1 ≤ rm.frames) (hlo : 8 + (nLy + 11) + rmy.locals ≤ rm.locals) (hce : ce + rmy.cells ≤ rm.cells) (hsl : sl + rmy.slots ≤ rm.slots) (hcat : (rest.map fun v => v.category).sum ≤ 8) (d : decode cc pc = .ok (.invokevirtual idx, 3)) (ho : gO h b = some (ci, fs))
    (hM : ∀ l d, AC l d lo y cy nLy rety rmy (.ref (lo + b) :: as) h rv h') (hst : st = as.reverse ++ .ref (lo + b) :: rest) (k : AW G lo (ce + rmy.cells) (sl + rmy.slots) (pc + 3) lv (rv.toList ++ rest) h') : AW G lo ce sl pc lv st h := by
  obtain ⟨p, l, e, R, s, m, args, below, meth, c, Q, dd, nL⟩ := G
  obtain ⟨hx, hb, hr, hml, hown, hts, hlk, hK, hlo', rfl, rfl⟩ := C
  intro ls H locs hlv hH hS
  subst hst
  exact run_k (va_runV (As := as) (rest := rest) (Ts := gw) ⟨hx, hb, hml, hown, hts⟩ (hM l dd) ⟨mk_callB hts mi hl hfr hlo, hts _ hin, hts _ hse⟩ ⟨blind, recv hK hH ho cb.1, fun U hU hW => ⟨rfl, KK.warm hW hK, by rw [hU]; exact hH⟩⟩ rfl hn hlv.1 rfl (lv_room hcat) d ⟨hce, hsl⟩) hS (fun H1 locs1 hH1 hS1 => k ls H1 locs1 hlv hH1 hS1)
theorem a_callS (C : CX G lo cc own ret rm nL0) (mi : MI y cy nLy rety n) (hin : Cond.static y ∈ gw) (hl : Cond.methodLink own idx y ∈ gw) (hn : as.length = n) (hfr : rmy.frames + 1 ≤ rm.frames) (hlo : 8 + (nLy + 11) + rmy.locals ≤ rm.locals) (hce : ce + rmy.cells ≤ rm.cells) (hsl : sl + rmy.slots ≤ rm.slots) (hcat : (rest.map fun v => v.category).sum ≤ 8) (d : decode cc pc = .ok (.invokestatic idx, 3))
    (hM : ∀ l d, AC l d lo y cy nLy rety rmy as h rv h') (hst : st = as.reverse ++ rest) (k : AW G lo (ce + rmy.cells) (sl + rmy.slots) (pc + 3) lv (rv.toList ++ rest) h') : AW G lo ce sl pc lv st h := by
  obtain ⟨p, l, e, R, s, m, args, below, meth, c, Q, dd, nL⟩ := G
  obtain ⟨hx, hb, hr, hml, hown, hts, hlk, hK, hlo', rfl, rfl⟩ := C
  intro ls H locs hlv hH hS
  subst hst
  exact run_k (va_runS (As := as) (rest := rest) (Ts := gw) ⟨hx, hb, hml, hown, hts⟩ (hM l dd) ⟨mk_callB hts mi hl hfr hlo, hts _ hin⟩ ⟨blind, fun U hU hW => ⟨rfl, KK.warm hW hK, by rw [hU]; exact hH⟩⟩ rfl hn hlv.1 rfl (lv_room hcat) d ⟨hce, hsl⟩) hS (fun H1 locs1 hH1 hS1 => k ls H1 locs1 hlv hH1 hS1)
theorem a_callI (C : CX G lo cc own ret rm nL0) (mi : MI y cy nLy none n) (hnm : y.name = "<init>") (hin : Cond.instanceMethod y ∈ gw) (hl : Cond.methodLink own idx y ∈ gw) (hn : as.length = n) (hfr : rmy.frames + 1 ≤ rm.frames) (hlo : 8 + (nLy + 11) + rmy.locals ≤ rm.locals) (hce : ce + rmy.cells ≤ rm.cells) (hsl : sl + rmy.slots ≤ rm.slots) (hcat : (rest.map fun v => v.category).sum ≤ 8) (d : decode cc pc = .ok (.invokespecial idx, 3))
    (hM : ∀ l d, AC l d lo y cy nLy none rmy (.ref (lo + b) :: as) h rv h') (hst : st = as.reverse ++ .ref (lo + b) :: rest) (k : AW G lo (ce + rmy.cells) (sl + rmy.slots) (pc + 3) lv (rv.toList ++ rest) h') : AW G lo ce sl pc lv st h := by
  obtain ⟨p, l, e, R, s, m, args, below, meth, c, Q, dd, nL⟩ := G
  obtain ⟨hx, hb, hr, hml, hown, hts, hlk, hK, hlo', rfl, rfl⟩ := C
  intro ls H locs hlv hH hS
  subst hst
  exact run_k (va_runI (As := as) (rest := rest) (Ts := gw) ⟨hx, hb, hml, hown, hts⟩ (hM l dd) ⟨mk_callB hts mi hl hfr hlo, hnm, hts _ hin⟩ ⟨blind, fun U hU hW => ⟨rfl, KK.warm hW hK, by rw [hU]; exact hH⟩⟩ rfl hn hlv.1 rfl (lv_room hcat) d ⟨hce, hsl⟩) hS (fun H1 locs1 hH1 hS1 => k ls H1 locs1 hlv hH1 hS1)
theorem a_callIN (C : CX G lo cc own ret rm nL0) (mi : MI y cy nLy none n) (hnm : y.name = "<init>") (hin : Cond.instanceMethod y ∈ gw) {host : String} (hl : Cond.methodLinkNest own idx y host ∈ bwN) (hn : as.length = n) (hfr : rmy.frames + 1 ≤ rm.frames) (hlo : 8 + (nLy + 11) + rmy.locals ≤ rm.locals) (hce : ce + rmy.cells ≤ rm.cells) (hsl : sl + rmy.slots ≤ rm.slots) (hcat : (rest.map fun v => v.category).sum ≤ 8) (d : decode cc pc = .ok (.invokespecial idx, 3))
    (hM : ∀ l d, AC l d lo y cy nLy none rmy (.ref (lo + b) :: as) h rv h') (hst : st = as.reverse ++ .ref (lo + b) :: rest) (k : AW G lo (ce + rmy.cells) (sl + rmy.slots) (pc + 3) lv (rv.toList ++ rest) h') : AW G lo ce sl pc lv st h := by
  obtain ⟨p, l, e, R, s, m, args, below, meth, c, Q, dd, nL⟩ := G
  obtain ⟨hx, hb, hr, hml, hown, hts, hlk, hK, hlo', rfl, rfl⟩ := C
  intro ls H locs hlv hH hS
  subst hst
  exact run_k (va_runIN (As := as) (rest := rest) (Ts := gw) (host := host) ⟨hx, hb, hml, hown, hts⟩ (hM l dd) ⟨⟨⟨rfl, rfl, hfr, hlo, gw_all hts mi.1, List.mem_cons_self⟩, hts _ mi.1, hts _ mi.2.1, mi.2.2.1, sig_len mi.2.2.2, va_Nw.use rfl (hK.2.1 _ hl)⟩, hnm, hts _ hin⟩ ⟨blind, fun U hU hW => ⟨rfl, KK.warm hW hK, by rw [hU]; exact hH⟩⟩ rfl hn hlv.1 rfl (lv_room hcat) d ⟨hce, hsl⟩) hS (fun H1 locs1 hH1 hS1 => k ls H1 locs1 hlv hH1 hS1)
/-- what a call by a name of another class asks of the tables: declared there, or with code there -/
def DU (x : MethodName) : Prop := Cond.declares x ∈ bwN ∨ (Cond.instanceMethod x ∈ gw ∧ ∃ b0 m0 r0, Cond.code x b0 m0 r0 ∈ gw)
theorem a_callU (C : CX G lo cc own ret rm nL0) {x : MethodName} {owner : String} (mi : MI y cy nLy rety n) (hin : Cond.instanceMethod y ∈ gw) {T : u_T} {N : Nat} {ty : Nat → FieldType} (cb : CB ci CN T N ty) (hse : Cond.selects CN x y ∈ gw) (hsm : Cond.sameMethod x.cls owner x.name x.desc ∈ gw) (hdu : DU ⟨owner, x.name, x.desc⟩) (how : owner ≠ "java/lang/invoke/MethodHandle" ∧ owner ≠ "java/lang/invoke/VarHandle") (hxd : x.desc = y.desc) (hl : Cond.methodLink own idx x ∈ gw) (hn : as.length = n) (hfr : rmy.frames + 1 ≤ rm.frames) (hlo : 8 + (nLy + 11) + rmy.locals ≤ rm.locals) (hce : ce + rmy.cells ≤ rm.cells) (hsl : sl + rmy.slots ≤ rm.slots) (hcat : (rest.map fun v => v.category).sum ≤ 8) (d : decode cc pc = .ok (.invokevirtual idx, 3)) (ho : gO h b = some (ci, fs))
    (hM : ∀ l d, AC l d lo y cy nLy rety rmy (.ref (lo + b) :: as) h rv h') (hst : st = as.reverse ++ .ref (lo + b) :: rest) (k : AW G lo (ce + rmy.cells) (sl + rmy.slots) (pc + 3) lv (rv.toList ++ rest) h') : AW G lo ce sl pc lv st h := by
  obtain ⟨p, l, e, R, s, m, args, below, meth, c, Q, dd, nL⟩ := G
  obtain ⟨hx, hb, hr, hml, hown, hts, hlk, hK, hlo', rfl, rfl⟩ := C
  intro ls H locs hlv hH hS
  subst hst
  have hdecl : va_Decl s ⟨owner, x.name, x.desc⟩ := hdu.elim (fun q => va_Decl.abs (hK.2.1 _ q)) (fun q => by obtain ⟨q1, b0, m0, r0, q2⟩ := q; exact va_Decl.of (hts _ q1) (hts _ q2))
  exact run_k (va_runU (As := as) (rest := rest) (Ts := gw) (x := x) (owner := owner) ⟨hx, hb, hml, hown, hts⟩ (hM l dd) ⟨⟨rfl, rfl, hfr, hlo, gw_all hts mi.1, List.mem_cons_self⟩, hts _ mi.1, hts _ mi.2.1, how, by rw [hxd]; exact sig_len mi.2.2.2, hts _ hl, hts _ hsm, hdecl, hts _ hse, hts _ hin⟩ ⟨blind, recv hK hH ho cb.1, fun U hU hW => ⟨rfl, KK.warm hW hK, by rw [hU]; exact hH⟩⟩ rfl hn hlv.1 rfl (lv_room hcat) d ⟨hce, hsl⟩) hS (fun H1 locs1 hH1 hS1 => k ls H1 locs1 hlv hH1 hS1)
theorem a_callSU (C : CX G lo cc own ret rm nL0) (mi : MI y cy nLy rety n) (hnm : y.name ≠ "<init>") (hin : Cond.instanceMethod y ∈ gw) {T : u_T} {N : Nat} {ty : Nat → FieldType} (cb : CB ci CN T N ty) (hsm : Cond.sameMethod y.cls y.cls y.name y.desc ∈ gw) (hsu : Cond.superclass own y.cls ∈ gw) (hl : Cond.methodLink own idx y ∈ gw) (hn : as.length = n) (hfr : rmy.frames + 1 ≤ rm.frames) (hlo : 8 + (nLy + 11) + rmy.locals ≤ rm.locals) (hce : ce + rmy.cells ≤ rm.cells) (hsl : sl + rmy.slots ≤ rm.slots) (hcat : (rest.map fun v => v.category).sum ≤ 8) (d : decode cc pc = .ok (.invokespecial idx, 3)) (ho : gO h b = some (ci, fs))
    (hM : ∀ l d, AC l d lo y cy nLy rety rmy (.ref (lo + b) :: as) h rv h') (hst : st = as.reverse ++ .ref (lo + b) :: rest) (k : AW G lo (ce + rmy.cells) (sl + rmy.slots) (pc + 3) lv (rv.toList ++ rest) h') : AW G lo ce sl pc lv st h := by
  obtain ⟨p, l, e, R, s, m, args, below, meth, c, Q, dd, nL⟩ := G
  obtain ⟨hx, hb, hr, hml, hown, hts, hlk, hK, hlo', rfl, rfl⟩ := C
  intro ls H locs hlv hH hS
  subst hst
  exact run_k (va_runSU (As := as) (rest := rest) (Ts := gw) (hK.1.1 ci _ cb.1).2 ⟨hx, hb, hml, hown, hts⟩ (hM l dd) ⟨⟨rfl, rfl, hfr, hlo, gw_all hts mi.1, List.mem_cons_self⟩, hts _ hl, hts _ hsm, hts _ hsu, hts _ hin, hts _ mi.2.1, hts _ mi.1, hnm, sig_len mi.2.2.2⟩ ⟨blind, recv hK hH ho cb.1, fun U hU hW => ⟨rfl, KK.warm hW hK, by rw [hU]; exact hH⟩⟩ rfl hn hlv.1 rfl (lv_room hcat) d ⟨hce, hsl⟩) hS (fun H1 locs1 hH1 hS1 => k ls H1 locs1 hlv hH1 hS1)
theorem a_objinit (C : CX G lo cc own ret rm nL0) {x : Nat} (hl : Cond.methodLink own idx objectInit ∈ gw) (hin : Cond.instanceMethod objectInit ∈ gw) (hco : Cond.code objectInit ⟨#[0xb1]⟩ 1 none ∈ gw) (hfr : 1 ≤ rm.frames) (hlc : (st.map fun v => v.category).sum + 12 ≤ rm.locals) (d : decode cc pc = .ok (.invokespecial idx, 3)) (k : AW G lo ce sl (pc + 3) lv st h) : AW G lo ce sl pc lv (.ref x :: st) h := by
  obtain ⟨p, l, e, R, s, m, args, below, meth, c, Q, dd, nL⟩ := G
  obtain ⟨hx, hb, hr, hml, hown, hts, hlk, hK, hlo', rfl, rfl⟩ := C
  exact fun ls H locs hlv hH hS => W.objInit hx hb hown (hts _ hl) (hts _ hin) (hts _ hco) rfl (by rw [hml]; exact hlv.1) rfl d hfr (by show 2 * 0 + _ + 12 ≤ _; omega) (k ls H locs hlv hH hS)
theorem a_mmax (C : CX G lo cc own ret rm nL0) {x y : Int32} (hl : Cond.methodLink own idx Lib.Math.max.name ∈ gw) (hst : Cond.static Lib.Math.max.name ∈ gw) (hini : Cond.initialized "java/lang/Math" ∈ gw) (hco : Cond.code Lib.Math.max.name Lib.Math.max.code 2 (some .int) ∈ gw) (hfr : 1 ≤ rm.frames) (hlc : (st.map fun v => v.category).sum + 13 ≤ rm.locals) (hce : ce ≤ rm.cells) (hsl : sl ≤ rm.slots) (d : decode cc pc = .ok (.invokestatic idx, 3)) (k : AW G lo ce sl (pc + 3) lv (.int (if x < y then y else x) :: st) h) : AW G lo ce sl pc lv (.int y :: .int x :: st) h := by
  obtain ⟨p, l, e, R, s, m, args, below, meth, c, Q, dd, nL⟩ := G
  obtain ⟨hx, hb, hr, hml, hown, hts, hlk, hK, hlo', rfl, rfl⟩ := C
  exact fun ls H locs hlv hH hS => va_mmax hx hb (by rw [hml]; exact hlv.1.symm) hown (hts _ hl) (hts _ hst) (hts _ hini) (hts _ hco) hfr hlc hce hsl d (k ls H locs hlv hH hS)
theorem a_iret (C : CX G lo cc own (some .int) rm nL0) {x : Int32} {mc ms : Nat} (q : RQ G lo (some (.int x)) h mc ms) (h1 : ce ≤ mc) (h2 : sl ≤ ms) (d : decode cc pc = .ok (.ireturn, 1)) : AW G lo ce sl pc lv [.int x] h := by
  obtain ⟨p, l, e, R, s, m, args, below, meth, c, Q, dd, nL⟩ := G
  obtain ⟨hx, hb, hr, hml, hown, hts, hlk, hK, hlo', rfl, rfl⟩ := C
  subst q
  exact fun ls H locs hlv hH hS => W.widen h1 h2 (W.iret hx hb hr (fun t ht hW => ⟨rfl, by rw [ht]; exact hH, hS.F ht⟩) hS.2.2 d hlk)
theorem a_zret (C : CX G lo cc own (some .boolean) rm nL0) {x : Int32} {mc ms : Nat} (q : RQ G lo (some (.int x)) h mc ms) (hx1 : x = 0 ∨ x = 1) (h1 : ce ≤ mc) (h2 : sl ≤ ms) (d : decode cc pc = .ok (.ireturn, 1)) : AW G lo ce sl pc lv [.int x] h := by
  obtain ⟨p, l, e, R, s, m, args, below, meth, c, Q, dd, nL⟩ := G
  obtain ⟨hx, hb, hr, hml, hown, hts, hlk, hK, hlo', rfl, rfl⟩ := C
  subst q
  exact fun ls H locs hlv hH hS => W.widen h1 h2 (W.zret hx hb hr (by rcases hx1 with rfl | rfl <;> rfl) (fun t ht hW => ⟨rfl, by rw [ht]; exact hH, hS.F ht⟩) hS.2.2 d hlk)
theorem a_lret (C : CX G lo cc own (some .long) rm nL0) {x : Int64} {mc ms : Nat} (q : RQ G lo (some (.long x)) h mc ms) (h1 : ce ≤ mc) (h2 : sl ≤ ms) (d : decode cc pc = .ok (.lreturn, 1)) : AW G lo ce sl pc lv [.long x] h := by
  obtain ⟨p, l, e, R, s, m, args, below, meth, c, Q, dd, nL⟩ := G
  obtain ⟨hx, hb, hr, hml, hown, hts, hlk, hK, hlo', rfl, rfl⟩ := C
  subst q
  exact fun ls H locs hlv hH hS => W.widen h1 h2 (W.lret hx hb hr (fun t ht hW => ⟨rfl, by rw [ht]; exact hH, hS.F ht⟩) hS.2.2 d hlk)
theorem a_vret (C : CX G lo cc own none rm nL0) {mc ms : Nat} (q : RQ G lo none h mc ms) (h1 : ce ≤ mc) (h2 : sl ≤ ms) (d : decode cc pc = .ok (.return_, 1)) : AW G lo ce sl pc lv [] h := by
  obtain ⟨p, l, e, R, s, m, args, below, meth, c, Q, dd, nL⟩ := G
  obtain ⟨hx, hb, hr, hml, hown, hts, hlk, hK, hlo', rfl, rfl⟩ := C
  subst q
  exact fun ls H locs hlv hH hS => W.widen h1 h2 (W.vret hx hb hr (fun t ht hW => ⟨rfl, by rw [ht]; exact hH, hS.F ht⟩) hS.2.2 d hlk)
theorem a_aret {E : String} (C : CX G lo cc own (some (.object E)) rm nL0) {r : Option Nat} {mc ms : Nat} (q : RQ G lo (some (va_rf (rl lo r))) h mc ms) (h1 : ce ≤ mc) (h2 : sl ≤ ms) (d : decode cc pc = .ok (.areturn, 1)) : AW G lo ce sl pc lv [va_rf (rl lo r)] h := by
  obtain ⟨p, l, e, R, s, m, args, below, meth, c, Q, dd, nL⟩ := G
  obtain ⟨hx, hb, hr, hml, hown, hts, hlk, hK, hlo', rfl, rfl⟩ := C
  subst q
  exact fun ls H locs hlv hH hS => W.widen h1 h2 (W.aret hx hb hr (Or.inl ⟨_, rfl⟩) (by cases r; exact Or.inl rfl; exact Or.inr ⟨_, rfl⟩) (fun t ht hW => ⟨rfl, by rw [ht]; exact hH, hS.F ht⟩) hS.2.2 d hlk)
end Calls2
end
