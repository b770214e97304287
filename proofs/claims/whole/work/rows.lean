section
/-- a private method of a class that the tables say can be made, by its rows of tables_1 -/
def lw_okq (q : MethodName × Nat) : Prop := (q.1.cls ≠ "java/lang/invoke/MethodHandle" ∧ q.1.cls ≠ "java/lang/invoke/VarHandle") ∧ Cond.instantiable q.1.cls q.2 ∈ tables_1 ∧ Cond.privateMethod q.1 ∈ tables_1 ∧ Cond.instanceMethod q.1 ∈ tables_1
theorem lw_p0 : lw_okq (⟨"OneBack$Reader", "begin", "([BI)V"⟩, 16) := ⟨⟨by decide +kernel, by decide +kernel⟩, List.mem_of_getElem? (i := 241) (by decide +kernel), List.mem_of_getElem? (i := 472) (by decide +kernel), List.mem_of_getElem? (i := 473) (by decide +kernel)⟩
theorem lw_p1 : lw_okq (⟨"OneBack$Reader", "step", "()V"⟩, 16) := ⟨⟨by decide +kernel, by decide +kernel⟩, List.mem_of_getElem? (i := 241) (by decide +kernel), List.mem_of_getElem? (i := 486) (by decide +kernel), List.mem_of_getElem? (i := 487) (by decide +kernel)⟩
theorem lw_p2 : lw_okq (⟨"OneBack$Reader", "byteAt", "(I)I"⟩, 16) := ⟨⟨by decide +kernel, by decide +kernel⟩, List.mem_of_getElem? (i := 241) (by decide +kernel), List.mem_of_getElem? (i := 490) (by decide +kernel), List.mem_of_getElem? (i := 491) (by decide +kernel)⟩
theorem lw_p3 : lw_okq (⟨"OneBack$Reader", "stepNumber", "()V"⟩, 16) := ⟨⟨by decide +kernel, by decide +kernel⟩, List.mem_of_getElem? (i := 241) (by decide +kernel), List.mem_of_getElem? (i := 503) (by decide +kernel), List.mem_of_getElem? (i := 504) (by decide +kernel)⟩
theorem lw_p4 : lw_okq (⟨"OneBack$Reader", "readLine", "(I)V"⟩, 16) := ⟨⟨by decide +kernel, by decide +kernel⟩, List.mem_of_getElem? (i := 241) (by decide +kernel), List.mem_of_getElem? (i := 507) (by decide +kernel), List.mem_of_getElem? (i := 508) (by decide +kernel)⟩
theorem lw_p5 : lw_okq (⟨"OneBack$Reader", "lineOf", "(I)I"⟩, 16) := ⟨⟨by decide +kernel, by decide +kernel⟩, List.mem_of_getElem? (i := 241) (by decide +kernel), List.mem_of_getElem? (i := 511) (by decide +kernel), List.mem_of_getElem? (i := 512) (by decide +kernel)⟩
theorem lw_p6 : lw_okq (⟨"OneBack$Reader", "isWord", "(Ljava/lang/String;)Z"⟩, 16) := ⟨⟨by decide +kernel, by decide +kernel⟩, List.mem_of_getElem? (i := 241) (by decide +kernel), List.mem_of_getElem? (i := 539) (by decide +kernel), List.mem_of_getElem? (i := 540) (by decide +kernel)⟩
theorem lw_p7 : lw_okq (⟨"OneBack$Reader", "breakOff", "()V"⟩, 16) := ⟨⟨by decide +kernel, by decide +kernel⟩, List.mem_of_getElem? (i := 241) (by decide +kernel), List.mem_of_getElem? (i := 591) (by decide +kernel), List.mem_of_getElem? (i := 592) (by decide +kernel)⟩
theorem lw_p8 : lw_okq (⟨"OneBack$Reader", "isFull", "(I)Z"⟩, 16) := ⟨⟨by decide +kernel, by decide +kernel⟩, List.mem_of_getElem? (i := 241) (by decide +kernel), List.mem_of_getElem? (i := 595) (by decide +kernel), List.mem_of_getElem? (i := 596) (by decide +kernel)⟩
theorem lw_p9 : lw_okq (⟨"OneBack$Reader", "note", "(II)V"⟩, 16) := ⟨⟨by decide +kernel, by decide +kernel⟩, List.mem_of_getElem? (i := 241) (by decide +kernel), List.mem_of_getElem? (i := 599) (by decide +kernel), List.mem_of_getElem? (i := 600) (by decide +kernel)⟩
theorem lw_p10 : lw_okq (⟨"OneBack$Reader", "readNumber", "(II)V"⟩, 16) := ⟨⟨by decide +kernel, by decide +kernel⟩, List.mem_of_getElem? (i := 241) (by decide +kernel), List.mem_of_getElem? (i := 605) (by decide +kernel), List.mem_of_getElem? (i := 606) (by decide +kernel)⟩
theorem lw_p11 : lw_okq (⟨"OneBack$Reader", "keepLine", "(I)V"⟩, 16) := ⟨⟨by decide +kernel, by decide +kernel⟩, List.mem_of_getElem? (i := 241) (by decide +kernel), List.mem_of_getElem? (i := 613) (by decide +kernel), List.mem_of_getElem? (i := 614) (by decide +kernel)⟩
theorem lw_p12 : lw_okq (⟨"OneBack$Reader", "keepTown", "(I)V"⟩, 16) := ⟨⟨by decide +kernel, by decide +kernel⟩, List.mem_of_getElem? (i := 241) (by decide +kernel), List.mem_of_getElem? (i := 617) (by decide +kernel), List.mem_of_getElem? (i := 618) (by decide +kernel)⟩
theorem lw_p13 : lw_okq (⟨"OneBack$Reader", "keepLaw", "(I)V"⟩, 16) := ⟨⟨by decide +kernel, by decide +kernel⟩, List.mem_of_getElem? (i := 241) (by decide +kernel), List.mem_of_getElem? (i := 631) (by decide +kernel), List.mem_of_getElem? (i := 632) (by decide +kernel)⟩
theorem lw_p14 : lw_okq (⟨"OneBack", "walkTo", "(IIII)Z"⟩, 6) := ⟨⟨by decide +kernel, by decide +kernel⟩, List.mem_of_getElem? (i := 21) (by decide +kernel), List.mem_of_getElem? (i := 735) (by decide +kernel), List.mem_of_getElem? (i := 736) (by decide +kernel)⟩
theorem lw_p15 : lw_okq (⟨"OneBack$Walk", "act", "(LOneBack$Nights;I)Z"⟩, 17) := ⟨⟨by decide +kernel, by decide +kernel⟩, List.mem_of_getElem? (i := 310) (by decide +kernel), List.mem_of_getElem? (i := 750) (by decide +kernel), List.mem_of_getElem? (i := 751) (by decide +kernel)⟩
def lw_privs_1 : List (MethodName × Nat) := [(⟨"OneBack$Reader", "begin", "([BI)V"⟩, 16), (⟨"OneBack$Reader", "step", "()V"⟩, 16), (⟨"OneBack$Reader", "byteAt", "(I)I"⟩, 16), (⟨"OneBack$Reader", "stepNumber", "()V"⟩, 16), (⟨"OneBack$Reader", "readLine", "(I)V"⟩, 16), (⟨"OneBack$Reader", "lineOf", "(I)I"⟩, 16), (⟨"OneBack$Reader", "isWord", "(Ljava/lang/String;)Z"⟩, 16), (⟨"OneBack$Reader", "breakOff", "()V"⟩, 16), (⟨"OneBack$Reader", "isFull", "(I)Z"⟩, 16), (⟨"OneBack$Reader", "note", "(II)V"⟩, 16), (⟨"OneBack$Reader", "readNumber", "(II)V"⟩, 16), (⟨"OneBack$Reader", "keepLine", "(I)V"⟩, 16), (⟨"OneBack$Reader", "keepTown", "(I)V"⟩, 16), (⟨"OneBack$Reader", "keepLaw", "(I)V"⟩, 16), (⟨"OneBack", "walkTo", "(IIII)Z"⟩, 6), (⟨"OneBack$Walk", "act", "(LOneBack$Nights;I)Z"⟩, 17)]
theorem lw_r1 : ∀ q ∈ lw_privs_1, lw_okq q := List.forall_mem_cons.mpr ⟨lw_p0, List.forall_mem_cons.mpr ⟨lw_p1, List.forall_mem_cons.mpr ⟨lw_p2, List.forall_mem_cons.mpr ⟨lw_p3, List.forall_mem_cons.mpr ⟨lw_p4, List.forall_mem_cons.mpr ⟨lw_p5, List.forall_mem_cons.mpr ⟨lw_p6, List.forall_mem_cons.mpr ⟨lw_p7, List.forall_mem_cons.mpr ⟨lw_p8, List.forall_mem_cons.mpr ⟨lw_p9, List.forall_mem_cons.mpr ⟨lw_p10, List.forall_mem_cons.mpr ⟨lw_p11, List.forall_mem_cons.mpr ⟨lw_p12, List.forall_mem_cons.mpr ⟨lw_p13, List.forall_mem_cons.mpr ⟨lw_p14, List.forall_mem_cons.mpr ⟨lw_p15, fun _ h => absurd h List.not_mem_nil⟩⟩⟩⟩⟩⟩⟩⟩⟩⟩⟩⟩⟩⟩⟩⟩
theorem lw_p16 : lw_okq (⟨"OneBack", "walkJust", "(IIII)Z"⟩, 6) := ⟨⟨by decide +kernel, by decide +kernel⟩, List.mem_of_getElem? (i := 21) (by decide +kernel), List.mem_of_getElem? (i := 802) (by decide +kernel), List.mem_of_getElem? (i := 803) (by decide +kernel)⟩
theorem lw_p17 : lw_okq (⟨"OneBack$Supply", "carryGood", "(LOneBack$Town;I)I"⟩, 2) := ⟨⟨by decide +kernel, by decide +kernel⟩, List.mem_of_getElem? (i := 385) (by decide +kernel), List.mem_of_getElem? (i := 896) (by decide +kernel), List.mem_of_getElem? (i := 897) (by decide +kernel)⟩
theorem lw_p18 : lw_okq (⟨"OneBack$Supply", "leastOf", "(II)I"⟩, 2) := ⟨⟨by decide +kernel, by decide +kernel⟩, List.mem_of_getElem? (i := 385) (by decide +kernel), List.mem_of_getElem? (i := 903) (by decide +kernel), List.mem_of_getElem? (i := 904) (by decide +kernel)⟩
theorem lw_p19 : lw_okq (⟨"OneBack$Sight", "alike", "(III)I"⟩, 4) := ⟨⟨by decide +kernel, by decide +kernel⟩, List.mem_of_getElem? (i := 175) (by decide +kernel), List.mem_of_getElem? (i := 950) (by decide +kernel), List.mem_of_getElem? (i := 951) (by decide +kernel)⟩
theorem lw_p20 : lw_okq (⟨"OneBack$Sight", "waysOf", "(LOneBack$Walk;III)I"⟩, 4) := ⟨⟨by decide +kernel, by decide +kernel⟩, List.mem_of_getElem? (i := 175) (by decide +kernel), List.mem_of_getElem? (i := 954) (by decide +kernel), List.mem_of_getElem? (i := 955) (by decide +kernel)⟩
theorem lw_p21 : lw_okq (⟨"OneBack$Sight", "isTold", "(LOneBack$Town;I)Z"⟩, 4) := ⟨⟨by decide +kernel, by decide +kernel⟩, List.mem_of_getElem? (i := 175) (by decide +kernel), List.mem_of_getElem? (i := 976) (by decide +kernel), List.mem_of_getElem? (i := 977) (by decide +kernel)⟩
theorem lw_p22 : lw_okq (⟨"OneBack$Sight", "movedOf", "(LOneBack$Town;IZ)I"⟩, 4) := ⟨⟨by decide +kernel, by decide +kernel⟩, List.mem_of_getElem? (i := 175) (by decide +kernel), List.mem_of_getElem? (i := 981) (by decide +kernel), List.mem_of_getElem? (i := 982) (by decide +kernel)⟩
theorem lw_p23 : lw_okq (⟨"OneBack$Town", "isBest", "(II)Z"⟩, 10) := ⟨⟨by decide +kernel, by decide +kernel⟩, List.mem_of_getElem? (i := 42) (by decide +kernel), List.mem_of_getElem? (i := 1029) (by decide +kernel), List.mem_of_getElem? (i := 1030) (by decide +kernel)⟩
theorem lw_p24 : lw_okq (⟨"OneBack$Walk", "drawDeeds", "(I)V"⟩, 17) := ⟨⟨by decide +kernel, by decide +kernel⟩, List.mem_of_getElem? (i := 310) (by decide +kernel), List.mem_of_getElem? (i := 1060) (by decide +kernel), List.mem_of_getElem? (i := 1061) (by decide +kernel)⟩
theorem lw_p25 : lw_okq (⟨"OneBack$Walk", "drawBelow", "(I)I"⟩, 17) := ⟨⟨by decide +kernel, by decide +kernel⟩, List.mem_of_getElem? (i := 310) (by decide +kernel), List.mem_of_getElem? (i := 1064) (by decide +kernel), List.mem_of_getElem? (i := 1065) (by decide +kernel)⟩
theorem lw_p26 : lw_okq (⟨"OneBack$Walk", "giveLeast", "(I)Z"⟩, 17) := ⟨⟨by decide +kernel, by decide +kernel⟩, List.mem_of_getElem? (i := 310) (by decide +kernel), List.mem_of_getElem? (i := 1069) (by decide +kernel), List.mem_of_getElem? (i := 1070) (by decide +kernel)⟩
theorem lw_p27 : lw_okq (⟨"OneBack$Porter", "pick", "(IIII)V"⟩, 5) := ⟨⟨by decide +kernel, by decide +kernel⟩, List.mem_of_getElem? (i := 398) (by decide +kernel), List.mem_of_getElem? (i := 1126) (by decide +kernel), List.mem_of_getElem? (i := 1127) (by decide +kernel)⟩
theorem lw_p28 : lw_okq (⟨"OneBackModel", "four", "(I)V"⟩, 51) := ⟨⟨by decide +kernel, by decide +kernel⟩, List.mem_of_getElem? (i := 1182) (by decide +kernel), List.mem_of_getElem? (i := 1347) (by decide +kernel), List.mem_of_getElem? (i := 1348) (by decide +kernel)⟩
theorem lw_p29 : lw_okq (⟨"OneBackModel", "is", "(II)Z"⟩, 51) := ⟨⟨by decide +kernel, by decide +kernel⟩, List.mem_of_getElem? (i := 1182) (by decide +kernel), List.mem_of_getElem? (i := 1362) (by decide +kernel), List.mem_of_getElem? (i := 1363) (by decide +kernel)⟩
theorem lw_p30 : lw_okq (⟨"OneBackModel", "readText", "(I)Z"⟩, 51) := ⟨⟨by decide +kernel, by decide +kernel⟩, List.mem_of_getElem? (i := 1182) (by decide +kernel), List.mem_of_getElem? (i := 1366) (by decide +kernel), List.mem_of_getElem? (i := 1367) (by decide +kernel)⟩
theorem lw_p31 : lw_okq (⟨"OneBackModel", "blank", "(I)V"⟩, 51) := ⟨⟨by decide +kernel, by decide +kernel⟩, List.mem_of_getElem? (i := 1182) (by decide +kernel), List.mem_of_getElem? (i := 1370) (by decide +kernel), List.mem_of_getElem? (i := 1371) (by decide +kernel)⟩
def lw_privs_2 : List (MethodName × Nat) := [(⟨"OneBack", "walkJust", "(IIII)Z"⟩, 6), (⟨"OneBack$Supply", "carryGood", "(LOneBack$Town;I)I"⟩, 2), (⟨"OneBack$Supply", "leastOf", "(II)I"⟩, 2), (⟨"OneBack$Sight", "alike", "(III)I"⟩, 4), (⟨"OneBack$Sight", "waysOf", "(LOneBack$Walk;III)I"⟩, 4), (⟨"OneBack$Sight", "isTold", "(LOneBack$Town;I)Z"⟩, 4), (⟨"OneBack$Sight", "movedOf", "(LOneBack$Town;IZ)I"⟩, 4), (⟨"OneBack$Town", "isBest", "(II)Z"⟩, 10), (⟨"OneBack$Walk", "drawDeeds", "(I)V"⟩, 17), (⟨"OneBack$Walk", "drawBelow", "(I)I"⟩, 17), (⟨"OneBack$Walk", "giveLeast", "(I)Z"⟩, 17), (⟨"OneBack$Porter", "pick", "(IIII)V"⟩, 5), (⟨"OneBackModel", "four", "(I)V"⟩, 51), (⟨"OneBackModel", "is", "(II)Z"⟩, 51), (⟨"OneBackModel", "readText", "(I)Z"⟩, 51), (⟨"OneBackModel", "blank", "(I)V"⟩, 51)]
theorem lw_r2 : ∀ q ∈ lw_privs_2, lw_okq q := List.forall_mem_cons.mpr ⟨lw_p16, List.forall_mem_cons.mpr ⟨lw_p17, List.forall_mem_cons.mpr ⟨lw_p18, List.forall_mem_cons.mpr ⟨lw_p19, List.forall_mem_cons.mpr ⟨lw_p20, List.forall_mem_cons.mpr ⟨lw_p21, List.forall_mem_cons.mpr ⟨lw_p22, List.forall_mem_cons.mpr ⟨lw_p23, List.forall_mem_cons.mpr ⟨lw_p24, List.forall_mem_cons.mpr ⟨lw_p25, List.forall_mem_cons.mpr ⟨lw_p26, List.forall_mem_cons.mpr ⟨lw_p27, List.forall_mem_cons.mpr ⟨lw_p28, List.forall_mem_cons.mpr ⟨lw_p29, List.forall_mem_cons.mpr ⟨lw_p30, List.forall_mem_cons.mpr ⟨lw_p31, fun _ h => absurd h List.not_mem_nil⟩⟩⟩⟩⟩⟩⟩⟩⟩⟩⟩⟩⟩⟩⟩⟩
theorem lw_p32 : lw_okq (⟨"OneBackModel", "blankTown", "()V"⟩, 51) := ⟨⟨by decide +kernel, by decide +kernel⟩, List.mem_of_getElem? (i := 1182) (by decide +kernel), List.mem_of_getElem? (i := 1374) (by decide +kernel), List.mem_of_getElem? (i := 1375) (by decide +kernel)⟩
theorem lw_p33 : lw_okq (⟨"OneBackModel", "token", "()V"⟩, 51) := ⟨⟨by decide +kernel, by decide +kernel⟩, List.mem_of_getElem? (i := 1182) (by decide +kernel), List.mem_of_getElem? (i := 1378) (by decide +kernel), List.mem_of_getElem? (i := 1379) (by decide +kernel)⟩
theorem lw_p34 : lw_okq (⟨"OneBackModel", "see", "()I"⟩, 51) := ⟨⟨by decide +kernel, by decide +kernel⟩, List.mem_of_getElem? (i := 1182) (by decide +kernel), List.mem_of_getElem? (i := 1382) (by decide +kernel), List.mem_of_getElem? (i := 1383) (by decide +kernel)⟩
theorem lw_p35 : lw_okq (⟨"OneBackModel", "lines", "(I)Z"⟩, 51) := ⟨⟨by decide +kernel, by decide +kernel⟩, List.mem_of_getElem? (i := 1182) (by decide +kernel), List.mem_of_getElem? (i := 1386) (by decide +kernel), List.mem_of_getElem? (i := 1387) (by decide +kernel)⟩
theorem lw_p36 : lw_okq (⟨"OneBackModel", "lineOf", "(IJI)Z"⟩, 51) := ⟨⟨by decide +kernel, by decide +kernel⟩, List.mem_of_getElem? (i := 1182) (by decide +kernel), List.mem_of_getElem? (i := 1390) (by decide +kernel), List.mem_of_getElem? (i := 1391) (by decide +kernel)⟩
theorem lw_p37 : lw_okq (⟨"OneBackModel", "townLine", "(JI)Z"⟩, 51) := ⟨⟨by decide +kernel, by decide +kernel⟩, List.mem_of_getElem? (i := 1182) (by decide +kernel), List.mem_of_getElem? (i := 1394) (by decide +kernel), List.mem_of_getElem? (i := 1395) (by decide +kernel)⟩
theorem lw_p38 : lw_okq (⟨"OneBackModel", "fails", "()Z"⟩, 51) := ⟨⟨by decide +kernel, by decide +kernel⟩, List.mem_of_getElem? (i := 1182) (by decide +kernel), List.mem_of_getElem? (i := 1407) (by decide +kernel), List.mem_of_getElem? (i := 1408) (by decide +kernel)⟩
theorem lw_p39 : lw_okq (⟨"OneBackModel", "full", "(III)V"⟩, 51) := ⟨⟨by decide +kernel, by decide +kernel⟩, List.mem_of_getElem? (i := 1182) (by decide +kernel), List.mem_of_getElem? (i := 1411) (by decide +kernel), List.mem_of_getElem? (i := 1412) (by decide +kernel)⟩
theorem lw_p40 : lw_okq (⟨"OneBackModel", "later", "(II)V"⟩, 51) := ⟨⟨by decide +kernel, by decide +kernel⟩, List.mem_of_getElem? (i := 1182) (by decide +kernel), List.mem_of_getElem? (i := 1415) (by decide +kernel), List.mem_of_getElem? (i := 1416) (by decide +kernel)⟩
theorem lw_p41 : lw_okq (⟨"OneBackModel", "goodsLine", "(I)Z"⟩, 51) := ⟨⟨by decide +kernel, by decide +kernel⟩, List.mem_of_getElem? (i := 1182) (by decide +kernel), List.mem_of_getElem? (i := 1419) (by decide +kernel), List.mem_of_getElem? (i := 1420) (by decide +kernel)⟩
theorem lw_p42 : lw_okq (⟨"OneBackModel", "takeHouse", "(I)Z"⟩, 51) := ⟨⟨by decide +kernel, by decide +kernel⟩, List.mem_of_getElem? (i := 1182) (by decide +kernel), List.mem_of_getElem? (i := 1423) (by decide +kernel), List.mem_of_getElem? (i := 1424) (by decide +kernel)⟩
theorem lw_p43 : lw_okq (⟨"OneBackModel", "take", "(III)Z"⟩, 51) := ⟨⟨by decide +kernel, by decide +kernel⟩, List.mem_of_getElem? (i := 1182) (by decide +kernel), List.mem_of_getElem? (i := 1427) (by decide +kernel), List.mem_of_getElem? (i := 1428) (by decide +kernel)⟩
theorem lw_p44 : lw_okq (⟨"OneBackModel", "takeBut", "(IIII)Z"⟩, 51) := ⟨⟨by decide +kernel, by decide +kernel⟩, List.mem_of_getElem? (i := 1182) (by decide +kernel), List.mem_of_getElem? (i := 1431) (by decide +kernel), List.mem_of_getElem? (i := 1432) (by decide +kernel)⟩
theorem lw_p45 : lw_okq (⟨"OneBackModel", "lay", "(II)V"⟩, 51) := ⟨⟨by decide +kernel, by decide +kernel⟩, List.mem_of_getElem? (i := 1182) (by decide +kernel), List.mem_of_getElem? (i := 1438) (by decide +kernel), List.mem_of_getElem? (i := 1439) (by decide +kernel)⟩
theorem lw_p46 : lw_okq (⟨"OneBackModel", "houseLine", "(J)Z"⟩, 51) := ⟨⟨by decide +kernel, by decide +kernel⟩, List.mem_of_getElem? (i := 1182) (by decide +kernel), List.mem_of_getElem? (i := 1442) (by decide +kernel), List.mem_of_getElem? (i := 1443) (by decide +kernel)⟩
theorem lw_p47 : lw_okq (⟨"OneBackModel", "goodLine", "(J)Z"⟩, 51) := ⟨⟨by decide +kernel, by decide +kernel⟩, List.mem_of_getElem? (i := 1182) (by decide +kernel), List.mem_of_getElem? (i := 1446) (by decide +kernel), List.mem_of_getElem? (i := 1447) (by decide +kernel)⟩
def lw_privs_3 : List (MethodName × Nat) := [(⟨"OneBackModel", "blankTown", "()V"⟩, 51), (⟨"OneBackModel", "token", "()V"⟩, 51), (⟨"OneBackModel", "see", "()I"⟩, 51), (⟨"OneBackModel", "lines", "(I)Z"⟩, 51), (⟨"OneBackModel", "lineOf", "(IJI)Z"⟩, 51), (⟨"OneBackModel", "townLine", "(JI)Z"⟩, 51), (⟨"OneBackModel", "fails", "()Z"⟩, 51), (⟨"OneBackModel", "full", "(III)V"⟩, 51), (⟨"OneBackModel", "later", "(II)V"⟩, 51), (⟨"OneBackModel", "goodsLine", "(I)Z"⟩, 51), (⟨"OneBackModel", "takeHouse", "(I)Z"⟩, 51), (⟨"OneBackModel", "take", "(III)Z"⟩, 51), (⟨"OneBackModel", "takeBut", "(IIII)Z"⟩, 51), (⟨"OneBackModel", "lay", "(II)V"⟩, 51), (⟨"OneBackModel", "houseLine", "(J)Z"⟩, 51), (⟨"OneBackModel", "goodLine", "(J)Z"⟩, 51)]
theorem lw_r3 : ∀ q ∈ lw_privs_3, lw_okq q := List.forall_mem_cons.mpr ⟨lw_p32, List.forall_mem_cons.mpr ⟨lw_p33, List.forall_mem_cons.mpr ⟨lw_p34, List.forall_mem_cons.mpr ⟨lw_p35, List.forall_mem_cons.mpr ⟨lw_p36, List.forall_mem_cons.mpr ⟨lw_p37, List.forall_mem_cons.mpr ⟨lw_p38, List.forall_mem_cons.mpr ⟨lw_p39, List.forall_mem_cons.mpr ⟨lw_p40, List.forall_mem_cons.mpr ⟨lw_p41, List.forall_mem_cons.mpr ⟨lw_p42, List.forall_mem_cons.mpr ⟨lw_p43, List.forall_mem_cons.mpr ⟨lw_p44, List.forall_mem_cons.mpr ⟨lw_p45, List.forall_mem_cons.mpr ⟨lw_p46, List.forall_mem_cons.mpr ⟨lw_p47, fun _ h => absurd h List.not_mem_nil⟩⟩⟩⟩⟩⟩⟩⟩⟩⟩⟩⟩⟩⟩⟩⟩
theorem lw_p48 : lw_okq (⟨"OneBackModel", "sonLine", "()Z"⟩, 51) := ⟨⟨by decide +kernel, by decide +kernel⟩, List.mem_of_getElem? (i := 1182) (by decide +kernel), List.mem_of_getElem? (i := 1450) (by decide +kernel), List.mem_of_getElem? (i := 1451) (by decide +kernel)⟩
theorem lw_p49 : lw_okq (⟨"OneBackModel", "keep", "(IIII)V"⟩, 51) := ⟨⟨by decide +kernel, by decide +kernel⟩, List.mem_of_getElem? (i := 1182) (by decide +kernel), List.mem_of_getElem? (i := 1454) (by decide +kernel), List.mem_of_getElem? (i := 1455) (by decide +kernel)⟩
theorem lw_p50 : lw_okq (⟨"OneBackModel", "lawLine", "(J)Z"⟩, 51) := ⟨⟨by decide +kernel, by decide +kernel⟩, List.mem_of_getElem? (i := 1182) (by decide +kernel), List.mem_of_getElem? (i := 1458) (by decide +kernel), List.mem_of_getElem? (i := 1459) (by decide +kernel)⟩
theorem lw_p51 : lw_okq (⟨"OneBackModel", "nightsLine", "(JI)Z"⟩, 51) := ⟨⟨by decide +kernel, by decide +kernel⟩, List.mem_of_getElem? (i := 1182) (by decide +kernel), List.mem_of_getElem? (i := 1465) (by decide +kernel), List.mem_of_getElem? (i := 1466) (by decide +kernel)⟩
theorem lw_p52 : lw_okq (⟨"OneBackModel", "sightLine", "(JI)Z"⟩, 51) := ⟨⟨by decide +kernel, by decide +kernel⟩, List.mem_of_getElem? (i := 1182) (by decide +kernel), List.mem_of_getElem? (i := 1473) (by decide +kernel), List.mem_of_getElem? (i := 1474) (by decide +kernel)⟩
theorem lw_p53 : lw_okq (⟨"OneBackModel", "storeAll", "(II)V"⟩, 51) := ⟨⟨by decide +kernel, by decide +kernel⟩, List.mem_of_getElem? (i := 1182) (by decide +kernel), List.mem_of_getElem? (i := 1479) (by decide +kernel), List.mem_of_getElem? (i := 1480) (by decide +kernel)⟩
theorem lw_p54 : lw_okq (⟨"OneBackModel", "store", "([III)V"⟩, 51) := ⟨⟨by decide +kernel, by decide +kernel⟩, List.mem_of_getElem? (i := 1182) (by decide +kernel), List.mem_of_getElem? (i := 1483) (by decide +kernel), List.mem_of_getElem? (i := 1484) (by decide +kernel)⟩
theorem lw_p55 : lw_okq (⟨"OneBackModel", "hand", "(I)Z"⟩, 51) := ⟨⟨by decide +kernel, by decide +kernel⟩, List.mem_of_getElem? (i := 1182) (by decide +kernel), List.mem_of_getElem? (i := 1495) (by decide +kernel), List.mem_of_getElem? (i := 1496) (by decide +kernel)⟩
theorem lw_p56 : lw_okq (⟨"OneBackModel", "of", "(I)I"⟩, 51) := ⟨⟨by decide +kernel, by decide +kernel⟩, List.mem_of_getElem? (i := 1182) (by decide +kernel), List.mem_of_getElem? (i := 1499) (by decide +kernel), List.mem_of_getElem? (i := 1500) (by decide +kernel)⟩
theorem lw_p57 : lw_okq (⟨"OneBackModel", "isHouse", "(I)Z"⟩, 51) := ⟨⟨by decide +kernel, by decide +kernel⟩, List.mem_of_getElem? (i := 1182) (by decide +kernel), List.mem_of_getElem? (i := 1503) (by decide +kernel), List.mem_of_getElem? (i := 1504) (by decide +kernel)⟩
theorem lw_p58 : lw_okq (⟨"OneBackModel", "isThief", "(I)Z"⟩, 51) := ⟨⟨by decide +kernel, by decide +kernel⟩, List.mem_of_getElem? (i := 1182) (by decide +kernel), List.mem_of_getElem? (i := 1510) (by decide +kernel), List.mem_of_getElem? (i := 1511) (by decide +kernel)⟩
theorem lw_p59 : lw_okq (⟨"OneBackModel", "spare", "(II)I"⟩, 51) := ⟨⟨by decide +kernel, by decide +kernel⟩, List.mem_of_getElem? (i := 1182) (by decide +kernel), List.mem_of_getElem? (i := 1518) (by decide +kernel), List.mem_of_getElem? (i := 1519) (by decide +kernel)⟩
theorem lw_p60 : lw_okq (⟨"OneBackModel", "lacks", "(II)I"⟩, 51) := ⟨⟨by decide +kernel, by decide +kernel⟩, List.mem_of_getElem? (i := 1182) (by decide +kernel), List.mem_of_getElem? (i := 1522) (by decide +kernel), List.mem_of_getElem? (i := 1523) (by decide +kernel)⟩
theorem lw_p61 : lw_okq (⟨"OneBackModel", "hasLaw", "(I)Z"⟩, 51) := ⟨⟨by decide +kernel, by decide +kernel⟩, List.mem_of_getElem? (i := 1182) (by decide +kernel), List.mem_of_getElem? (i := 1530) (by decide +kernel), List.mem_of_getElem? (i := 1531) (by decide +kernel)⟩
theorem lw_p62 : lw_okq (⟨"OneBackModel", "lawOf", "(I)I"⟩, 51) := ⟨⟨by decide +kernel, by decide +kernel⟩, List.mem_of_getElem? (i := 1182) (by decide +kernel), List.mem_of_getElem? (i := 1534) (by decide +kernel), List.mem_of_getElem? (i := 1535) (by decide +kernel)⟩
theorem lw_p63 : lw_okq (⟨"OneBackModel", "isDouble", "(I)Z"⟩, 51) := ⟨⟨by decide +kernel, by decide +kernel⟩, List.mem_of_getElem? (i := 1182) (by decide +kernel), List.mem_of_getElem? (i := 1538) (by decide +kernel), List.mem_of_getElem? (i := 1539) (by decide +kernel)⟩
def lw_privs_4 : List (MethodName × Nat) := [(⟨"OneBackModel", "sonLine", "()Z"⟩, 51), (⟨"OneBackModel", "keep", "(IIII)V"⟩, 51), (⟨"OneBackModel", "lawLine", "(J)Z"⟩, 51), (⟨"OneBackModel", "nightsLine", "(JI)Z"⟩, 51), (⟨"OneBackModel", "sightLine", "(JI)Z"⟩, 51), (⟨"OneBackModel", "storeAll", "(II)V"⟩, 51), (⟨"OneBackModel", "store", "([III)V"⟩, 51), (⟨"OneBackModel", "hand", "(I)Z"⟩, 51), (⟨"OneBackModel", "of", "(I)I"⟩, 51), (⟨"OneBackModel", "isHouse", "(I)Z"⟩, 51), (⟨"OneBackModel", "isThief", "(I)Z"⟩, 51), (⟨"OneBackModel", "spare", "(II)I"⟩, 51), (⟨"OneBackModel", "lacks", "(II)I"⟩, 51), (⟨"OneBackModel", "hasLaw", "(I)Z"⟩, 51), (⟨"OneBackModel", "lawOf", "(I)I"⟩, 51), (⟨"OneBackModel", "isDouble", "(I)Z"⟩, 51)]
theorem lw_r4 : ∀ q ∈ lw_privs_4, lw_okq q := List.forall_mem_cons.mpr ⟨lw_p48, List.forall_mem_cons.mpr ⟨lw_p49, List.forall_mem_cons.mpr ⟨lw_p50, List.forall_mem_cons.mpr ⟨lw_p51, List.forall_mem_cons.mpr ⟨lw_p52, List.forall_mem_cons.mpr ⟨lw_p53, List.forall_mem_cons.mpr ⟨lw_p54, List.forall_mem_cons.mpr ⟨lw_p55, List.forall_mem_cons.mpr ⟨lw_p56, List.forall_mem_cons.mpr ⟨lw_p57, List.forall_mem_cons.mpr ⟨lw_p58, List.forall_mem_cons.mpr ⟨lw_p59, List.forall_mem_cons.mpr ⟨lw_p60, List.forall_mem_cons.mpr ⟨lw_p61, List.forall_mem_cons.mpr ⟨lw_p62, List.forall_mem_cons.mpr ⟨lw_p63, fun _ h => absurd h List.not_mem_nil⟩⟩⟩⟩⟩⟩⟩⟩⟩⟩⟩⟩⟩⟩⟩⟩
theorem lw_p64 : lw_okq (⟨"OneBackModel", "hasNights", "(I)Z"⟩, 51) := ⟨⟨by decide +kernel, by decide +kernel⟩, List.mem_of_getElem? (i := 1182) (by decide +kernel), List.mem_of_getElem? (i := 1549) (by decide +kernel), List.mem_of_getElem? (i := 1550) (by decide +kernel)⟩
theorem lw_p65 : lw_okq (⟨"OneBackModel", "deeds", "()I"⟩, 51) := ⟨⟨by decide +kernel, by decide +kernel⟩, List.mem_of_getElem? (i := 1182) (by decide +kernel), List.mem_of_getElem? (i := 1553) (by decide +kernel), List.mem_of_getElem? (i := 1554) (by decide +kernel)⟩
theorem lw_p66 : lw_okq (⟨"OneBackModel", "deedOf", "(II)I"⟩, 51) := ⟨⟨by decide +kernel, by decide +kernel⟩, List.mem_of_getElem? (i := 1182) (by decide +kernel), List.mem_of_getElem? (i := 1557) (by decide +kernel), List.mem_of_getElem? (i := 1558) (by decide +kernel)⟩
theorem lw_p67 : lw_okq (⟨"OneBackModel", "layAll", "(III)Z"⟩, 51) := ⟨⟨by decide +kernel, by decide +kernel⟩, List.mem_of_getElem? (i := 1182) (by decide +kernel), List.mem_of_getElem? (i := 1565) (by decide +kernel), List.mem_of_getElem? (i := 1566) (by decide +kernel)⟩
theorem lw_p68 : lw_okq (⟨"OneBackModel", "play", "(I)I"⟩, 51) := ⟨⟨by decide +kernel, by decide +kernel⟩, List.mem_of_getElem? (i := 1182) (by decide +kernel), List.mem_of_getElem? (i := 1569) (by decide +kernel), List.mem_of_getElem? (i := 1570) (by decide +kernel)⟩
theorem lw_p69 : lw_okq (⟨"OneBackModel", "begin", "()V"⟩, 51) := ⟨⟨by decide +kernel, by decide +kernel⟩, List.mem_of_getElem? (i := 1182) (by decide +kernel), List.mem_of_getElem? (i := 1573) (by decide +kernel), List.mem_of_getElem? (i := 1574) (by decide +kernel)⟩
theorem lw_p70 : lw_okq (⟨"OneBackModel", "does", "(I)Z"⟩, 51) := ⟨⟨by decide +kernel, by decide +kernel⟩, List.mem_of_getElem? (i := 1182) (by decide +kernel), List.mem_of_getElem? (i := 1577) (by decide +kernel), List.mem_of_getElem? (i := 1578) (by decide +kernel)⟩
theorem lw_p71 : lw_okq (⟨"OneBackModel", "takes", "(III)Z"⟩, 51) := ⟨⟨by decide +kernel, by decide +kernel⟩, List.mem_of_getElem? (i := 1182) (by decide +kernel), List.mem_of_getElem? (i := 1581) (by decide +kernel), List.mem_of_getElem? (i := 1582) (by decide +kernel)⟩
theorem lw_p72 : lw_okq (⟨"OneBackModel", "isFree", "(I)Z"⟩, 51) := ⟨⟨by decide +kernel, by decide +kernel⟩, List.mem_of_getElem? (i := 1182) (by decide +kernel), List.mem_of_getElem? (i := 1585) (by decide +kernel), List.mem_of_getElem? (i := 1586) (by decide +kernel)⟩
theorem lw_p73 : lw_okq (⟨"OneBackModel", "gives", "(III)Z"⟩, 51) := ⟨⟨by decide +kernel, by decide +kernel⟩, List.mem_of_getElem? (i := 1182) (by decide +kernel), List.mem_of_getElem? (i := 1592) (by decide +kernel), List.mem_of_getElem? (i := 1593) (by decide +kernel)⟩
theorem lw_p74 : lw_okq (⟨"OneBackModel", "mayGive", "(III)Z"⟩, 51) := ⟨⟨by decide +kernel, by decide +kernel⟩, List.mem_of_getElem? (i := 1182) (by decide +kernel), List.mem_of_getElem? (i := 1596) (by decide +kernel), List.mem_of_getElem? (i := 1597) (by decide +kernel)⟩
theorem lw_p75 : lw_okq (⟨"OneBackModel", "sets", "(III)Z"⟩, 51) := ⟨⟨by decide +kernel, by decide +kernel⟩, List.mem_of_getElem? (i := 1182) (by decide +kernel), List.mem_of_getElem? (i := 1600) (by decide +kernel), List.mem_of_getElem? (i := 1601) (by decide +kernel)⟩
theorem lw_p76 : lw_okq (⟨"OneBackModel", "owes", "(I)I"⟩, 51) := ⟨⟨by decide +kernel, by decide +kernel⟩, List.mem_of_getElem? (i := 1182) (by decide +kernel), List.mem_of_getElem? (i := 1604) (by decide +kernel), List.mem_of_getElem? (i := 1605) (by decide +kernel)⟩
theorem lw_p77 : lw_okq (⟨"OneBackModel", "ends", "()V"⟩, 51) := ⟨⟨by decide +kernel, by decide +kernel⟩, List.mem_of_getElem? (i := 1182) (by decide +kernel), List.mem_of_getElem? (i := 1608) (by decide +kernel), List.mem_of_getElem? (i := 1609) (by decide +kernel)⟩
theorem lw_p78 : lw_okq (⟨"OneBackModel", "layState", "(IIII)Z"⟩, 51) := ⟨⟨by decide +kernel, by decide +kernel⟩, List.mem_of_getElem? (i := 1182) (by decide +kernel), List.mem_of_getElem? (i := 1616) (by decide +kernel), List.mem_of_getElem? (i := 1617) (by decide +kernel)⟩
theorem lw_p79 : lw_okq (⟨"OneBackModel", "queued", "(I)I"⟩, 51) := ⟨⟨by decide +kernel, by decide +kernel⟩, List.mem_of_getElem? (i := 1182) (by decide +kernel), List.mem_of_getElem? (i := 1620) (by decide +kernel), List.mem_of_getElem? (i := 1621) (by decide +kernel)⟩
def lw_privs_5 : List (MethodName × Nat) := [(⟨"OneBackModel", "hasNights", "(I)Z"⟩, 51), (⟨"OneBackModel", "deeds", "()I"⟩, 51), (⟨"OneBackModel", "deedOf", "(II)I"⟩, 51), (⟨"OneBackModel", "layAll", "(III)Z"⟩, 51), (⟨"OneBackModel", "play", "(I)I"⟩, 51), (⟨"OneBackModel", "begin", "()V"⟩, 51), (⟨"OneBackModel", "does", "(I)Z"⟩, 51), (⟨"OneBackModel", "takes", "(III)Z"⟩, 51), (⟨"OneBackModel", "isFree", "(I)Z"⟩, 51), (⟨"OneBackModel", "gives", "(III)Z"⟩, 51), (⟨"OneBackModel", "mayGive", "(III)Z"⟩, 51), (⟨"OneBackModel", "sets", "(III)Z"⟩, 51), (⟨"OneBackModel", "owes", "(I)I"⟩, 51), (⟨"OneBackModel", "ends", "()V"⟩, 51), (⟨"OneBackModel", "layState", "(IIII)Z"⟩, 51), (⟨"OneBackModel", "queued", "(I)I"⟩, 51)]
theorem lw_r5 : ∀ q ∈ lw_privs_5, lw_okq q := List.forall_mem_cons.mpr ⟨lw_p64, List.forall_mem_cons.mpr ⟨lw_p65, List.forall_mem_cons.mpr ⟨lw_p66, List.forall_mem_cons.mpr ⟨lw_p67, List.forall_mem_cons.mpr ⟨lw_p68, List.forall_mem_cons.mpr ⟨lw_p69, List.forall_mem_cons.mpr ⟨lw_p70, List.forall_mem_cons.mpr ⟨lw_p71, List.forall_mem_cons.mpr ⟨lw_p72, List.forall_mem_cons.mpr ⟨lw_p73, List.forall_mem_cons.mpr ⟨lw_p74, List.forall_mem_cons.mpr ⟨lw_p75, List.forall_mem_cons.mpr ⟨lw_p76, List.forall_mem_cons.mpr ⟨lw_p77, List.forall_mem_cons.mpr ⟨lw_p78, List.forall_mem_cons.mpr ⟨lw_p79, fun _ h => absurd h List.not_mem_nil⟩⟩⟩⟩⟩⟩⟩⟩⟩⟩⟩⟩⟩⟩⟩⟩
theorem lw_p80 : lw_okq (⟨"OneBackModel", "odd", "(I)I"⟩, 51) := ⟨⟨by decide +kernel, by decide +kernel⟩, List.mem_of_getElem? (i := 1182) (by decide +kernel), List.mem_of_getElem? (i := 1624) (by decide +kernel), List.mem_of_getElem? (i := 1625) (by decide +kernel)⟩
theorem lw_p81 : lw_okq (⟨"OneBackModel", "ofState", "(I)I"⟩, 51) := ⟨⟨by decide +kernel, by decide +kernel⟩, List.mem_of_getElem? (i := 1182) (by decide +kernel), List.mem_of_getElem? (i := 1628) (by decide +kernel), List.mem_of_getElem? (i := 1629) (by decide +kernel)⟩
theorem lw_p82 : lw_okq (⟨"OneBackModel", "want", "()I"⟩, 51) := ⟨⟨by decide +kernel, by decide +kernel⟩, List.mem_of_getElem? (i := 1182) (by decide +kernel), List.mem_of_getElem? (i := 1632) (by decide +kernel), List.mem_of_getElem? (i := 1633) (by decide +kernel)⟩
theorem lw_p83 : lw_okq (⟨"OneBackModel", "pious", "()I"⟩, 51) := ⟨⟨by decide +kernel, by decide +kernel⟩, List.mem_of_getElem? (i := 1182) (by decide +kernel), List.mem_of_getElem? (i := 1636) (by decide +kernel), List.mem_of_getElem? (i := 1637) (by decide +kernel)⟩
theorem lw_p84 : lw_okq (⟨"OneBackModel", "ofEach", "(I)I"⟩, 51) := ⟨⟨by decide +kernel, by decide +kernel⟩, List.mem_of_getElem? (i := 1182) (by decide +kernel), List.mem_of_getElem? (i := 1640) (by decide +kernel), List.mem_of_getElem? (i := 1641) (by decide +kernel)⟩
theorem lw_p85 : lw_okq (⟨"OneBackModel", "findAid", "()Z"⟩, 51) := ⟨⟨by decide +kernel, by decide +kernel⟩, List.mem_of_getElem? (i := 1182) (by decide +kernel), List.mem_of_getElem? (i := 1652) (by decide +kernel), List.mem_of_getElem? (i := 1653) (by decide +kernel)⟩
theorem lw_p86 : lw_okq (⟨"OneBackModel", "aidGood", "(I)Z"⟩, 51) := ⟨⟨by decide +kernel, by decide +kernel⟩, List.mem_of_getElem? (i := 1182) (by decide +kernel), List.mem_of_getElem? (i := 1656) (by decide +kernel), List.mem_of_getElem? (i := 1657) (by decide +kernel)⟩
theorem lw_p87 : lw_okq (⟨"OneBackModel", "aidNights", "()I"⟩, 51) := ⟨⟨by decide +kernel, by decide +kernel⟩, List.mem_of_getElem? (i := 1182) (by decide +kernel), List.mem_of_getElem? (i := 1663) (by decide +kernel), List.mem_of_getElem? (i := 1664) (by decide +kernel)⟩
theorem lw_p88 : lw_okq (⟨"OneBackModel", "carryGood", "(I)I"⟩, 51) := ⟨⟨by decide +kernel, by decide +kernel⟩, List.mem_of_getElem? (i := 1182) (by decide +kernel), List.mem_of_getElem? (i := 1671) (by decide +kernel), List.mem_of_getElem? (i := 1672) (by decide +kernel)⟩
theorem lw_p89 : lw_okq (⟨"OneBackModel", "carryOn", "(II)V"⟩, 51) := ⟨⟨by decide +kernel, by decide +kernel⟩, List.mem_of_getElem? (i := 1182) (by decide +kernel), List.mem_of_getElem? (i := 1676) (by decide +kernel), List.mem_of_getElem? (i := 1677) (by decide +kernel)⟩
theorem lw_p90 : lw_okq (⟨"OneBackModel", "roundOf", "(I)I"⟩, 51) := ⟨⟨by decide +kernel, by decide +kernel⟩, List.mem_of_getElem? (i := 1182) (by decide +kernel), List.mem_of_getElem? (i := 1687) (by decide +kernel), List.mem_of_getElem? (i := 1688) (by decide +kernel)⟩
theorem lw_p91 : lw_okq (⟨"OneBackModel", "hasSight", "(I)Z"⟩, 51) := ⟨⟨by decide +kernel, by decide +kernel⟩, List.mem_of_getElem? (i := 1182) (by decide +kernel), List.mem_of_getElem? (i := 1702) (by decide +kernel), List.mem_of_getElem? (i := 1703) (by decide +kernel)⟩
theorem lw_p92 : lw_okq (⟨"OneBackModel", "gifts", "()I"⟩, 51) := ⟨⟨by decide +kernel, by decide +kernel⟩, List.mem_of_getElem? (i := 1182) (by decide +kernel), List.mem_of_getElem? (i := 1706) (by decide +kernel), List.mem_of_getElem? (i := 1707) (by decide +kernel)⟩
theorem lw_p93 : lw_okq (⟨"OneBackModel", "giftOf", "(II)I"⟩, 51) := ⟨⟨by decide +kernel, by decide +kernel⟩, List.mem_of_getElem? (i := 1182) (by decide +kernel), List.mem_of_getElem? (i := 1710) (by decide +kernel), List.mem_of_getElem? (i := 1711) (by decide +kernel)⟩
theorem lw_p94 : lw_okq (⟨"OneBackModel", "left", "(II)I"⟩, 51) := ⟨⟨by decide +kernel, by decide +kernel⟩, List.mem_of_getElem? (i := 1182) (by decide +kernel), List.mem_of_getElem? (i := 1714) (by decide +kernel), List.mem_of_getElem? (i := 1715) (by decide +kernel)⟩
theorem lw_p95 : lw_okq (⟨"OneBackModel", "canBe", "(I)Z"⟩, 51) := ⟨⟨by decide +kernel, by decide +kernel⟩, List.mem_of_getElem? (i := 1182) (by decide +kernel), List.mem_of_getElem? (i := 1722) (by decide +kernel), List.mem_of_getElem? (i := 1723) (by decide +kernel)⟩
def lw_privs_6 : List (MethodName × Nat) := [(⟨"OneBackModel", "odd", "(I)I"⟩, 51), (⟨"OneBackModel", "ofState", "(I)I"⟩, 51), (⟨"OneBackModel", "want", "()I"⟩, 51), (⟨"OneBackModel", "pious", "()I"⟩, 51), (⟨"OneBackModel", "ofEach", "(I)I"⟩, 51), (⟨"OneBackModel", "findAid", "()Z"⟩, 51), (⟨"OneBackModel", "aidGood", "(I)Z"⟩, 51), (⟨"OneBackModel", "aidNights", "()I"⟩, 51), (⟨"OneBackModel", "carryGood", "(I)I"⟩, 51), (⟨"OneBackModel", "carryOn", "(II)V"⟩, 51), (⟨"OneBackModel", "roundOf", "(I)I"⟩, 51), (⟨"OneBackModel", "hasSight", "(I)Z"⟩, 51), (⟨"OneBackModel", "gifts", "()I"⟩, 51), (⟨"OneBackModel", "giftOf", "(II)I"⟩, 51), (⟨"OneBackModel", "left", "(II)I"⟩, 51), (⟨"OneBackModel", "canBe", "(I)Z"⟩, 51)]
theorem lw_r6 : ∀ q ∈ lw_privs_6, lw_okq q := List.forall_mem_cons.mpr ⟨lw_p80, List.forall_mem_cons.mpr ⟨lw_p81, List.forall_mem_cons.mpr ⟨lw_p82, List.forall_mem_cons.mpr ⟨lw_p83, List.forall_mem_cons.mpr ⟨lw_p84, List.forall_mem_cons.mpr ⟨lw_p85, List.forall_mem_cons.mpr ⟨lw_p86, List.forall_mem_cons.mpr ⟨lw_p87, List.forall_mem_cons.mpr ⟨lw_p88, List.forall_mem_cons.mpr ⟨lw_p89, List.forall_mem_cons.mpr ⟨lw_p90, List.forall_mem_cons.mpr ⟨lw_p91, List.forall_mem_cons.mpr ⟨lw_p92, List.forall_mem_cons.mpr ⟨lw_p93, List.forall_mem_cons.mpr ⟨lw_p94, List.forall_mem_cons.mpr ⟨lw_p95, fun _ h => absurd h List.not_mem_nil⟩⟩⟩⟩⟩⟩⟩⟩⟩⟩⟩⟩⟩⟩⟩⟩
theorem lw_p96 : lw_okq (⟨"OneBackModel", "isToldAll", "(I)Z"⟩, 51) := ⟨⟨by decide +kernel, by decide +kernel⟩, List.mem_of_getElem? (i := 1182) (by decide +kernel), List.mem_of_getElem? (i := 1733) (by decide +kernel), List.mem_of_getElem? (i := 1734) (by decide +kernel)⟩
theorem lw_p97 : lw_okq (⟨"OneBackModel", "giftsBy", "(IIII)I"⟩, 51) := ⟨⟨by decide +kernel, by decide +kernel⟩, List.mem_of_getElem? (i := 1182) (by decide +kernel), List.mem_of_getElem? (i := 1741) (by decide +kernel), List.mem_of_getElem? (i := 1742) (by decide +kernel)⟩
theorem lw_p98 : lw_okq (⟨"OneBackModel", "doubles", "(II)I"⟩, 51) := ⟨⟨by decide +kernel, by decide +kernel⟩, List.mem_of_getElem? (i := 1182) (by decide +kernel), List.mem_of_getElem? (i := 1745) (by decide +kernel), List.mem_of_getElem? (i := 1746) (by decide +kernel)⟩
theorem lw_p99 : lw_okq (⟨"OneBackModel", "prizeOf", "(II)I"⟩, 51) := ⟨⟨by decide +kernel, by decide +kernel⟩, List.mem_of_getElem? (i := 1182) (by decide +kernel), List.mem_of_getElem? (i := 1757) (by decide +kernel), List.mem_of_getElem? (i := 1758) (by decide +kernel)⟩
theorem lw_p100 : lw_okq (⟨"OneBackModel", "worthOf", "(I)I"⟩, 51) := ⟨⟨by decide +kernel, by decide +kernel⟩, List.mem_of_getElem? (i := 1182) (by decide +kernel), List.mem_of_getElem? (i := 1761) (by decide +kernel), List.mem_of_getElem? (i := 1762) (by decide +kernel)⟩
theorem lw_p101 : lw_okq (⟨"OneBackModel", "isRest", "(II)Z"⟩, 51) := ⟨⟨by decide +kernel, by decide +kernel⟩, List.mem_of_getElem? (i := 1182) (by decide +kernel), List.mem_of_getElem? (i := 1769) (by decide +kernel), List.mem_of_getElem? (i := 1770) (by decide +kernel)⟩
theorem lw_p102 : lw_okq (⟨"OneBackModel", "drawThief", "(I)V"⟩, 51) := ⟨⟨by decide +kernel, by decide +kernel⟩, List.mem_of_getElem? (i := 1182) (by decide +kernel), List.mem_of_getElem? (i := 1788) (by decide +kernel), List.mem_of_getElem? (i := 1789) (by decide +kernel)⟩
theorem lw_p103 : lw_okq (⟨"OneBackModel", "draw", "(I)I"⟩, 51) := ⟨⟨by decide +kernel, by decide +kernel⟩, List.mem_of_getElem? (i := 1182) (by decide +kernel), List.mem_of_getElem? (i := 1792) (by decide +kernel), List.mem_of_getElem? (i := 1793) (by decide +kernel)⟩
theorem lw_p104 : lw_okq (⟨"OneBackModel", "givesOne", "(I)Z"⟩, 51) := ⟨⟨by decide +kernel, by decide +kernel⟩, List.mem_of_getElem? (i := 1182) (by decide +kernel), List.mem_of_getElem? (i := 1797) (by decide +kernel), List.mem_of_getElem? (i := 1798) (by decide +kernel)⟩
theorem lw_p105 : lw_okq (⟨"OneBackModel", "can", "(I)I"⟩, 51) := ⟨⟨by decide +kernel, by decide +kernel⟩, List.mem_of_getElem? (i := 1182) (by decide +kernel), List.mem_of_getElem? (i := 1805) (by decide +kernel), List.mem_of_getElem? (i := 1806) (by decide +kernel)⟩
theorem lw_p106 : lw_okq (⟨"OneBackModel", "wealthOf", "(I)I"⟩, 51) := ⟨⟨by decide +kernel, by decide +kernel⟩, List.mem_of_getElem? (i := 1182) (by decide +kernel), List.mem_of_getElem? (i := 1809) (by decide +kernel), List.mem_of_getElem? (i := 1810) (by decide +kernel)⟩
theorem lw_p107 : lw_okq (⟨"OneBackModel", "ranked", "(I)I"⟩, 51) := ⟨⟨by decide +kernel, by decide +kernel⟩, List.mem_of_getElem? (i := 1182) (by decide +kernel), List.mem_of_getElem? (i := 1813) (by decide +kernel), List.mem_of_getElem? (i := 1814) (by decide +kernel)⟩
theorem lw_p108 : lw_okq (⟨"OneBackModel", "settle", "()I"⟩, 51) := ⟨⟨by decide +kernel, by decide +kernel⟩, List.mem_of_getElem? (i := 1182) (by decide +kernel), List.mem_of_getElem? (i := 1817) (by decide +kernel), List.mem_of_getElem? (i := 1818) (by decide +kernel)⟩
theorem lw_p109 : lw_okq (⟨"OneBackModel", "areKin", "(II)Z"⟩, 51) := ⟨⟨by decide +kernel, by decide +kernel⟩, List.mem_of_getElem? (i := 1182) (by decide +kernel), List.mem_of_getElem? (i := 1821) (by decide +kernel), List.mem_of_getElem? (i := 1822) (by decide +kernel)⟩
theorem lw_p110 : lw_okq (⟨"OneBackModel", "gap", "()I"⟩, 51) := ⟨⟨by decide +kernel, by decide +kernel⟩, List.mem_of_getElem? (i := 1182) (by decide +kernel), List.mem_of_getElem? (i := 1825) (by decide +kernel), List.mem_of_getElem? (i := 1826) (by decide +kernel)⟩
theorem lw_p111 : lw_okq (⟨"OneBackModel", "unlike", "(Z)I"⟩, 51) := ⟨⟨by decide +kernel, by decide +kernel⟩, List.mem_of_getElem? (i := 1182) (by decide +kernel), List.mem_of_getElem? (i := 1829) (by decide +kernel), List.mem_of_getElem? (i := 1830) (by decide +kernel)⟩
def lw_privs_7 : List (MethodName × Nat) := [(⟨"OneBackModel", "isToldAll", "(I)Z"⟩, 51), (⟨"OneBackModel", "giftsBy", "(IIII)I"⟩, 51), (⟨"OneBackModel", "doubles", "(II)I"⟩, 51), (⟨"OneBackModel", "prizeOf", "(II)I"⟩, 51), (⟨"OneBackModel", "worthOf", "(I)I"⟩, 51), (⟨"OneBackModel", "isRest", "(II)Z"⟩, 51), (⟨"OneBackModel", "drawThief", "(I)V"⟩, 51), (⟨"OneBackModel", "draw", "(I)I"⟩, 51), (⟨"OneBackModel", "givesOne", "(I)Z"⟩, 51), (⟨"OneBackModel", "can", "(I)I"⟩, 51), (⟨"OneBackModel", "wealthOf", "(I)I"⟩, 51), (⟨"OneBackModel", "ranked", "(I)I"⟩, 51), (⟨"OneBackModel", "settle", "()I"⟩, 51), (⟨"OneBackModel", "areKin", "(II)Z"⟩, 51), (⟨"OneBackModel", "gap", "()I"⟩, 51), (⟨"OneBackModel", "unlike", "(Z)I"⟩, 51)]
theorem lw_r7 : ∀ q ∈ lw_privs_7, lw_okq q := List.forall_mem_cons.mpr ⟨lw_p96, List.forall_mem_cons.mpr ⟨lw_p97, List.forall_mem_cons.mpr ⟨lw_p98, List.forall_mem_cons.mpr ⟨lw_p99, List.forall_mem_cons.mpr ⟨lw_p100, List.forall_mem_cons.mpr ⟨lw_p101, List.forall_mem_cons.mpr ⟨lw_p102, List.forall_mem_cons.mpr ⟨lw_p103, List.forall_mem_cons.mpr ⟨lw_p104, List.forall_mem_cons.mpr ⟨lw_p105, List.forall_mem_cons.mpr ⟨lw_p106, List.forall_mem_cons.mpr ⟨lw_p107, List.forall_mem_cons.mpr ⟨lw_p108, List.forall_mem_cons.mpr ⟨lw_p109, List.forall_mem_cons.mpr ⟨lw_p110, List.forall_mem_cons.mpr ⟨lw_p111, fun _ h => absurd h List.not_mem_nil⟩⟩⟩⟩⟩⟩⟩⟩⟩⟩⟩⟩⟩⟩⟩⟩
theorem lw_p112 : lw_okq (⟨"OneBackModel", "robbed", "()I"⟩, 51) := ⟨⟨by decide +kernel, by decide +kernel⟩, List.mem_of_getElem? (i := 1182) (by decide +kernel), List.mem_of_getElem? (i := 1833) (by decide +kernel), List.mem_of_getElem? (i := 1834) (by decide +kernel)⟩
theorem lw_p113 : lw_okq (⟨"OneBackModel", "haulWorth", "(IIII)I"⟩, 51) := ⟨⟨by decide +kernel, by decide +kernel⟩, List.mem_of_getElem? (i := 1182) (by decide +kernel), List.mem_of_getElem? (i := 1842) (by decide +kernel), List.mem_of_getElem? (i := 1843) (by decide +kernel)⟩
theorem lw_p114 : lw_okq (⟨"OneBackModel", "limits", "(I)I"⟩, 51) := ⟨⟨by decide +kernel, by decide +kernel⟩, List.mem_of_getElem? (i := 1182) (by decide +kernel), List.mem_of_getElem? (i := 1853) (by decide +kernel), List.mem_of_getElem? (i := 1854) (by decide +kernel)⟩
theorem lw_p115 : lw_okq (⟨"OneBackModel", "heads", "(I)I"⟩, 51) := ⟨⟨by decide +kernel, by decide +kernel⟩, List.mem_of_getElem? (i := 1182) (by decide +kernel), List.mem_of_getElem? (i := 1857) (by decide +kernel), List.mem_of_getElem? (i := 1858) (by decide +kernel)⟩
theorem lw_p116 : lw_okq (⟨"OneBackModel", "helps", "(II)Z"⟩, 51) := ⟨⟨by decide +kernel, by decide +kernel⟩, List.mem_of_getElem? (i := 1182) (by decide +kernel), List.mem_of_getElem? (i := 1865) (by decide +kernel), List.mem_of_getElem? (i := 1866) (by decide +kernel)⟩
theorem lw_p117 : lw_okq (⟨"OneBackModel", "copyAll", "(II)V"⟩, 51) := ⟨⟨by decide +kernel, by decide +kernel⟩, List.mem_of_getElem? (i := 1182) (by decide +kernel), List.mem_of_getElem? (i := 1877) (by decide +kernel), List.mem_of_getElem? (i := 1878) (by decide +kernel)⟩
def lw_privs_8 : List (MethodName × Nat) := [(⟨"OneBackModel", "robbed", "()I"⟩, 51), (⟨"OneBackModel", "haulWorth", "(IIII)I"⟩, 51), (⟨"OneBackModel", "limits", "(I)I"⟩, 51), (⟨"OneBackModel", "heads", "(I)I"⟩, 51), (⟨"OneBackModel", "helps", "(II)Z"⟩, 51), (⟨"OneBackModel", "copyAll", "(II)V"⟩, 51)]
theorem lw_r8 : ∀ q ∈ lw_privs_8, lw_okq q := List.forall_mem_cons.mpr ⟨lw_p112, List.forall_mem_cons.mpr ⟨lw_p113, List.forall_mem_cons.mpr ⟨lw_p114, List.forall_mem_cons.mpr ⟨lw_p115, List.forall_mem_cons.mpr ⟨lw_p116, List.forall_mem_cons.mpr ⟨lw_p117, fun _ h => absurd h List.not_mem_nil⟩⟩⟩⟩⟩⟩
def lw_privs : List (MethodName × Nat) := lw_privs_1 ++ (lw_privs_2 ++ (lw_privs_3 ++ (lw_privs_4 ++ (lw_privs_5 ++ (lw_privs_6 ++ (lw_privs_7 ++ (lw_privs_8)))))))
def lw_tbl : List Cond := k2_sels lw_privs ++ tables_1
theorem lw_privs_ok : ∀ q ∈ lw_privs, lw_okq q := by
  show ∀ q ∈ lw_privs_1 ++ (lw_privs_2 ++ (lw_privs_3 ++ (lw_privs_4 ++ (lw_privs_5 ++ (lw_privs_6 ++ (lw_privs_7 ++ (lw_privs_8))))))), lw_okq q
  exact List.forall_mem_append.mpr ⟨lw_r1, List.forall_mem_append.mpr ⟨lw_r2, List.forall_mem_append.mpr ⟨lw_r3, List.forall_mem_append.mpr ⟨lw_r4, List.forall_mem_append.mpr ⟨lw_r5, List.forall_mem_append.mpr ⟨lw_r6, List.forall_mem_append.mpr ⟨lw_r7, lw_r8⟩⟩⟩⟩⟩⟩⟩
def GT : List Cond := lw_tbl.filter goodWord
theorem GT_good : GoodIn GT GT := fun w hw => ⟨hw, good_of_word (List.mem_filter.mp hw).2⟩
theorem GT_lw {w : Cond} (h : w ∈ GT) : w ∈ lw_tbl := (List.mem_filter.mp h).1
theorem GT_t {w : Cond} (i : Nat) (h : tables_1[i]? = some w) (hg : goodWord w = true) : w ∈ GT := List.mem_filter.mpr ⟨List.mem_append_right _ (List.mem_of_getElem? h), hg⟩
theorem GT_p {q : MethodName × Nat} (i : Nat) (h : lw_privs[i]? = some q) : Cond.selects q.1.cls q.1 q.1 ∈ GT := List.mem_filter.mpr ⟨List.mem_append_left _ (List.mem_map.mpr ⟨q, List.mem_of_getElem? h, rfl⟩), rfl⟩
end
section
def RX0 : String := "OneBack$Law"
def TX0 : u_T := fun k => match k with
  | 0 => ("OneBack$Law", "rate", "I", false)
  | 1 => ("OneBack$Law", "limit", "I", false)
  | _ => ("OneBack$Law", "doubles", "I", false)
def tyX0 : Nat → FieldType := fun k => match k with
  | 0 => .int
  | 1 => .int
  | _ => .int
theorem nmX0 : ∀ a, a < 3 → ∀ b, b < 3 → a ≠ b → (TX0 a).2.1 ≠ (TX0 b).2.1 := by decide +kernel
theorem tyX0_ok : ∀ k, k < 3 → parseFieldDescriptor (TX0 k).2.2.1 = some (tyX0 k) := by decide +kernel
abbrev cX0_init : ByteArray := prog_2_method_1_code
def yX0_init : MethodName := ⟨RX0, "<init>", "()V"⟩
abbrev cX0_clear : ByteArray := prog_2_method_2_code
def yX0_clear : MethodName := ⟨RX0, "clear", "()V"⟩
abbrev cX0_copy : ByteArray := prog_2_method_3_code
def yX0_copy : MethodName := ⟨RX0, "copy", "(LOneBack$Law;)V"⟩
abbrev cX0_counts : ByteArray := prog_2_method_4_code
def yX0_counts : MethodName := ⟨RX0, "counts", "(I)I"⟩
abbrev cX0_dueOf : ByteArray := prog_2_method_5_code
def yX0_dueOf : MethodName := ⟨RX0, "dueOf", "(I)I"⟩
abbrev cX0_oddOf : ByteArray := prog_2_method_6_code
def yX0_oddOf : MethodName := ⟨RX0, "oddOf", "(I)I"⟩
abbrev cX0_firstQuit : ByteArray := prog_2_method_7_code
def yX0_firstQuit : MethodName := ⟨RX0, "firstQuit", "(III)I"⟩
abbrev cX0_fewestGifts : ByteArray := prog_2_method_8_code
def yX0_fewestGifts : MethodName := ⟨RX0, "fewestGifts", "(IIII)I"⟩
def RX1 : String := "OneBack$Nights"
def TX1 : u_T := fun k => match k with
  | 0 => ("OneBack$Nights", "size", "I", false)
  | 1 => ("OneBack$Nights", "kind", "[I", true)
  | 2 => ("OneBack$Nights", "first", "[I", true)
  | 3 => ("OneBack$Nights", "second", "[I", true)
  | _ => ("OneBack$Nights", "third", "[I", true)
def tyX1 : Nat → FieldType := fun k => match k with
  | 0 => .int
  | 1 => .array .int
  | 2 => .array .int
  | 3 => .array .int
  | _ => .array .int
theorem nmX1 : ∀ a, a < 5 → ∀ b, b < 5 → a ≠ b → (TX1 a).2.1 ≠ (TX1 b).2.1 := by decide +kernel
theorem tyX1_ok : ∀ k, k < 5 → parseFieldDescriptor (TX1 k).2.2.1 = some (tyX1 k) := by decide +kernel
abbrev cX1_init : ByteArray := prog_3_method_1_code
def yX1_init : MethodName := ⟨RX1, "<init>", "()V"⟩
abbrev cX1_clear : ByteArray := prog_3_method_2_code
def yX1_clear : MethodName := ⟨RX1, "clear", "()V"⟩
abbrev cX1_add : ByteArray := prog_3_method_3_code
def yX1_add : MethodName := ⟨RX1, "add", "(IIII)V"⟩
abbrev cX1_copy : ByteArray := prog_3_method_4_code
def yX1_copy : MethodName := ⟨RX1, "copy", "(LOneBack$Nights;)V"⟩
def RX2 : String := "OneBack$Porter"
def TX2 : u_T := fun k => match k with
  | 0 => ("OneBack$Porter", "best", "[I", true)
  | 1 => ("OneBack$Porter", "bestWorth", "I", false)
  | 2 => ("OneBack$Porter", "picked", "[I", true)
  | 3 => ("OneBack$Porter", "town", "LOneBack$Town;", false)
  | _ => ("OneBack$Porter", "house", "I", false)
def tyX2 : Nat → FieldType := fun k => match k with
  | 0 => .array .int
  | 1 => .int
  | 2 => .array .int
  | 3 => .object "OneBack$Town"
  | _ => .int
theorem nmX2 : ∀ a, a < 5 → ∀ b, b < 5 → a ≠ b → (TX2 a).2.1 ≠ (TX2 b).2.1 := by decide +kernel
theorem tyX2_ok : ∀ k, k < 5 → parseFieldDescriptor (TX2 k).2.2.1 = some (tyX2 k) := by decide +kernel
abbrev cX2_init : ByteArray := prog_4_method_1_code
def yX2_init : MethodName := ⟨RX2, "<init>", "(LOneBack$Town;)V"⟩
abbrev cX2_choose : ByteArray := prog_4_method_2_code
def yX2_choose : MethodName := ⟨RX2, "choose", "(LOneBack$Town;III)V"⟩
abbrev cX2_pick : ByteArray := prog_4_method_3_code
def yX2_pick : MethodName := ⟨RX2, "pick", "(IIII)V"⟩
def RX3 : String := "OneBack$Reader"
def TX3 : u_T := fun k => match k with
  | 0 => ("OneBack$Reader", "fault", "I", false)
  | 1 => ("OneBack$Reader", "place", "I", false)
  | 2 => ("OneBack$Reader", "town", "LOneBack$Town;", true)
  | 3 => ("OneBack$Reader", "law", "LOneBack$Law;", true)
  | 4 => ("OneBack$Reader", "nights", "LOneBack$Nights;", true)
  | 5 => ("OneBack$Reader", "sight", "LOneBack$Sight;", true)
  | 6 => ("OneBack$Reader", "tape", "[B", false)
  | 7 => ("OneBack$Reader", "length", "I", false)
  | 8 => ("OneBack$Reader", "next", "I", false)
  | 9 => ("OneBack$Reader", "token", "I", false)
  | 10 => ("OneBack$Reader", "start", "I", false)
  | 11 => ("OneBack$Reader", "value", "I", false)
  | 12 => ("OneBack$Reader", "numbers", "[I", true)
  | 13 => ("OneBack$Reader", "broken", "Z", false)
  | 14 => ("OneBack$Reader", "topHouse", "I", false)
  | _ => ("OneBack$Reader", "topThief", "I", false)
def tyX3 : Nat → FieldType := fun k => match k with
  | 0 => .int
  | 1 => .int
  | 2 => .object "OneBack$Town"
  | 3 => .object "OneBack$Law"
  | 4 => .object "OneBack$Nights"
  | 5 => .object "OneBack$Sight"
  | 6 => .array .byte
  | 7 => .int
  | 8 => .int
  | 9 => .int
  | 10 => .int
  | 11 => .int
  | 12 => .array .int
  | 13 => .boolean
  | 14 => .int
  | _ => .int
theorem nmX3 : ∀ a, a < 16 → ∀ b, b < 16 → a ≠ b → (TX3 a).2.1 ≠ (TX3 b).2.1 := by decide +kernel
theorem tyX3_ok : ∀ k, k < 16 → parseFieldDescriptor (TX3 k).2.2.1 = some (tyX3 k) := by decide +kernel
abbrev cX3_init : ByteArray := prog_5_method_1_code
def yX3_init : MethodName := ⟨RX3, "<init>", "()V"⟩
abbrev cX3_read : ByteArray := prog_5_method_2_code
def yX3_read : MethodName := ⟨RX3, "read", "([BII)V"⟩
abbrev cX3_begin : ByteArray := prog_5_method_3_code
def yX3_begin : MethodName := ⟨RX3, "begin", "([BI)V"⟩
abbrev cX3_note : ByteArray := prog_5_method_4_code
def yX3_note : MethodName := ⟨RX3, "note", "(II)V"⟩
abbrev cX3_breakOff : ByteArray := prog_5_method_5_code
def yX3_breakOff : MethodName := ⟨RX3, "breakOff", "()V"⟩
abbrev cX3_readLine : ByteArray := prog_5_method_6_code
def yX3_readLine : MethodName := ⟨RX3, "readLine", "(I)V"⟩
abbrev cX3_readNumber : ByteArray := prog_5_method_7_code
def yX3_readNumber : MethodName := ⟨RX3, "readNumber", "(II)V"⟩
abbrev cX3_isFull : ByteArray := prog_5_method_8_code
def yX3_isFull : MethodName := ⟨RX3, "isFull", "(I)Z"⟩
abbrev cX3_lineOf : ByteArray := prog_5_method_9_code
def yX3_lineOf : MethodName := ⟨RX3, "lineOf", "(I)I"⟩
abbrev cX3_wordOf : ByteArray := prog_5_method_10_code
def yX3_wordOf : MethodName := ⟨RX3, "wordOf", "(I)Ljava/lang/String;"⟩
abbrev cX3_isWord : ByteArray := prog_5_method_11_code
def yX3_isWord : MethodName := ⟨RX3, "isWord", "(Ljava/lang/String;)Z"⟩
abbrev cX3_keepLine : ByteArray := prog_5_method_12_code
def yX3_keepLine : MethodName := ⟨RX3, "keepLine", "(I)V"⟩
abbrev cX3_keepTown : ByteArray := prog_5_method_13_code
def yX3_keepTown : MethodName := ⟨RX3, "keepTown", "(I)V"⟩
abbrev cX3_keepLaw : ByteArray := prog_5_method_14_code
def yX3_keepLaw : MethodName := ⟨RX3, "keepLaw", "(I)V"⟩
abbrev cX3_step : ByteArray := prog_5_method_15_code
def yX3_step : MethodName := ⟨RX3, "step", "()V"⟩
abbrev cX3_stepNumber : ByteArray := prog_5_method_16_code
def yX3_stepNumber : MethodName := ⟨RX3, "stepNumber", "()V"⟩
abbrev cX3_byteAt : ByteArray := prog_5_method_17_code
def yX3_byteAt : MethodName := ⟨RX3, "byteAt", "(I)I"⟩
abbrev cX3_isBlank : ByteArray := prog_5_method_18_code
def yX3_isBlank : MethodName := ⟨RX3, "isBlank", "(I)Z"⟩
abbrev cX3_isLetter : ByteArray := prog_5_method_19_code
def yX3_isLetter : MethodName := ⟨RX3, "isLetter", "(I)Z"⟩
abbrev cX3_isDigit : ByteArray := prog_5_method_20_code
def yX3_isDigit : MethodName := ⟨RX3, "isDigit", "(I)Z"⟩
def RX4 : String := "OneBack$Sight"
def TX4 : u_T := fun k => match k with
  | 0 => ("OneBack$Sight", "size", "I", false)
  | 1 => ("OneBack$Sight", "house", "[I", true)
  | 2 => ("OneBack$Sight", "good", "[I", true)
  | _ => ("OneBack$Sight", "left", "[I", true)
def tyX4 : Nat → FieldType := fun k => match k with
  | 0 => .int
  | 1 => .array .int
  | 2 => .array .int
  | _ => .array .int
theorem nmX4 : ∀ a, a < 4 → ∀ b, b < 4 → a ≠ b → (TX4 a).2.1 ≠ (TX4 b).2.1 := by decide +kernel
theorem tyX4_ok : ∀ k, k < 4 → parseFieldDescriptor (TX4 k).2.2.1 = some (tyX4 k) := by decide +kernel
abbrev cX4_init : ByteArray := prog_6_method_1_code
def yX4_init : MethodName := ⟨RX4, "<init>", "()V"⟩
abbrev cX4_clear : ByteArray := prog_6_method_2_code
def yX4_clear : MethodName := ⟨RX4, "clear", "()V"⟩
abbrev cX4_add : ByteArray := prog_6_method_3_code
def yX4_add : MethodName := ⟨RX4, "add", "(II)V"⟩
abbrev cX4_copy : ByteArray := prog_6_method_4_code
def yX4_copy : MethodName := ⟨RX4, "copy", "(LOneBack$Sight;)V"⟩
abbrev cX4_ways : ByteArray := prog_6_method_5_code
def yX4_ways : MethodName := ⟨RX4, "ways", "(LOneBack$Walk;)I"⟩
abbrev cX4_alike : ByteArray := prog_6_method_6_code
def yX4_alike : MethodName := ⟨RX4, "alike", "(III)I"⟩
abbrev cX4_waysOf : ByteArray := prog_6_method_7_code
def yX4_waysOf : MethodName := ⟨RX4, "waysOf", "(LOneBack$Walk;III)I"⟩
abbrev cX4_choices : ByteArray := prog_6_method_8_code
def yX4_choices : MethodName := ⟨RX4, "choices", "(II)I"⟩
abbrev cX4_mayBe : ByteArray := prog_6_method_9_code
def yX4_mayBe : MethodName := ⟨RX4, "mayBe", "(LOneBack$Walk;I)I"⟩
abbrev cX4_movedFrom : ByteArray := prog_6_method_10_code
def yX4_movedFrom : MethodName := ⟨RX4, "movedFrom", "(LOneBack$Town;Z)I"⟩
abbrev cX4_isTold : ByteArray := prog_6_method_11_code
def yX4_isTold : MethodName := ⟨RX4, "isTold", "(LOneBack$Town;I)Z"⟩
abbrev cX4_movedOf : ByteArray := prog_6_method_12_code
def yX4_movedOf : MethodName := ⟨RX4, "movedOf", "(LOneBack$Town;IZ)I"⟩
def RX5 : String := "OneBack$Supply"
def TX5 : u_T := fun k => match k with
  | 0 => ("OneBack$Supply", "costs", "[I", false)
  | _ => ("OneBack$Supply", "nextCosts", "[I", false)
def tyX5 : Nat → FieldType := fun k => match k with
  | 0 => .array .int
  | _ => .array .int
theorem nmX5 : ∀ a, a < 2 → ∀ b, b < 2 → a ≠ b → (TX5 a).2.1 ≠ (TX5 b).2.1 := by decide +kernel
theorem tyX5_ok : ∀ k, k < 2 → parseFieldDescriptor (TX5 k).2.2.1 = some (tyX5 k) := by decide +kernel
abbrev cX5_init : ByteArray := prog_7_method_1_code
def yX5_init : MethodName := ⟨RX5, "<init>", "()V"⟩
abbrev cX5_isAsked : ByteArray := prog_7_method_2_code
def yX5_isAsked : MethodName := ⟨RX5, "isAsked", "(LOneBack$Town;I)Z"⟩
abbrev cX5_isEnough : ByteArray := prog_7_method_3_code
def yX5_isEnough : MethodName := ⟨RX5, "isEnough", "(LOneBack$Town;)Z"⟩
abbrev cX5_answer : ByteArray := prog_7_method_4_code
def yX5_answer : MethodName := ⟨RX5, "answer", "(LOneBack$Town;I)I"⟩
abbrev cX5_takenFrom : ByteArray := prog_7_method_5_code
def yX5_takenFrom : MethodName := ⟨RX5, "takenFrom", "(LOneBack$Town;II)I"⟩
abbrev cX5_nightsFor : ByteArray := prog_7_method_6_code
def yX5_nightsFor : MethodName := ⟨RX5, "nightsFor", "(II)I"⟩
abbrev cX5_carryAll : ByteArray := prog_7_method_7_code
def yX5_carryAll : MethodName := ⟨RX5, "carryAll", "(LOneBack$Town;)I"⟩
abbrev cX5_carryGood : ByteArray := prog_7_method_8_code
def yX5_carryGood : MethodName := ⟨RX5, "carryGood", "(LOneBack$Town;I)I"⟩
abbrev cX5_leastOf : ByteArray := prog_7_method_9_code
def yX5_leastOf : MethodName := ⟨RX5, "leastOf", "(II)I"⟩
def RX6 : String := "OneBack$Told"
def TX6 : u_T := fun k => match k with
  | 0 => ("OneBack$Told", "tape", "[B", true)
  | 1 => ("OneBack$Told", "length", "I", false)
  | 2 => ("OneBack$Told", "fault", "I", false)
  | 3 => ("OneBack$Told", "place", "I", false)
  | 4 => ("OneBack$Told", "counts", "[I", true)
  | 5 => ("OneBack$Told", "towns", "[LOneBack$Town;", true)
  | 6 => ("OneBack$Told", "laws", "[LOneBack$Law;", true)
  | 7 => ("OneBack$Told", "nights", "[LOneBack$Nights;", true)
  | _ => ("OneBack$Told", "sights", "[LOneBack$Sight;", true)
def tyX6 : Nat → FieldType := fun k => match k with
  | 0 => .array .byte
  | 1 => .int
  | 2 => .int
  | 3 => .int
  | 4 => .array .int
  | 5 => .array (.object "OneBack$Town")
  | 6 => .array (.object "OneBack$Law")
  | 7 => .array (.object "OneBack$Nights")
  | _ => .array (.object "OneBack$Sight")
theorem nmX6 : ∀ a, a < 9 → ∀ b, b < 9 → a ≠ b → (TX6 a).2.1 ≠ (TX6 b).2.1 := by decide +kernel
theorem tyX6_ok : ∀ k, k < 9 → parseFieldDescriptor (TX6 k).2.2.1 = some (tyX6 k) := by decide +kernel
abbrev cX6_init : ByteArray := prog_8_method_1_code
def yX6_init : MethodName := ⟨RX6, "<init>", "()V"⟩
abbrev cX6_put : ByteArray := prog_8_method_2_code
def yX6_put : MethodName := ⟨RX6, "put", "(I)V"⟩
abbrev cX6_isThere : ByteArray := prog_8_method_3_code
def yX6_isThere : MethodName := ⟨RX6, "isThere", "(II)Z"⟩
abbrev cX6_townAt : ByteArray := prog_8_method_4_code
def yX6_townAt : MethodName := ⟨RX6, "townAt", "(I)LOneBack$Town;"⟩
abbrev cX6_lawAt : ByteArray := prog_8_method_5_code
def yX6_lawAt : MethodName := ⟨RX6, "lawAt", "(I)LOneBack$Law;"⟩
abbrev cX6_nightsAt : ByteArray := prog_8_method_6_code
def yX6_nightsAt : MethodName := ⟨RX6, "nightsAt", "(I)LOneBack$Nights;"⟩
abbrev cX6_sightAt : ByteArray := prog_8_method_7_code
def yX6_sightAt : MethodName := ⟨RX6, "sightAt", "(I)LOneBack$Sight;"⟩
abbrev cX6_slot : ByteArray := prog_8_method_8_code
def yX6_slot : MethodName := ⟨RX6, "slot", "(II)I"⟩
abbrev cX6_keep : ByteArray := prog_8_method_9_code
def yX6_keep : MethodName := ⟨RX6, "keep", "(LOneBack$Reader;II)V"⟩
abbrev cX6_copy : ByteArray := prog_8_method_10_code
def yX6_copy : MethodName := ⟨RX6, "copy", "(LOneBack$Told;)V"⟩
def RX7 : String := "OneBack$Town"
def TX7 : u_T := fun k => match k with
  | 0 => ("OneBack$Town", "houses", "I", false)
  | 1 => ("OneBack$Town", "thieves", "I", false)
  | 2 => ("OneBack$Town", "has", "[I", true)
  | 3 => ("OneBack$Town", "needs", "[I", true)
  | 4 => ("OneBack$Town", "watch", "[I", true)
  | 5 => ("OneBack$Town", "passes", "[I", true)
  | 6 => ("OneBack$Town", "weight", "[I", true)
  | 7 => ("OneBack$Town", "worth", "[I", true)
  | 8 => ("OneBack$Town", "limit", "[I", true)
  | _ => ("OneBack$Town", "father", "[I", true)
def tyX7 : Nat → FieldType := fun k => match k with
  | 0 => .int
  | 1 => .int
  | 2 => .array .int
  | 3 => .array .int
  | 4 => .array .int
  | 5 => .array .int
  | 6 => .array .int
  | 7 => .array .int
  | 8 => .array .int
  | _ => .array .int
theorem nmX7 : ∀ a, a < 10 → ∀ b, b < 10 → a ≠ b → (TX7 a).2.1 ≠ (TX7 b).2.1 := by decide +kernel
theorem tyX7_ok : ∀ k, k < 10 → parseFieldDescriptor (TX7 k).2.2.1 = some (tyX7 k) := by decide +kernel
abbrev cX7_init : ByteArray := prog_9_method_1_code
def yX7_init : MethodName := ⟨RX7, "<init>", "()V"⟩
abbrev cX7_clear : ByteArray := prog_9_method_2_code
def yX7_clear : MethodName := ⟨RX7, "clear", "()V"⟩
abbrev cX7_copy : ByteArray := prog_9_method_3_code
def yX7_copy : MethodName := ⟨RX7, "copy", "(LOneBack$Town;)V"⟩
abbrev cX7_isHouse : ByteArray := prog_9_method_4_code
def yX7_isHouse : MethodName := ⟨RX7, "isHouse", "(I)Z"⟩
abbrev cX7_isThief : ByteArray := prog_9_method_5_code
def yX7_isThief : MethodName := ⟨RX7, "isThief", "(I)Z"⟩
abbrev cX7_addThief : ByteArray := prog_9_method_6_code
def yX7_addThief : MethodName := ⟨RX7, "addThief", "(I)V"⟩
abbrev cX7_areKin : ByteArray := prog_9_method_7_code
def yX7_areKin : MethodName := ⟨RX7, "areKin", "(II)Z"⟩
abbrev cX7_spareOf : ByteArray := prog_9_method_8_code
def yX7_spareOf : MethodName := ⟨RX7, "spareOf", "(II)I"⟩
abbrev cX7_lackOf : ByteArray := prog_9_method_9_code
def yX7_lackOf : MethodName := ⟨RX7, "lackOf", "(II)I"⟩
abbrev cX7_spareOfAll : ByteArray := prog_9_method_10_code
def yX7_spareOfAll : MethodName := ⟨RX7, "spareOfAll", "(I)I"⟩
abbrev cX7_lackOfAll : ByteArray := prog_9_method_11_code
def yX7_lackOfAll : MethodName := ⟨RX7, "lackOfAll", "(I)I"⟩
abbrev cX7_limitOfAll : ByteArray := prog_9_method_12_code
def yX7_limitOfAll : MethodName := ⟨RX7, "limitOfAll", "()I"⟩
abbrev cX7_worthIn : ByteArray := prog_9_method_13_code
def yX7_worthIn : MethodName := ⟨RX7, "worthIn", "([II)I"⟩
abbrev cX7_evenOut : ByteArray := prog_9_method_14_code
def yX7_evenOut : MethodName := ⟨RX7, "evenOut", "(I)I"⟩
abbrev cX7_crewFor : ByteArray := prog_9_method_15_code
def yX7_crewFor : MethodName := ⟨RX7, "crewFor", "(I)I"⟩
abbrev cX7_limitOf : ByteArray := prog_9_method_16_code
def yX7_limitOf : MethodName := ⟨RX7, "limitOf", "(I)I"⟩
abbrev cX7_pairAt : ByteArray := prog_9_method_17_code
def yX7_pairAt : MethodName := ⟨RX7, "pairAt", "(I)I"⟩
abbrev cX7_helps : ByteArray := prog_9_method_18_code
def yX7_helps : MethodName := ⟨RX7, "helps", "(II)Z"⟩
abbrev cX7_homeAgain : ByteArray := prog_9_method_19_code
def yX7_homeAgain : MethodName := ⟨RX7, "homeAgain", "(I)I"⟩
abbrev cX7_allHome : ByteArray := prog_9_method_20_code
def yX7_allHome : MethodName := ⟨RX7, "allHome", "()I"⟩
abbrev cX7_meeting : ByteArray := prog_9_method_21_code
def yX7_meeting : MethodName := ⟨RX7, "meeting", "(II)I"⟩
abbrev cX7_prizeOf : ByteArray := prog_9_method_22_code
def yX7_prizeOf : MethodName := ⟨RX7, "prizeOf", "(II)I"⟩
abbrev cX7_restAt : ByteArray := prog_9_method_23_code
def yX7_restAt : MethodName := ⟨RX7, "restAt", "(I)I"⟩
abbrev cX7_isBest : ByteArray := prog_9_method_24_code
def yX7_isBest : MethodName := ⟨RX7, "isBest", "(II)Z"⟩
def RX8 : String := "OneBack$Views"
def TX8 : u_T := fun k => match k with
  | _ => ("", "", "", false)
def tyX8 : Nat → FieldType := fun k => match k with
  | _ => .int
theorem nmX8 : ∀ a, a < 0 → ∀ b, b < 0 → a ≠ b → (TX8 a).2.1 ≠ (TX8 b).2.1 := by decide +kernel
theorem tyX8_ok : ∀ k, k < 0 → parseFieldDescriptor (TX8 k).2.2.1 = some (tyX8 k) := by decide +kernel
abbrev cX8_seen : ByteArray := prog_10_method_2_code
def yX8_seen : MethodName := ⟨RX8, "seen", "(LOneBack$Walk;I)I"⟩
abbrev cX8_seenOf : ByteArray := prog_10_method_3_code
def yX8_seenOf : MethodName := ⟨RX8, "seenOf", "(LOneBack$Walk;II)I"⟩
abbrev cX8_want : ByteArray := prog_10_method_4_code
def yX8_want : MethodName := ⟨RX8, "want", "(LOneBack$Walk;)I"⟩
abbrev cX8_pious : ByteArray := prog_10_method_5_code
def yX8_pious : MethodName := ⟨RX8, "pious", "(LOneBack$Walk;)I"⟩
abbrev cX8_lost : ByteArray := prog_10_method_6_code
def yX8_lost : MethodName := ⟨RX8, "lost", "(LOneBack$Walk;I)I"⟩
abbrev cX8_tookFrom : ByteArray := prog_10_method_7_code
def yX8_tookFrom : MethodName := ⟨RX8, "tookFrom", "(LOneBack$Walk;II)I"⟩
abbrev cX8_queued : ByteArray := prog_10_method_8_code
def yX8_queued : MethodName := ⟨RX8, "queued", "(LOneBack$Walk;I)I"⟩
abbrev cX8_isOdd : ByteArray := prog_10_method_9_code
def yX8_isOdd : MethodName := ⟨RX8, "isOdd", "(LOneBack$Walk;I)Z"⟩
abbrev cX8_placeInQueue : ByteArray := prog_10_method_10_code
def yX8_placeInQueue : MethodName := ⟨RX8, "placeInQueue", "(LOneBack$Walk;I)I"⟩
abbrev cX8_rich : ByteArray := prog_10_method_11_code
def yX8_rich : MethodName := ⟨RX8, "rich", "(LOneBack$Walk;I)I"⟩
abbrev cX8_richOf : ByteArray := prog_10_method_12_code
def yX8_richOf : MethodName := ⟨RX8, "richOf", "(LOneBack$Walk;II)I"⟩
abbrev cX8_settle : ByteArray := prog_10_method_13_code
def yX8_settle : MethodName := ⟨RX8, "settle", "(LOneBack$Walk;)I"⟩
abbrev cX8_cut : ByteArray := prog_10_method_14_code
def yX8_cut : MethodName := ⟨RX8, "cut", "(LOneBack$Walk;I)I"⟩
abbrev cX8_isReached : ByteArray := prog_10_method_15_code
def yX8_isReached : MethodName := ⟨RX8, "isReached", "(LOneBack$Walk;II)Z"⟩
abbrev cX8_can : ByteArray := prog_10_method_16_code
def yX8_can : MethodName := ⟨RX8, "can", "(LOneBack$Walk;I)I"⟩
abbrev cX8_wealthOf : ByteArray := prog_10_method_17_code
def yX8_wealthOf : MethodName := ⟨RX8, "wealthOf", "(LOneBack$Walk;I)I"⟩
abbrev cX8_ranked : ByteArray := prog_10_method_18_code
def yX8_ranked : MethodName := ⟨RX8, "ranked", "(LOneBack$Walk;I)I"⟩
abbrev cX8_rankOf : ByteArray := prog_10_method_19_code
def yX8_rankOf : MethodName := ⟨RX8, "rankOf", "(LOneBack$Walk;I)I"⟩
abbrev cX8_unlike : ByteArray := prog_10_method_20_code
def yX8_unlike : MethodName := ⟨RX8, "unlike", "(LOneBack$Walk;Z)I"⟩
abbrev cX8_robbed : ByteArray := prog_10_method_21_code
def yX8_robbed : MethodName := ⟨RX8, "robbed", "(LOneBack$Walk;)I"⟩
def RX9 : String := "OneBack$Walk"
def TX9 : u_T := fun k => match k with
  | 0 => ("OneBack$Walk", "town", "LOneBack$Town;", false)
  | 1 => ("OneBack$Walk", "law", "LOneBack$Law;", false)
  | 2 => ("OneBack$Walk", "has", "[I", true)
  | 3 => ("OneBack$Walk", "bag", "[I", true)
  | 4 => ("OneBack$Walk", "took", "[I", true)
  | 5 => ("OneBack$Walk", "gave", "[I", true)
  | 6 => ("OneBack$Walk", "taken", "[I", true)
  | 7 => ("OneBack$Walk", "given", "[I", true)
  | 8 => ("OneBack$Walk", "trace", "[I", true)
  | 9 => ("OneBack$Walk", "takenTonight", "[I", true)
  | 10 => ("OneBack$Walk", "seenTonight", "[I", true)
  | 11 => ("OneBack$Walk", "lastTake", "[I", true)
  | 12 => ("OneBack$Walk", "takes", "I", false)
  | 13 => ("OneBack$Walk", "caught", "I", false)
  | 14 => ("OneBack$Walk", "night", "I", false)
  | 15 => ("OneBack$Walk", "done", "I", false)
  | _ => ("OneBack$Walk", "seed", "I", false)
def tyX9 : Nat → FieldType := fun k => match k with
  | 0 => .object "OneBack$Town"
  | 1 => .object "OneBack$Law"
  | 2 => .array .int
  | 3 => .array .int
  | 4 => .array .int
  | 5 => .array .int
  | 6 => .array .int
  | 7 => .array .int
  | 8 => .array .int
  | 9 => .array .int
  | 10 => .array .int
  | 11 => .array .int
  | 12 => .int
  | 13 => .int
  | 14 => .int
  | 15 => .int
  | _ => .int
theorem nmX9 : ∀ a, a < 17 → ∀ b, b < 17 → a ≠ b → (TX9 a).2.1 ≠ (TX9 b).2.1 := by decide +kernel
theorem tyX9_ok : ∀ k, k < 17 → parseFieldDescriptor (TX9 k).2.2.1 = some (tyX9 k) := by decide +kernel
abbrev cX9_init : ByteArray := prog_11_method_1_code
def yX9_init : MethodName := ⟨RX9, "<init>", "(LOneBack$Town;LOneBack$Law;)V"⟩
abbrev cX9_begin : ByteArray := prog_11_method_2_code
def yX9_begin : MethodName := ⟨RX9, "begin", "(LOneBack$Town;LOneBack$Law;)V"⟩
abbrev cX9_follow : ByteArray := prog_11_method_3_code
def yX9_follow : MethodName := ⟨RX9, "follow", "(LOneBack$Nights;I)V"⟩
abbrev cX9_act : ByteArray := prog_11_method_4_code
def yX9_act : MethodName := ⟨RX9, "act", "(LOneBack$Nights;I)Z"⟩
abbrev cX9_isFree : ByteArray := prog_11_method_5_code
def yX9_isFree : MethodName := ⟨RX9, "isFree", "(I)Z"⟩
abbrev cX9_owesOf : ByteArray := prog_11_method_6_code
def yX9_owesOf : MethodName := ⟨RX9, "owesOf", "(I)I"⟩
abbrev cX9_lackOf : ByteArray := prog_11_method_7_code
def yX9_lackOf : MethodName := ⟨RX9, "lackOf", "(II)I"⟩
abbrev cX9_takesGift : ByteArray := prog_11_method_8_code
def yX9_takesGift : MethodName := ⟨RX9, "takesGift", "(III)Z"⟩
abbrev cX9_takeOne : ByteArray := prog_11_method_9_code
def yX9_takeOne : MethodName := ⟨RX9, "takeOne", "(III)Z"⟩
abbrev cX9_giveOne : ByteArray := prog_11_method_10_code
def yX9_giveOne : MethodName := ⟨RX9, "giveOne", "(III)Z"⟩
abbrev cX9_setOff : ByteArray := prog_11_method_11_code
def yX9_setOff : MethodName := ⟨RX9, "setOff", "(III)Z"⟩
abbrev cX9_nightEnds : ByteArray := prog_11_method_12_code
def yX9_nightEnds : MethodName := ⟨RX9, "nightEnds", "()V"⟩
abbrev cX9_drawNights : ByteArray := prog_11_method_13_code
def yX9_drawNights : MethodName := ⟨RX9, "drawNights", "(II)V"⟩
abbrev cX9_drawDeeds : ByteArray := prog_11_method_14_code
def yX9_drawDeeds : MethodName := ⟨RX9, "drawDeeds", "(I)V"⟩
abbrev cX9_drawBelow : ByteArray := prog_11_method_15_code
def yX9_drawBelow : MethodName := ⟨RX9, "drawBelow", "(I)I"⟩
abbrev cX9_giveLeast : ByteArray := prog_11_method_16_code
def yX9_giveLeast : MethodName := ⟨RX9, "giveLeast", "(I)Z"⟩
def RX10 : String := "OneBack"
def TX10 : u_T := fun k => match k with
  | 0 => ("OneBack", "told", "LOneBack$Told;", true)
  | 1 => ("OneBack", "images", "[LOneBack$Told;", true)
  | 2 => ("OneBack", "reader", "LOneBack$Reader;", true)
  | 3 => ("OneBack", "walk", "LOneBack$Walk;", true)
  | 4 => ("OneBack", "supply", "LOneBack$Supply;", true)
  | _ => ("OneBack", "porter", "LOneBack$Porter;", true)
def tyX10 : Nat → FieldType := fun k => match k with
  | 0 => .object "OneBack$Told"
  | 1 => .array (.object "OneBack$Told")
  | 2 => .object "OneBack$Reader"
  | 3 => .object "OneBack$Walk"
  | 4 => .object "OneBack$Supply"
  | _ => .object "OneBack$Porter"
theorem nmX10 : ∀ a, a < 6 → ∀ b, b < 6 → a ≠ b → (TX10 a).2.1 ≠ (TX10 b).2.1 := by decide +kernel
theorem tyX10_ok : ∀ k, k < 6 → parseFieldDescriptor (TX10 k).2.2.1 = some (tyX10 k) := by decide +kernel
abbrev cX10_init : ByteArray := prog_1_method_1_code
def yX10_init : MethodName := ⟨RX10, "<init>", "()V"⟩
abbrev cX10_feed : ByteArray := prog_1_method_2_code
def yX10_feed : MethodName := ⟨RX10, "feed", "(IIIII)I"⟩
abbrev cX10_end : ByteArray := prog_1_method_3_code
def yX10_end : MethodName := ⟨RX10, "end", "(I)I"⟩
abbrev cX10_text : ByteArray := prog_1_method_4_code
def yX10_text : MethodName := ⟨RX10, "text", "(II)I"⟩
abbrev cX10_fault : ByteArray := prog_1_method_5_code
def yX10_fault : MethodName := ⟨RX10, "fault", "(I)I"⟩
abbrev cX10_town : ByteArray := prog_1_method_6_code
def yX10_town : MethodName := ⟨RX10, "town", "(II)I"⟩
abbrev cX10_house : ByteArray := prog_1_method_7_code
def yX10_house : MethodName := ⟨RX10, "house", "(IIII)I"⟩
abbrev cX10_law : ByteArray := prog_1_method_8_code
def yX10_law : MethodName := ⟨RX10, "law", "(II)I"⟩
abbrev cX10_deed : ByteArray := prog_1_method_9_code
def yX10_deed : MethodName := ⟨RX10, "deed", "(III)I"⟩
abbrev cX10_stop : ByteArray := prog_1_method_10_code
def yX10_stop : MethodName := ⟨RX10, "stop", "(III)I"⟩
abbrev cX10_state : ByteArray := prog_1_method_11_code
def yX10_state : MethodName := ⟨RX10, "state", "(IIIII)I"⟩
abbrev cX10_goods : ByteArray := prog_1_method_12_code
def yX10_goods : MethodName := ⟨RX10, "goods", "(IIIIIII)I"⟩
abbrev cX10_aid : ByteArray := prog_1_method_13_code
def yX10_aid : MethodName := ⟨RX10, "aid", "(II)I"⟩
abbrev cX10_carry : ByteArray := prog_1_method_14_code
def yX10_carry : MethodName := ⟨RX10, "carry", "(I)I"⟩
abbrev cX10_round : ByteArray := prog_1_method_15_code
def yX10_round : MethodName := ⟨RX10, "round", "(II)I"⟩
abbrev cX10_meets : ByteArray := prog_1_method_16_code
def yX10_meets : MethodName := ⟨RX10, "meets", "(III)I"⟩
abbrev cX10_sight : ByteArray := prog_1_method_17_code
def yX10_sight : MethodName := ⟨RX10, "sight", "(II)I"⟩
abbrev cX10_hands : ByteArray := prog_1_method_18_code
def yX10_hands : MethodName := ⟨RX10, "hands", "(IIIII)I"⟩
abbrev cX10_moved : ByteArray := prog_1_method_19_code
def yX10_moved : MethodName := ⟨RX10, "moved", "(IIZ)I"⟩
abbrev cX10_quit : ByteArray := prog_1_method_20_code
def yX10_quit : MethodName := ⟨RX10, "quit", "(IIIII)I"⟩
abbrev cX10_alms : ByteArray := prog_1_method_21_code
def yX10_alms : MethodName := ⟨RX10, "alms", "(IZ)I"⟩
abbrev cX10_prize : ByteArray := prog_1_method_22_code
def yX10_prize : MethodName := ⟨RX10, "prize", "(III)I"⟩
abbrev cX10_rest : ByteArray := prog_1_method_23_code
def yX10_rest : MethodName := ⟨RX10, "rest", "(II)I"⟩
abbrev cX10_share : ByteArray := prog_1_method_24_code
def yX10_share : MethodName := ⟨RX10, "share", "(IIZ)I"⟩
abbrev cX10_even : ByteArray := prog_1_method_25_code
def yX10_even : MethodName := ⟨RX10, "even", "(II)I"⟩
abbrev cX10_drawn : ByteArray := prog_1_method_26_code
def yX10_drawn : MethodName := ⟨RX10, "drawn", "(IIIII)I"⟩
abbrev cX10_wealth : ByteArray := prog_1_method_27_code
def yX10_wealth : MethodName := ⟨RX10, "wealth", "(IIIII)I"⟩
abbrev cX10_haul : ByteArray := prog_1_method_28_code
def yX10_haul : MethodName := ⟨RX10, "haul", "(IIIII)I"⟩
abbrev cX10_crew : ByteArray := prog_1_method_29_code
def yX10_crew : MethodName := ⟨RX10, "crew", "(IIZ)I"⟩
abbrev cX10_pairs : ByteArray := prog_1_method_30_code
def yX10_pairs : MethodName := ⟨RX10, "pairs", "(II)I"⟩
abbrev cX10_count : ByteArray := prog_1_method_31_code
def yX10_count : MethodName := ⟨RX10, "count", "(I)I"⟩
abbrev cX10_image : ByteArray := prog_1_method_32_code
def yX10_image : MethodName := ⟨RX10, "image", "(I)Z"⟩
abbrev cX10_again : ByteArray := prog_1_method_33_code
def yX10_again : MethodName := ⟨RX10, "again", "(I)Z"⟩
abbrev cX10_walkTo : ByteArray := prog_1_method_34_code
def yX10_walkTo : MethodName := ⟨RX10, "walkTo", "(IIII)Z"⟩
abbrev cX10_walkJust : ByteArray := prog_1_method_35_code
def yX10_walkJust : MethodName := ⟨RX10, "walkJust", "(IIII)Z"⟩
abbrev cX10_isGood : ByteArray := prog_1_method_36_code
def yX10_isGood : MethodName := ⟨RX10, "isGood", "(I)Z"⟩
abbrev cX10_cell : ByteArray := prog_1_method_37_code
def yX10_cell : MethodName := ⟨RX10, "cell", "(II)I"⟩
abbrev cX10_cell_ : ByteArray := prog_1_method_38_code
def yX10_cell_ : MethodName := ⟨RX10, "cell", "(III)I"⟩
abbrev cX10_weighings : ByteArray := prog_1_method_39_code
def yX10_weighings : MethodName := ⟨RX10, "weighings", "(I)I"⟩
abbrev cX10_leastTerms : ByteArray := prog_1_method_40_code
def yX10_leastTerms : MethodName := ⟨RX10, "leastTerms", "(IIZ)I"⟩
abbrev cX10_commonDivisor : ByteArray := prog_1_method_41_code
def yX10_commonDivisor : MethodName := ⟨RX10, "commonDivisor", "(II)I"⟩
abbrev cX10_copyRow : ByteArray := prog_1_method_42_code
def yX10_copyRow : MethodName := ⟨RX10, "copyRow", "([I[I)V"⟩
abbrev cX10_fillRow : ByteArray := prog_1_method_43_code
def yX10_fillRow : MethodName := ⟨RX10, "fillRow", "([II)V"⟩
def RX11 : String := "OneBackModel"
def TX11 : u_T := fun k => match k with
  | 0 => ("OneBackModel", "code", "I", false)
  | 1 => ("OneBackModel", "tape", "[B", true)
  | 2 => ("OneBackModel", "size", "[I", true)
  | 3 => ("OneBackModel", "fault", "[I", true)
  | 4 => ("OneBackModel", "faultPlace", "[I", true)
  | 5 => ("OneBackModel", "many", "[I", true)
  | 6 => ("OneBackModel", "towns", "[I", true)
  | 7 => ("OneBackModel", "laws", "[I", true)
  | 8 => ("OneBackModel", "nights", "[I", true)
  | 9 => ("OneBackModel", "sights", "[I", true)
  | 10 => ("OneBackModel", "reached", "I", false)
  | 11 => ("OneBackModel", "length", "I", false)
  | 12 => ("OneBackModel", "begins", "I", false)
  | 13 => ("OneBackModel", "sort", "I", false)
  | 14 => ("OneBackModel", "value", "I", false)
  | 15 => ("OneBackModel", "word", "J", false)
  | 16 => ("OneBackModel", "wrongAt", "I", false)
  | 17 => ("OneBackModel", "laterFault", "I", false)
  | 18 => ("OneBackModel", "laterPlace", "I", false)
  | 19 => ("OneBackModel", "told", "[I", true)
  | 20 => ("OneBackModel", "read", "[I", true)
  | 21 => ("OneBackModel", "farHouse", "I", false)
  | 22 => ("OneBackModel", "farThief", "I", false)
  | 23 => ("OneBackModel", "good", "Z", false)
  | 24 => ("OneBackModel", "town", "I", false)
  | 25 => ("OneBackModel", "houses", "I", false)
  | 26 => ("OneBackModel", "thieves", "I", false)
  | 27 => ("OneBackModel", "law", "I", false)
  | 28 => ("OneBackModel", "row", "I", false)
  | 29 => ("OneBackModel", "stock", "[I", true)
  | 30 => ("OneBackModel", "bag", "[I", true)
  | 31 => ("OneBackModel", "took", "[I", true)
  | 32 => ("OneBackModel", "gave", "[I", true)
  | 33 => ("OneBackModel", "tonight", "[I", true)
  | 34 => ("OneBackModel", "watched", "[I", true)
  | 35 => ("OneBackModel", "taken", "[I", true)
  | 36 => ("OneBackModel", "given", "[I", true)
  | 37 => ("OneBackModel", "trace", "[I", true)
  | 38 => ("OneBackModel", "lastTake", "[I", true)
  | 39 => ("OneBackModel", "lost", "[I", true)
  | 40 => ("OneBackModel", "night", "I", false)
  | 41 => ("OneBackModel", "caught", "I", false)
  | 42 => ("OneBackModel", "clock", "I", false)
  | 43 => ("OneBackModel", "aided", "[I", true)
  | 44 => ("OneBackModel", "aidCost", "I", false)
  | 45 => ("OneBackModel", "aidMany", "I", false)
  | 46 => ("OneBackModel", "carried", "[I", true)
  | 47 => ("OneBackModel", "then", "[I", true)
  | 48 => ("OneBackModel", "sight", "I", false)
  | 49 => ("OneBackModel", "seed", "I", false)
  | _ => ("OneBackModel", "kept", "[Z", true)
def tyX11 : Nat → FieldType := fun k => match k with
  | 0 => .int
  | 1 => .array .byte
  | 2 => .array .int
  | 3 => .array .int
  | 4 => .array .int
  | 5 => .array .int
  | 6 => .array .int
  | 7 => .array .int
  | 8 => .array .int
  | 9 => .array .int
  | 10 => .int
  | 11 => .int
  | 12 => .int
  | 13 => .int
  | 14 => .int
  | 15 => .long
  | 16 => .int
  | 17 => .int
  | 18 => .int
  | 19 => .array .int
  | 20 => .array .int
  | 21 => .int
  | 22 => .int
  | 23 => .boolean
  | 24 => .int
  | 25 => .int
  | 26 => .int
  | 27 => .int
  | 28 => .int
  | 29 => .array .int
  | 30 => .array .int
  | 31 => .array .int
  | 32 => .array .int
  | 33 => .array .int
  | 34 => .array .int
  | 35 => .array .int
  | 36 => .array .int
  | 37 => .array .int
  | 38 => .array .int
  | 39 => .array .int
  | 40 => .int
  | 41 => .int
  | 42 => .int
  | 43 => .array .int
  | 44 => .int
  | 45 => .int
  | 46 => .array .int
  | 47 => .array .int
  | 48 => .int
  | 49 => .int
  | _ => .array .boolean
theorem nmX11 : ∀ a, a < 51 → ∀ b, b < 51 → a ≠ b → (TX11 a).2.1 ≠ (TX11 b).2.1 := by decide +kernel
theorem tyX11_ok : ∀ k, k < 51 → parseFieldDescriptor (TX11 k).2.2.1 = some (tyX11 k) := by decide +kernel
abbrev cX11_init : ByteArray := prog_13_method_1_code
def yX11_init : MethodName := ⟨RX11, "<init>", "()V"⟩
abbrev cX11_in : ByteArray := prog_13_method_3_code
def yX11_in : MethodName := ⟨RX11, "in", "(III)Z"⟩
abbrev cX11_has : ByteArray := prog_13_method_4_code
def yX11_has : MethodName := ⟨RX11, "has", "(II)Z"⟩
abbrev cX11_greater : ByteArray := prog_13_method_5_code
def yX11_greater : MethodName := ⟨RX11, "greater", "(II)I"⟩
abbrev cX11_lesser : ByteArray := prog_13_method_6_code
def yX11_lesser : MethodName := ⟨RX11, "lesser", "(II)I"⟩
abbrev cX11_size : ByteArray := prog_13_method_7_code
def yX11_size : MethodName := ⟨RX11, "size", "(I)I"⟩
abbrev cX11_copyRow : ByteArray := prog_13_method_8_code
def yX11_copyRow : MethodName := ⟨RX11, "copyRow", "([IIII)V"⟩
abbrev cX11_copyAll : ByteArray := prog_13_method_9_code
def yX11_copyAll : MethodName := ⟨RX11, "copyAll", "(II)V"⟩
abbrev cX11_is : ByteArray := prog_13_method_10_code
def yX11_is : MethodName := ⟨RX11, "is", "(II)Z"⟩
abbrev cX11_feed : ByteArray := prog_13_method_11_code
def yX11_feed : MethodName := ⟨RX11, "feed", "(IIIII)I"⟩
abbrev cX11_four : ByteArray := prog_13_method_12_code
def yX11_four : MethodName := ⟨RX11, "four", "(I)V"⟩
abbrev cX11_end : ByteArray := prog_13_method_13_code
def yX11_end : MethodName := ⟨RX11, "end", "(I)I"⟩
abbrev cX11_see : ByteArray := prog_13_method_14_code
def yX11_see : MethodName := ⟨RX11, "see", "()I"⟩
abbrev cX11_token : ByteArray := prog_13_method_15_code
def yX11_token : MethodName := ⟨RX11, "token", "()V"⟩
abbrev cX11_fails : ByteArray := prog_13_method_16_code
def yX11_fails : MethodName := ⟨RX11, "fails", "()Z"⟩
abbrev cX11_later : ByteArray := prog_13_method_17_code
def yX11_later : MethodName := ⟨RX11, "later", "(II)V"⟩
abbrev cX11_takeBut : ByteArray := prog_13_method_18_code
def yX11_takeBut : MethodName := ⟨RX11, "takeBut", "(IIII)Z"⟩
abbrev cX11_take : ByteArray := prog_13_method_19_code
def yX11_take : MethodName := ⟨RX11, "take", "(III)Z"⟩
abbrev cX11_takeHouse : ByteArray := prog_13_method_20_code
def yX11_takeHouse : MethodName := ⟨RX11, "takeHouse", "(I)Z"⟩
abbrev cX11_full : ByteArray := prog_13_method_21_code
def yX11_full : MethodName := ⟨RX11, "full", "(III)V"⟩
abbrev cX11_keep : ByteArray := prog_13_method_22_code
def yX11_keep : MethodName := ⟨RX11, "keep", "(IIII)V"⟩
abbrev cX11_lay : ByteArray := prog_13_method_23_code
def yX11_lay : MethodName := ⟨RX11, "lay", "(II)V"⟩
abbrev cX11_goodsLine : ByteArray := prog_13_method_24_code
def yX11_goodsLine : MethodName := ⟨RX11, "goodsLine", "(I)Z"⟩
abbrev cX11_sonLine : ByteArray := prog_13_method_25_code
def yX11_sonLine : MethodName := ⟨RX11, "sonLine", "()Z"⟩
abbrev cX11_houseLine : ByteArray := prog_13_method_26_code
def yX11_houseLine : MethodName := ⟨RX11, "houseLine", "(J)Z"⟩
abbrev cX11_goodLine : ByteArray := prog_13_method_27_code
def yX11_goodLine : MethodName := ⟨RX11, "goodLine", "(J)Z"⟩
abbrev cX11_townLine : ByteArray := prog_13_method_28_code
def yX11_townLine : MethodName := ⟨RX11, "townLine", "(JI)Z"⟩
abbrev cX11_lawLine : ByteArray := prog_13_method_29_code
def yX11_lawLine : MethodName := ⟨RX11, "lawLine", "(J)Z"⟩
abbrev cX11_nightsLine : ByteArray := prog_13_method_30_code
def yX11_nightsLine : MethodName := ⟨RX11, "nightsLine", "(JI)Z"⟩
abbrev cX11_sightLine : ByteArray := prog_13_method_31_code
def yX11_sightLine : MethodName := ⟨RX11, "sightLine", "(JI)Z"⟩
abbrev cX11_lineOf : ByteArray := prog_13_method_32_code
def yX11_lineOf : MethodName := ⟨RX11, "lineOf", "(IJI)Z"⟩
abbrev cX11_lines : ByteArray := prog_13_method_33_code
def yX11_lines : MethodName := ⟨RX11, "lines", "(I)Z"⟩
abbrev cX11_blankTown : ByteArray := prog_13_method_34_code
def yX11_blankTown : MethodName := ⟨RX11, "blankTown", "()V"⟩
abbrev cX11_blank : ByteArray := prog_13_method_35_code
def yX11_blank : MethodName := ⟨RX11, "blank", "(I)V"⟩
abbrev cX11_readText : ByteArray := prog_13_method_36_code
def yX11_readText : MethodName := ⟨RX11, "readText", "(I)Z"⟩
abbrev cX11_store : ByteArray := prog_13_method_37_code
def yX11_store : MethodName := ⟨RX11, "store", "([III)V"⟩
abbrev cX11_storeAll : ByteArray := prog_13_method_38_code
def yX11_storeAll : MethodName := ⟨RX11, "storeAll", "(II)V"⟩
abbrev cX11_text : ByteArray := prog_13_method_39_code
def yX11_text : MethodName := ⟨RX11, "text", "(II)I"⟩
abbrev cX11_fault : ByteArray := prog_13_method_40_code
def yX11_fault : MethodName := ⟨RX11, "fault", "(I)I"⟩
abbrev cX11_of : ByteArray := prog_13_method_41_code
def yX11_of : MethodName := ⟨RX11, "of", "(I)I"⟩
abbrev cX11_hand : ByteArray := prog_13_method_42_code
def yX11_hand : MethodName := ⟨RX11, "hand", "(I)Z"⟩
abbrev cX11_isHouse : ByteArray := prog_13_method_43_code
def yX11_isHouse : MethodName := ⟨RX11, "isHouse", "(I)Z"⟩
abbrev cX11_isThief : ByteArray := prog_13_method_44_code
def yX11_isThief : MethodName := ⟨RX11, "isThief", "(I)Z"⟩
abbrev cX11_isGood : ByteArray := prog_13_method_45_code
def yX11_isGood : MethodName := ⟨RX11, "isGood", "(I)Z"⟩
abbrev cX11_spare : ByteArray := prog_13_method_46_code
def yX11_spare : MethodName := ⟨RX11, "spare", "(II)I"⟩
abbrev cX11_lacks : ByteArray := prog_13_method_47_code
def yX11_lacks : MethodName := ⟨RX11, "lacks", "(II)I"⟩
abbrev cX11_town : ByteArray := prog_13_method_48_code
def yX11_town : MethodName := ⟨RX11, "town", "(II)I"⟩
abbrev cX11_house : ByteArray := prog_13_method_49_code
def yX11_house : MethodName := ⟨RX11, "house", "(IIII)I"⟩
abbrev cX11_lawOf : ByteArray := prog_13_method_50_code
def yX11_lawOf : MethodName := ⟨RX11, "lawOf", "(I)I"⟩
abbrev cX11_hasLaw : ByteArray := prog_13_method_51_code
def yX11_hasLaw : MethodName := ⟨RX11, "hasLaw", "(I)Z"⟩
abbrev cX11_isDouble : ByteArray := prog_13_method_52_code
def yX11_isDouble : MethodName := ⟨RX11, "isDouble", "(I)Z"⟩
abbrev cX11_law : ByteArray := prog_13_method_53_code
def yX11_law : MethodName := ⟨RX11, "law", "(II)I"⟩
abbrev cX11_deeds : ByteArray := prog_13_method_54_code
def yX11_deeds : MethodName := ⟨RX11, "deeds", "()I"⟩
abbrev cX11_deedOf : ByteArray := prog_13_method_55_code
def yX11_deedOf : MethodName := ⟨RX11, "deedOf", "(II)I"⟩
abbrev cX11_hasNights : ByteArray := prog_13_method_56_code
def yX11_hasNights : MethodName := ⟨RX11, "hasNights", "(I)Z"⟩
abbrev cX11_deed : ByteArray := prog_13_method_57_code
def yX11_deed : MethodName := ⟨RX11, "deed", "(III)I"⟩
abbrev cX11_begin : ByteArray := prog_13_method_58_code
def yX11_begin : MethodName := ⟨RX11, "begin", "()V"⟩
abbrev cX11_place : ByteArray := prog_13_method_59_code
def yX11_place : MethodName := ⟨RX11, "place", "(III)I"⟩
abbrev cX11_isFree : ByteArray := prog_13_method_60_code
def yX11_isFree : MethodName := ⟨RX11, "isFree", "(I)Z"⟩
abbrev cX11_owes : ByteArray := prog_13_method_61_code
def yX11_owes : MethodName := ⟨RX11, "owes", "(I)I"⟩
abbrev cX11_odd : ByteArray := prog_13_method_62_code
def yX11_odd : MethodName := ⟨RX11, "odd", "(I)I"⟩
abbrev cX11_takes : ByteArray := prog_13_method_63_code
def yX11_takes : MethodName := ⟨RX11, "takes", "(III)Z"⟩
abbrev cX11_mayGive : ByteArray := prog_13_method_64_code
def yX11_mayGive : MethodName := ⟨RX11, "mayGive", "(III)Z"⟩
abbrev cX11_gives : ByteArray := prog_13_method_65_code
def yX11_gives : MethodName := ⟨RX11, "gives", "(III)Z"⟩
abbrev cX11_sets : ByteArray := prog_13_method_66_code
def yX11_sets : MethodName := ⟨RX11, "sets", "(III)Z"⟩
abbrev cX11_ends : ByteArray := prog_13_method_67_code
def yX11_ends : MethodName := ⟨RX11, "ends", "()V"⟩
abbrev cX11_does : ByteArray := prog_13_method_68_code
def yX11_does : MethodName := ⟨RX11, "does", "(I)Z"⟩
abbrev cX11_play : ByteArray := prog_13_method_69_code
def yX11_play : MethodName := ⟨RX11, "play", "(I)I"⟩
abbrev cX11_layAll : ByteArray := prog_13_method_70_code
def yX11_layAll : MethodName := ⟨RX11, "layAll", "(III)Z"⟩
abbrev cX11_layState : ByteArray := prog_13_method_71_code
def yX11_layState : MethodName := ⟨RX11, "layState", "(IIII)Z"⟩
abbrev cX11_stop : ByteArray := prog_13_method_72_code
def yX11_stop : MethodName := ⟨RX11, "stop", "(III)I"⟩
abbrev cX11_want : ByteArray := prog_13_method_73_code
def yX11_want : MethodName := ⟨RX11, "want", "()I"⟩
abbrev cX11_pious : ByteArray := prog_13_method_74_code
def yX11_pious : MethodName := ⟨RX11, "pious", "()I"⟩
abbrev cX11_queued : ByteArray := prog_13_method_75_code
def yX11_queued : MethodName := ⟨RX11, "queued", "(I)I"⟩
abbrev cX11_ofEach : ByteArray := prog_13_method_76_code
def yX11_ofEach : MethodName := ⟨RX11, "ofEach", "(I)I"⟩
abbrev cX11_ofState : ByteArray := prog_13_method_77_code
def yX11_ofState : MethodName := ⟨RX11, "ofState", "(I)I"⟩
abbrev cX11_state : ByteArray := prog_13_method_78_code
def yX11_state : MethodName := ⟨RX11, "state", "(IIIII)I"⟩
abbrev cX11_goods : ByteArray := prog_13_method_79_code
def yX11_goods : MethodName := ⟨RX11, "goods", "(IIIIIII)I"⟩
abbrev cX11_aidGood : ByteArray := prog_13_method_80_code
def yX11_aidGood : MethodName := ⟨RX11, "aidGood", "(I)Z"⟩
abbrev cX11_findAid : ByteArray := prog_13_method_81_code
def yX11_findAid : MethodName := ⟨RX11, "findAid", "()Z"⟩
abbrev cX11_aidNights : ByteArray := prog_13_method_82_code
def yX11_aidNights : MethodName := ⟨RX11, "aidNights", "()I"⟩
abbrev cX11_aid : ByteArray := prog_13_method_83_code
def yX11_aid : MethodName := ⟨RX11, "aid", "(II)I"⟩
abbrev cX11_carryOn : ByteArray := prog_13_method_84_code
def yX11_carryOn : MethodName := ⟨RX11, "carryOn", "(II)V"⟩
abbrev cX11_carryGood : ByteArray := prog_13_method_85_code
def yX11_carryGood : MethodName := ⟨RX11, "carryGood", "(I)I"⟩
abbrev cX11_carry : ByteArray := prog_13_method_86_code
def yX11_carry : MethodName := ⟨RX11, "carry", "(I)I"⟩
abbrev cX11_roundOf : ByteArray := prog_13_method_87_code
def yX11_roundOf : MethodName := ⟨RX11, "roundOf", "(I)I"⟩
abbrev cX11_common : ByteArray := prog_13_method_88_code
def yX11_common : MethodName := ⟨RX11, "common", "(II)I"⟩
abbrev cX11_round : ByteArray := prog_13_method_89_code
def yX11_round : MethodName := ⟨RX11, "round", "(II)I"⟩
abbrev cX11_meets : ByteArray := prog_13_method_90_code
def yX11_meets : MethodName := ⟨RX11, "meets", "(III)I"⟩
abbrev cX11_gifts : ByteArray := prog_13_method_91_code
def yX11_gifts : MethodName := ⟨RX11, "gifts", "()I"⟩
abbrev cX11_giftOf : ByteArray := prog_13_method_92_code
def yX11_giftOf : MethodName := ⟨RX11, "giftOf", "(II)I"⟩
abbrev cX11_left : ByteArray := prog_13_method_93_code
def yX11_left : MethodName := ⟨RX11, "left", "(II)I"⟩
abbrev cX11_hasSight : ByteArray := prog_13_method_94_code
def yX11_hasSight : MethodName := ⟨RX11, "hasSight", "(I)Z"⟩
abbrev cX11_sight : ByteArray := prog_13_method_95_code
def yX11_sight : MethodName := ⟨RX11, "sight", "(II)I"⟩
abbrev cX11_handOf : ByteArray := prog_13_method_96_code
def yX11_handOf : MethodName := ⟨RX11, "handOf", "(II)I"⟩
abbrev cX11_canBe : ByteArray := prog_13_method_97_code
def yX11_canBe : MethodName := ⟨RX11, "canBe", "(I)Z"⟩
abbrev cX11_hands : ByteArray := prog_13_method_98_code
def yX11_hands : MethodName := ⟨RX11, "hands", "(IIIII)I"⟩
abbrev cX11_isToldAll : ByteArray := prog_13_method_99_code
def yX11_isToldAll : MethodName := ⟨RX11, "isToldAll", "(I)Z"⟩
abbrev cX11_moved : ByteArray := prog_13_method_100_code
def yX11_moved : MethodName := ⟨RX11, "moved", "(IIZ)I"⟩
abbrev cX11_doubles : ByteArray := prog_13_method_101_code
def yX11_doubles : MethodName := ⟨RX11, "doubles", "(II)I"⟩
abbrev cX11_giftsBy : ByteArray := prog_13_method_102_code
def yX11_giftsBy : MethodName := ⟨RX11, "giftsBy", "(IIII)I"⟩
abbrev cX11_quit : ByteArray := prog_13_method_103_code
def yX11_quit : MethodName := ⟨RX11, "quit", "(IIIII)I"⟩
abbrev cX11_alms : ByteArray := prog_13_method_104_code
def yX11_alms : MethodName := ⟨RX11, "alms", "(IZ)I"⟩
abbrev cX11_worthOf : ByteArray := prog_13_method_105_code
def yX11_worthOf : MethodName := ⟨RX11, "worthOf", "(I)I"⟩
abbrev cX11_prizeOf : ByteArray := prog_13_method_106_code
def yX11_prizeOf : MethodName := ⟨RX11, "prizeOf", "(II)I"⟩
abbrev cX11_prize : ByteArray := prog_13_method_107_code
def yX11_prize : MethodName := ⟨RX11, "prize", "(III)I"⟩
abbrev cX11_isRest : ByteArray := prog_13_method_108_code
def yX11_isRest : MethodName := ⟨RX11, "isRest", "(II)Z"⟩
abbrev cX11_rest : ByteArray := prog_13_method_109_code
def yX11_rest : MethodName := ⟨RX11, "rest", "(II)I"⟩
abbrev cX11_least : ByteArray := prog_13_method_110_code
def yX11_least : MethodName := ⟨RX11, "least", "(IIZ)I"⟩
abbrev cX11_share : ByteArray := prog_13_method_111_code
def yX11_share : MethodName := ⟨RX11, "share", "(IIZ)I"⟩
abbrev cX11_even : ByteArray := prog_13_method_112_code
def yX11_even : MethodName := ⟨RX11, "even", "(II)I"⟩
abbrev cX11_draw : ByteArray := prog_13_method_113_code
def yX11_draw : MethodName := ⟨RX11, "draw", "(I)I"⟩
abbrev cX11_givesOne : ByteArray := prog_13_method_114_code
def yX11_givesOne : MethodName := ⟨RX11, "givesOne", "(I)Z"⟩
abbrev cX11_drawThief : ByteArray := prog_13_method_115_code
def yX11_drawThief : MethodName := ⟨RX11, "drawThief", "(I)V"⟩
abbrev cX11_drawn : ByteArray := prog_13_method_116_code
def yX11_drawn : MethodName := ⟨RX11, "drawn", "(IIIII)I"⟩
abbrev cX11_areKin : ByteArray := prog_13_method_117_code
def yX11_areKin : MethodName := ⟨RX11, "areKin", "(II)Z"⟩
abbrev cX11_settle : ByteArray := prog_13_method_118_code
def yX11_settle : MethodName := ⟨RX11, "settle", "()I"⟩
abbrev cX11_can : ByteArray := prog_13_method_119_code
def yX11_can : MethodName := ⟨RX11, "can", "(I)I"⟩
abbrev cX11_wealthOf : ByteArray := prog_13_method_120_code
def yX11_wealthOf : MethodName := ⟨RX11, "wealthOf", "(I)I"⟩
abbrev cX11_ranked : ByteArray := prog_13_method_121_code
def yX11_ranked : MethodName := ⟨RX11, "ranked", "(I)I"⟩
abbrev cX11_gap : ByteArray := prog_13_method_122_code
def yX11_gap : MethodName := ⟨RX11, "gap", "()I"⟩
abbrev cX11_unlike : ByteArray := prog_13_method_123_code
def yX11_unlike : MethodName := ⟨RX11, "unlike", "(Z)I"⟩
abbrev cX11_robbed : ByteArray := prog_13_method_124_code
def yX11_robbed : MethodName := ⟨RX11, "robbed", "()I"⟩
abbrev cX11_wealth : ByteArray := prog_13_method_125_code
def yX11_wealth : MethodName := ⟨RX11, "wealth", "(IIIII)I"⟩
abbrev cX11_figure : ByteArray := prog_13_method_126_code
def yX11_figure : MethodName := ⟨RX11, "figure", "(II)I"⟩
abbrev cX11_haulWorth : ByteArray := prog_13_method_127_code
def yX11_haulWorth : MethodName := ⟨RX11, "haulWorth", "(IIII)I"⟩
abbrev cX11_haul : ByteArray := prog_13_method_128_code
def yX11_haul : MethodName := ⟨RX11, "haul", "(IIIII)I"⟩
abbrev cX11_limits : ByteArray := prog_13_method_129_code
def yX11_limits : MethodName := ⟨RX11, "limits", "(I)I"⟩
abbrev cX11_heads : ByteArray := prog_13_method_130_code
def yX11_heads : MethodName := ⟨RX11, "heads", "(I)I"⟩
abbrev cX11_crew : ByteArray := prog_13_method_131_code
def yX11_crew : MethodName := ⟨RX11, "crew", "(IIZ)I"⟩
abbrev cX11_helps : ByteArray := prog_13_method_132_code
def yX11_helps : MethodName := ⟨RX11, "helps", "(II)Z"⟩
abbrev cX11_pairs : ByteArray := prog_13_method_133_code
def yX11_pairs : MethodName := ⟨RX11, "pairs", "(II)I"⟩
abbrev cX11_count : ByteArray := prog_13_method_134_code
def yX11_count : MethodName := ⟨RX11, "count", "(I)I"⟩
abbrev cX11_image : ByteArray := prog_13_method_135_code
def yX11_image : MethodName := ⟨RX11, "image", "(I)Z"⟩
abbrev cX11_again : ByteArray := prog_13_method_136_code
def yX11_again : MethodName := ⟨RX11, "again", "(I)Z"⟩
def RJ6 : String := "java/lang/Integer"
def TJ6 : u_T := fun k => match k with
  | _ => ("", "", "", false)
def tyJ6 : Nat → FieldType := fun k => match k with
  | _ => .int
abbrev cJ6_bitCount_0f7a4 : ByteArray := prog_14_method_49_code
def yJ6_bitCount_0f7a4 : MethodName := ⟨RJ6, "bitCount", "(I)I"⟩
def RJ9 : String := "java/lang/Math"
def TJ9 : u_T := fun k => match k with
  | _ => ("", "", "", false)
def tyJ9 : Nat → FieldType := fun k => match k with
  | _ => .int
abbrev cJ9_abs_0f7a4 : ByteArray := prog_15_method_59_code
def yJ9_abs_0f7a4 : MethodName := ⟨RJ9, "abs", "(I)I"⟩
abbrev cJ9_max_7cf53 : ByteArray := prog_15_method_65_code
def yJ9_max_7cf53 : MethodName := ⟨RJ9, "max", "(II)I"⟩
abbrev cJ9_min_7cf53 : ByteArray := prog_15_method_69_code
def yJ9_min_7cf53 : MethodName := ⟨RJ9, "min", "(II)I"⟩
def RJ0 : String := "java/lang/String"
def TJ0 : u_T := fun k => match k with
  | _ => ("", "", "", false)
def tyJ0 : Nat → FieldType := fun k => match k with
  | _ => .int
abbrev cJ0_length_8abf5 : ByteArray := prog_16_method_54_code
def yJ0_length_8abf5 : MethodName := ⟨RJ0, "length", "()I"⟩
abbrev cJ0_charAt_5068e : ByteArray := prog_16_method_56_code
def yJ0_charAt_5068e : MethodName := ⟨RJ0, "charAt", "(I)C"⟩
abbrev cJ0_coder_7d493 : ByteArray := prog_16_method_152_code
def yJ0_coder_7d493 : MethodName := ⟨RJ0, "coder", "()B"⟩
abbrev cJ0_isLatin1_aae02 : ByteArray := prog_16_method_154_code
def yJ0_isLatin1_aae02 : MethodName := ⟨RJ0, "isLatin1", "()Z"⟩
abbrev cJ0_checkIndex_df160 : ByteArray := prog_16_method_155_code
def yJ0_checkIndex_df160 : MethodName := ⟨RJ0, "checkIndex", "(II)V"⟩
def RJ1 : String := "java/lang/StringLatin1"
def TJ1 : u_T := fun k => match k with
  | _ => ("", "", "", false)
def tyJ1 : Nat → FieldType := fun k => match k with
  | _ => .int
abbrev cJ1_charAt_3b067 : ByteArray := prog_17_method_2_code
def yJ1_charAt_3b067 : MethodName := ⟨RJ1, "charAt", "([BI)C"⟩
def RJ2 : String := "java/lang/StringUTF16"
def TJ2 : u_T := fun k => match k with
  | _ => ("", "", "", false)
def tyJ2 : Nat → FieldType := fun k => match k with
  | _ => .int
abbrev cJ2_getChar_3b067 : ByteArray := prog_18_method_5_code
def yJ2_getChar_3b067 : MethodName := ⟨RJ2, "getChar", "([BI)C"⟩
abbrev cJ2_length_9d52b : ByteArray := prog_18_method_6_code
def yJ2_length_9d52b : MethodName := ⟨RJ2, "length", "([B)I"⟩
abbrev cJ2_charAt_3b067 : ByteArray := prog_18_method_83_code
def yJ2_charAt_3b067 : MethodName := ⟨RJ2, "charAt", "([BI)C"⟩
abbrev cJ2_checkIndex_2214a : ByteArray := prog_18_method_91_code
def yJ2_checkIndex_2214a : MethodName := ⟨RJ2, "checkIndex", "(I[B)V"⟩
def RJ10 : String := "java/lang/System"
def TJ10 : u_T := fun k => match k with
  | _ => ("", "", "", false)
def tyJ10 : Nat → FieldType := fun k => match k with
  | _ => .int
def RJ3 : String := "jdk/internal/util/Preconditions"
def TJ3 : u_T := fun k => match k with
  | _ => ("", "", "", false)
def tyJ3 : Nat → FieldType := fun k => match k with
  | _ => .int
abbrev cJ3_checkIndex_8e157 : ByteArray := prog_20_method_11_code
def yJ3_checkIndex_8e157 : MethodName := ⟨RJ3, "checkIndex", "(IILjava/util/function/BiFunction;)I"⟩
def RL : String := "OneBackLaw"
abbrev cL_law : ByteArray := code
def yL_law : MethodName := ⟨RL, "law", "([I)Z"⟩
abbrev vwCl : List vw_C := [(RX0, TX0, 3), (RX1, TX1, 5), (RX2, TX2, 5), (RX3, TX3, 16), (RX4, TX4, 4), (RX5, TX5, 2), (RX6, TX6, 9), (RX7, TX7, 10), (RX9, TX9, 17), (RX10, TX10, 6), (RX11, TX11, 51)]
end
section
/-! numbers: the machine's ints as integers -/
def w32 (x : Int) : Int := (x + 2147483648) % 4294967296 - 2147483648
def w64 (x : Int) : Int := (x + 9223372036854775808) % 18446744073709551616 - 9223372036854775808
def w8 (x : Int) : Int := (x + 128) % 256 - 128
def r32 (x : Int) : Prop := -2147483648 ≤ x ∧ x < 2147483648
def r64 (x : Int) : Prop := -9223372036854775808 ≤ x ∧ x < 9223372036854775808
theorem w32_r (x : Int) : r32 (w32 x) := by unfold r32 w32; omega
theorem w64_r (x : Int) : r64 (w64 x) := by unfold r64 w64; omega
theorem w32_id {x : Int} (h : r32 x) : w32 x = x := by unfold r32 at h; unfold w32; omega
theorem w64_id {x : Int} (h : r64 x) : w64 x = x := by unfold r64 at h; unfold w64; omega
theorem w8_id {x : Int} (h : -128 ≤ x) (h2 : x ≤ 127) : w8 x = x := by unfold w8; omega
theorem w8_r (x : Int) : -128 ≤ w8 x ∧ w8 x ≤ 127 := by unfold w8; omega
theorem w32_bmod (x : Int) : x.bmod 4294967296 = w32 x := by
  unfold w32
  rw [Int.bmod_def]
  have e1 : ((4294967296 : Nat) : Int) = 4294967296 := rfl
  simp only [e1]
  split <;> omega
theorem w64_bmod (x : Int) : x.bmod 18446744073709551616 = w64 x := by
  unfold w64
  rw [Int.bmod_def]
  have e1 : ((18446744073709551616 : Nat) : Int) = 18446744073709551616 := rfl
  simp only [e1]
  split <;> omega
theorem w8_bmod (x : Int) : x.bmod 256 = w8 x := by
  unfold w8
  rw [Int.bmod_def]
  have e1 : ((256 : Nat) : Int) = 256 := rfl
  simp only [e1]
  split <;> omega
theorem q_toInt (x : Int) : (Int32.ofInt x).toInt = w32 x := by rw [Int32.toInt_ofInt]; exact w32_bmod x
theorem q_toIntL (x : Int) : (Int64.ofInt x).toInt = w64 x := by rw [Int64.toInt_ofInt]; exact w64_bmod x
theorem q_in {x : Int} (h : r32 x) : (Int32.ofInt x).toInt = x := by rw [q_toInt, w32_id h]
theorem q_inL {x : Int} (h : r64 x) : (Int64.ofInt x).toInt = x := by rw [q_toIntL, w64_id h]
theorem q_of (x : Int) : Int32.ofInt (w32 x) = Int32.ofInt x := by
  apply Int32.toInt_inj.mp
  rw [q_in (w32_r x), q_toInt]
theorem q_lt {x y : Int} (hx : r32 x) (hy : r32 y) : Int32.ofInt x < Int32.ofInt y ↔ x < y := by rw [Int32.lt_iff_toInt_lt, q_in hx, q_in hy]
theorem q_le {x y : Int} (hx : r32 x) (hy : r32 y) : Int32.ofInt x ≤ Int32.ofInt y ↔ x ≤ y := by rw [Int32.le_iff_toInt_le, q_in hx, q_in hy]
theorem q_eq {x y : Int} (hx : r32 x) (hy : r32 y) : Int32.ofInt x = Int32.ofInt y ↔ x = y := by rw [← Int32.toInt_inj, q_in hx, q_in hy]
theorem q_eqL {x y : Int} (hx : r64 x) (hy : r64 y) : Int64.ofInt x = Int64.ofInt y ↔ x = y := by rw [← Int64.toInt_inj, q_inL hx, q_inL hy]
theorem q_ltL {x y : Int} (hx : r64 x) (hy : r64 y) : Int64.ofInt x < Int64.ofInt y ↔ x < y := by rw [Int64.lt_iff_toInt_lt, q_inL hx, q_inL hy]
theorem r32_0 : r32 0 := by unfold r32; omega
theorem q_0 : Int32.ofInt 0 = 0 := rfl
theorem q_add (x y : Int) : Int32.ofInt x + Int32.ofInt y = Int32.ofInt (w32 (x + y)) := by rw [q_of, Int32.ofInt_add]
theorem q_sub (x y : Int) : Int32.ofInt x - Int32.ofInt y = Int32.ofInt (w32 (x - y)) := by rw [q_of, Int32.ofInt_sub]
theorem q_mul (x y : Int) : Int32.ofInt x * Int32.ofInt y = Int32.ofInt (w32 (x * y)) := by rw [q_of, Int32.ofInt_mul]
theorem q_neg (x : Int) : -Int32.ofInt x = Int32.ofInt (w32 (-x)) := by rw [q_of, Int32.ofInt_neg]
theorem q_div {x y : Int} (hx : r32 x) (hy : r32 y) : Int32.ofInt x / Int32.ofInt y = Int32.ofInt (w32 (x.tdiv y)) := by
  apply Int32.toInt_inj.mp
  rw [Int32.toInt_div, q_in hx, q_in hy, q_in (w32_r _)]
  exact w32_bmod _
theorem tmod_r {x y : Int} (hx : r32 x) : r32 (x.tmod y) := by
  unfold r32 at *
  rcases Int.le_total 0 x with h | h
  · have h1 := Int.tmod_nonneg y h
    have h2 : (x.tmod y).natAbs ≤ x.natAbs := by rw [Int.natAbs_tmod]; exact Nat.mod_le _ _
    omega
  · have h2 : (x.tmod y).natAbs ≤ x.natAbs := by rw [Int.natAbs_tmod]; exact Nat.mod_le _ _
    have h3 : (-x).tmod y = -(x.tmod y) := Int.neg_tmod x y
    have h1 := Int.tmod_nonneg y (show 0 ≤ -x by omega)
    omega
theorem q_rem {x y : Int} (hx : r32 x) (hy : r32 y) : Int32.ofInt x - Int32.ofInt x / Int32.ofInt y * Int32.ofInt y = Int32.ofInt (x.tmod y) := by
  rw [q_div hx hy, q_of, ← Int32.ofInt_mul, ← Int32.ofInt_sub]
  congr 1
  have := Int.mul_tdiv_add_tmod x y
  rw [Int.mul_comm] at this
  omega
theorem q_bl {x : Int32} : r32 x.toInt := ⟨x.le_toInt, x.toInt_lt⟩
theorem q_blL {x : Int64} : r64 x.toInt := ⟨x.le_toInt, x.toInt_lt⟩
def bAnd (x y : Int) : Int := (Int32.ofInt x &&& Int32.ofInt y).toInt
def bOr (x y : Int) : Int := (Int32.ofInt x ||| Int32.ofInt y).toInt
def bShl (x y : Int) : Int := (Int32.ofInt x <<< (Int32.ofInt y &&& 31)).toInt
def bShr (x y : Int) : Int := (Int32.ofInt x >>> (Int32.ofInt y &&& 31)).toInt
def bUshr (x y : Int) : Int := ((Int32.ofInt x).toUInt32 >>> ((Int32.ofInt y).toUInt32 &&& Int32.toUInt32 31)).toInt32.toInt
def lShl (x y : Int) : Int := (Int64.ofInt x <<< ((Int32.ofInt y).toInt64 &&& 63)).toInt
def lOr (x y : Int) : Int := (Int64.ofInt x ||| Int64.ofInt y).toInt
theorem q_i2l {x : Int} (h : r32 x) : (Int32.ofInt x).toInt64 = Int64.ofInt x := by
  apply Int64.toInt_inj.mp
  rw [Int32.toInt_toInt64, q_in h, q_inL (by unfold r32 at h; unfold r64; omega)]
theorem q_i2b (x : Int) : (Int32.ofInt x).toInt8.toInt32 = Int32.ofInt (w8 x) := by
  apply Int32.toInt_inj.mp
  rw [Int8.toInt_toInt32, Int32.toInt_toInt8, q_toInt, q_in (by have := w8_r x; unfold r32; omega)]
  have := w8_bmod (w32 x)
  rw [show (2 : Nat) ^ 8 = 256 from rfl, this]
  unfold w8 w32
  omega
theorem q_clamp {x : Int} (h : r32 x) (h0 : 0 ≤ x) : (Int32.ofInt x).toNatClampNeg = x.toNat := by
  rw [← Int32.toNat_toInt, q_in h]
theorem q_vp {x : Int} {n : Nat} (h : r32 x) (h0 : 0 ≤ x) (hn : x.toNat < n) : vp_in (Int32.ofInt x) n := by
  unfold vp_in
  rintro (q | q)
  · have := (q_lt h r32_0).mp (by rw [q_0]; exact q)
    omega
  · rw [q_clamp h h0] at q
    omega
/-! values and memory -/
abbrev PV : Type := Int ⊕ Int ⊕ Int
abbrev pI (x : Int) : PV := .inl x
abbrev pL (x : Int) : PV := .inr (.inl x)
abbrev pA (x : Int) : PV := .inr (.inr x)
def eR (b : Nat) (cs : Nat → Nat) (a : Int) : Value := if a = -1 then .null else if 0 ≤ a then .ref (b + a.toNat) else .ref (cs (-a - 2).toNat)
def eV (b : Nat) (cs : Nat → Nat) : PV → Value
  | .inl x => .int (Int32.ofInt x)
  | .inr (.inl x) => .long (Int64.ofInt x)
  | .inr (.inr a) => eR b cs a
def okV : PV → Prop
  | .inl x => r32 x
  | .inr (.inl x) => r64 x
  | .inr (.inr _) => True
abbrev Mem : Type := (Int → Int → Int) × (Int → Int) × (Int → Int) × Nat
def up1 (f : Int → Int) (k v : Int) : Int → Int := fun j => if j = k then v else f j
def up2 (f : Int → Int → Int) (a i v : Int) : Int → Int → Int := fun x y => if x = a ∧ y = i then v else f x y
def mst (M : Mem) (a i v : Int) : Mem := (up2 M.1 a i v, M.2)
def fty : Nat → Nat → FieldType := fun c => match c with
  | 0 => tyX0
  | 1 => tyX1
  | 2 => tyX2
  | 3 => tyX3
  | 4 => tyX4
  | 5 => tyX5
  | 6 => tyX6
  | 7 => tyX7
  | 8 => tyX9
  | 9 => tyX10
  | _ => tyX11
def nfl : Nat → Nat := fun c => match c with
  | 0 => 3
  | 1 => 5
  | 2 => 5
  | 3 => 16
  | 4 => 4
  | 5 => 2
  | 6 => 9
  | 7 => 10
  | 8 => 17
  | 9 => 6
  | _ => 51
def tOf (k : Int) (i : Nat) : FieldType := if k = 11 then .byte else if k = 12 then .int else if k = 13 then .boolean else if 14 ≤ k then .object "" else fty k.toNat i
def okT : FieldType → Int → Prop
  | .long, x => r64 x
  | .object _, x => -1 ≤ x
  | .array _, x => -1 ≤ x
  | .boolean, x => x = 0 ∨ x = 1
  | .byte, x => -128 ≤ x ∧ x ≤ 127
  | _, x => r32 x
def eO (b : Nat) (x : Int) : Option Nat := if x < 0 then none else some (b + x.toNat)
def eT (b : Nat) : FieldType → Int → Value
  | .long, x => .long (Int64.ofInt x)
  | .object _, x => va_rf (eO b x)
  | .array _, x => va_rf (eO b x)
  | _, x => .int (Int32.ofInt x)
def tagT : FieldType → Int → PV
  | .long, x => pL x
  | .object _, x => pA x
  | .array _, x => pA x
  | _, x => pI x
theorem eO_rf {b : Nat} {cs : Nat → Nat} {x : Int} (h : -1 ≤ x) : va_rf (eO b x) = eR b cs x := by
  unfold eO eR
  by_cases h1 : x = -1
  · subst h1; rfl
  · rw [if_neg (by omega), if_neg h1, if_pos (by omega)]; rfl
theorem eV_tag {b : Nat} {cs : Nat → Nat} {t : FieldType} {x : Int} (h : okT t x) : eT b t x = eV b cs (tagT t x) := by
  cases t <;> first | rfl | exact eO_rf h
theorem okV_tag {t : FieldType} {x : Int} (h : okT t x) : okV (tagT t x) := by
  cases t <;> first | exact h | trivial | (rcases h with h | h <;> subst h <;> (unfold tagT okV r32; simp; done)) | (obtain ⟨h1, h2⟩ := h; unfold tagT okV r32; simp only []; omega)
def cE (cA : Nat → ClassId) (b : Nat) (M : Mem) (a : Nat) : va_E :=
  if M.2.1 a = 11 ∨ M.2.1 a = 12 ∨ M.2.1 a = 13 then .inl (cA (M.2.1 a).toNat, (M.2.2.1 a).toNat, .inl fun j => Int32.ofInt (M.1 a j))
  else if 14 ≤ M.2.1 a then .inl (cA (M.2.1 a).toNat, (M.2.2.1 a).toNat, .inr (.inr (.inr (.inr fun j => eO b (M.1 a j)))))
  else .inr ((M.2.1 a).toNat, (List.range (nfl (M.2.1 a).toNat)).map fun j => eT b (fty (M.2.1 a).toNat j) (M.1 a j))
def wsM (cA : Nat → ClassId) (b : Nat) (M : Mem) : va_W := (List.range M.2.2.2).map fun a => (b + a, cE cA b M a)
def MemOK (M : Mem) : Prop := (∀ a : Int, M.2.1 a ≠ -1 → 0 ≤ a ∧ a < M.2.2.2) ∧ (∀ a : Int, -1 ≤ M.2.1 a ∧ M.2.1 a ≤ 18) ∧ (∀ a : Int, 0 ≤ M.2.2.1 a ∧ M.2.2.1 a < 2147483648) ∧ ∀ (a : Int) (i : Nat), M.2.1 a ≠ -1 → okT (tOf (M.2.1 a) i) (M.1 a i)
theorem wsM_at {cA : Nat → ClassId} {b : Nat} {M : Mem} {a : Nat} (h : a < M.2.2.2) : (wsM cA b M)[a]? = some (b + a, cE cA b M a) := by
  unfold wsM
  rw [List.getElem?_map, List.getElem?_range h]
  rfl
theorem wsM_D {cA : Nat → ClassId} {b : Nat} {M : Mem} : va_D (fun q => b ≤ q) (wsM cA b M) := by
  have key : ∀ (i : Nat) (p : Nat × va_E), (wsM cA b M)[i]? = some p → p.1 = b + i := by
    intro i p h
    unfold wsM at h
    rw [List.getElem?_map] at h
    cases hr : (List.range M.2.2.2)[i]? with
    | none => rw [hr] at h; cases h
    | some j =>
      rw [hr] at h
      obtain ⟨hj, e⟩ := List.getElem?_eq_some_iff.mp hr
      rw [List.getElem_range] at e
      cases h
      show b + j = b + i
      rw [← e]
  refine ⟨fun i j p q hp hq e => ?_, fun k q hk => ?_⟩
  · rw [key i p hp, key j q hq] at e
    omega
  · rw [key k q hk]
    exact Nat.le_add_right _ _
theorem cE_arr {cA : Nat → ClassId} {b : Nat} {M : Mem} {a : Nat} {k : Int} (hk : M.2.1 a = k) (h : k = 11 ∨ k = 12 ∨ k = 13) : cE cA b M a = .inl (cA k.toNat, (M.2.2.1 a).toNat, .inl fun j => Int32.ofInt (M.1 a j)) := by
  unfold cE; rw [hk, if_pos h]
theorem cE_ref {cA : Nat → ClassId} {b : Nat} {M : Mem} {a : Nat} {k : Int} (hk : M.2.1 a = k) (h : 14 ≤ k) : cE cA b M a = .inl (cA k.toNat, (M.2.2.1 a).toNat, .inr (.inr (.inr (.inr fun j => eO b (M.1 a j))))) := by
  unfold cE; rw [hk, if_neg (by omega), if_pos h]
theorem cE_obj {cA : Nat → ClassId} {b : Nat} {M : Mem} {a : Nat} {k : Int} (hk : M.2.1 a = k) (h : k ≤ 10) : cE cA b M a = .inr (k.toNat, (List.range (nfl k.toNat)).map fun j => eT b (fty k.toNat j) (M.1 a j)) := by
  unfold cE; rw [hk, if_neg (by omega), if_neg (by omega)]
/-- one cell's contents change: the world's list changes at its place alone -/
theorem wsM_set {cA : Nat → ClassId} {b : Nat} {M : Mem} {a : Nat} {i v : Int} (h : a < M.2.2.2) : (wsM cA b M).set a (b + a, cE cA b (mst M a i v) a) = wsM cA b (mst M a i v) := by
  apply List.ext_getElem?
  intro j
  rw [List.getElem?_set]
  by_cases hj : a = j
  · subst hj
    have hl : a < (wsM cA b M).length := by unfold wsM; rw [List.length_map, List.length_range]; exact h
    rw [if_pos rfl, if_pos hl, wsM_at (M := mst M a i v) (show a < (mst M a i v).2.2.2 from h)]
  · rw [if_neg hj]
    unfold wsM
    rw [List.getElem?_map, List.getElem?_map]
    show Option.map _ _ = Option.map _ (List.range M.2.2.2)[j]?
    cases hr : (List.range M.2.2.2)[j]? with
    | none => rfl
    | some j' =>
      obtain ⟨hjl, e⟩ := List.getElem?_eq_some_iff.mp hr
      rw [List.getElem_range] at e
      subst e
      show some (b + j, cE cA b M j) = some (b + j, cE cA b (mst M a i v) j)
      have hr : ∀ y, (mst M a i v).1 (j : Int) y = M.1 (j : Int) y := fun y => by
        show (if (j : Int) = (a : Int) ∧ y = i then v else M.1 j y) = _
        rw [if_neg]
        rintro ⟨q, -⟩
        exact hj (by omega)
      congr 2
      unfold cE
      simp only [hr]
      rfl
end
section
/-! the ambient facts: classes, arrays' classes, nest links, the constants that nobody writes -/
abbrev GG : Type := (Nat → ClassId) × (Nat → Nat → Nat) × (Nat → ClassId) × (Nat → Nat) × (Nat → Nat)
abbrev MI : Type := MethodName × ByteArray × Nat × Option FieldType
abbrev AA (b : Nat) : Nat → Prop := fun q => b ≤ q
def tysG (cA : Nat → ClassId) : List (ClassId × FieldType) := [(cA 11, .byte), (cA 12, .int), (cA 13, .boolean), (cA 14, .object RX0), (cA 15, .object RX1), (cA 16, .object RX4), (cA 17, .object RX6), (cA 18, .object RX7)]
def sTab : Nat → List Int := fun k => match k with
  | 0 => [0, 9, 12, 16, 18]
  | 1 => [1, 3, 3, 2, 2, 2, 2, 2, 1, 1, 1, 1, 3, 3, 3, 0, 2, 3]
  | 2 => [1, 0, 0, 0, 0, 0, 0, 0, 0, 0, 0, 0, 0, 0, 0, 0, 1, 0, 0, 0, 0, 0, 0, 0, 1, 0, 0, 2, 0, 0, 1, 0, 0, 0, 0, 0, 0, 0, 0, 0, 0, 0, 0, 0, 1, 0, 0, 0, 0, 0, 0, 0, 0, 0]
  | _ => [6, 0, 0, 5, 4, 9, 5, 4, 9, 5, 9, 0, 5, 5, 0, 4, 9, 0, 4, 9, 0, 3, 3, 0, 9, 0, 0, 5, 0, 0, 99, 0, 0, 19, 0, 0, 3, 5, 4, 3, 5, 4, 3, 3, 9, 0, 0, 0, 5, 4, 0, 5, 4, 18]
def sNm : Nat → String := fun k => match k with
  | 0 => "FIRST_LINE"
  | 1 => "NUMBERS"
  | 2 => "LEAST"
  | _ => "MOST"
def sTx : List String := ["houses", "has", "needs", "watch", "passes", "weight", "worth", "son", "thief", "rate", "catch", "double", "take", "give", "set", "night", "given", "left", ""]
def sIx : List Nat := [153, 154, 156, 158, 160, 162, 164, 166, 168, 170, 172, 174, 176, 178, 180, 182, 184, 186, 188]
def sLen : List Nat := sTx.map fun t => t.length
def sByt : List (List Int32) := sTx.map fun t => t.toList.map fun c => Int32.ofNat c.toNat
def NW : List (String × Nat × MethodName × String) := [("OneBack$Town", 46, ⟨"OneBack", "fillRow", "([II)V"⟩, "OneBack"), ("OneBack$Told", 54, ⟨"OneBack$Law", "<init>", "()V"⟩, "OneBack"), ("OneBack$Told", 55, ⟨"OneBack$Nights", "<init>", "()V"⟩, "OneBack"), ("OneBack$Sight", 28, ⟨"OneBack", "fillRow", "([II)V"⟩, "OneBack"), ("OneBack", 22, ⟨"OneBack$Reader", "<init>", "()V"⟩, "OneBack"), ("OneBack$Reader", 27, ⟨"OneBack$Law", "<init>", "()V"⟩, "OneBack"), ("OneBack$Reader", 34, ⟨"OneBack$Nights", "<init>", "()V"⟩, "OneBack"), ("OneBack", 46, ⟨"OneBack$Supply", "<init>", "()V"⟩, "OneBack"), ("OneBack$Reader", 216, ⟨"OneBack", "cell", "(II)I"⟩, "OneBack"), ("OneBack$Town", 50, ⟨"OneBack", "copyRow", "([I[I)V"⟩, "OneBack"), ("OneBack$Nights", 28, ⟨"OneBack", "copyRow", "([I[I)V"⟩, "OneBack"), ("OneBack$Sight", 32, ⟨"OneBack", "copyRow", "([I[I)V"⟩, "OneBack"), ("OneBack$Town", 54, ⟨"OneBack", "cell", "(II)I"⟩, "OneBack"), ("OneBack$Walk", 69, ⟨"OneBack", "copyRow", "([I[I)V"⟩, "OneBack"), ("OneBack$Walk", 73, ⟨"OneBack", "fillRow", "([II)V"⟩, "OneBack"), ("OneBack$Walk", 145, ⟨"OneBack", "isGood", "(I)Z"⟩, "OneBack"), ("OneBack$Walk", 130, ⟨"OneBack", "cell", "(II)I"⟩, "OneBack"), ("OneBack$Walk", 136, ⟨"OneBack", "cell", "(III)I"⟩, "OneBack"), ("OneBack$Views", 75, ⟨"OneBack", "cell", "(III)I"⟩, "OneBack"), ("OneBack$Supply", 69, ⟨"OneBack", "fillRow", "([II)V"⟩, "OneBack"), ("OneBack$Town", 88, ⟨"OneBack", "commonDivisor", "(II)I"⟩, "OneBack"), ("OneBack$Sight", 49, ⟨"OneBack", "cell", "(III)I"⟩, "OneBack"), ("OneBack$Sight", 78, ⟨"OneBack", "cell", "(II)I"⟩, "OneBack"), ("OneBack$Views", 159, ⟨"OneBack", "leastTerms", "(IIZ)I"⟩, "OneBack"), ("OneBack$Porter", 29, ⟨"OneBack", "fillRow", "([II)V"⟩, "OneBack"), ("OneBack$Porter", 37, ⟨"OneBack", "copyRow", "([I[I)V"⟩, "OneBack"), ("OneBack$Porter", 46, ⟨"OneBack", "cell", "(II)I"⟩, "OneBack"), ("OneBack$Told", 103, ⟨"OneBack", "copyRow", "([I[I)V"⟩, "OneBack")]
def Amb (G : GG) (b : Nat) (U : State) : Prop :=
  va_K (G.1, G.2.1) vwCl (tysG G.2.2.1) U ∧ (∀ q ∈ NW, va_Nw (.methodLinkNest q.1 q.2.1 q.2.2.1 q.2.2.2) U) ∧
  (∀ k, k < 4 → va_Z RX3 (sNm k) "[I" (.ref (G.2.2.2.1 k)) (AA b) U U.heap ∧ va_T .int (G.2.2.2.1 k) (sTab k).length (fun j => .int (Int32.ofInt ((sTab k).getD j 0))) (AA b) U U.heap) ∧
  va_Z RJ0 "COMPACT_STRINGS" "Z" (.int 1) (AA b) U U.heap ∧ va_Zq RJ3 "SIOOBE_FORMATTER" "Ljava/util/function/BiFunction;" (AA b) U U.heap ∧
  vk_S 19 sLen sByt (fun i => G.2.2.2.1 (4 + i)) G.2.2.2.2 (AA b) U U.heap ∧ (∀ i, i < 19 → vk_R RX3 (sIx.getD i 0) (sTx.getD i "") (G.2.2.2.1 (4 + i)) U) ∧
  (∀ C ∈ [RX0, RX1, RX4, RX6, RX7], va_AO C U)
theorem Amb.move {G : GG} {b : Nat} {s U : State} (h : Amb G b s) (hW : s.WarmedH U.vm) (hq : ∀ a : Nat, a < s.heap.size → ¬ AA b a → U.heap[a]? = s.heap[a]?) : Amb G b U := by
  obtain ⟨h1, h2, h3, h4, h5, h6, h7, h8⟩ := h
  refine ⟨h1.moved hW.alike, fun q hm => (h2 q hm).warmM hW, fun k hk => ⟨((h3 k hk).1.moved hW.alike).kept hq, ((h3 k hk).2.moved hW.alike).kept hq⟩, (h4.moved hW.alike).kept hq, (h5.moved hW.alike).kept hq, (h6.moved hW.alike).kept hq, fun i hi => (h7 i hi).warm hW, fun C hC => (h8 C hC).moved hW.alike⟩
/-! the judgements -/
def rmD (d b0 b1 : Nat) : Room := { frames := d, cells := b0, slots := b1, locals := 64 * d }
def lsL (b : Nat) (cs : Nat → Nat) : Nat → List (Option PV) → List (Nat × Value)
  | _, [] => []
  | i, none :: r => lsL b cs (i + 1) r
  | i, some v :: r => (i, eV b cs v) :: lsL b cs (i + 1) r
theorem lsL_mem {b : Nat} {cs : Nat → Nat} {q : Nat × Value} : ∀ {ls : List (Option PV)} {i : Nat}, q ∈ lsL b cs i ls ↔ ∃ (k : Nat) (v : PV), ls[k]? = some (some v) ∧ q = (i + k, eV b cs v)
  | [], i => by simp [lsL]
  | none :: r, i => by
    rw [lsL, lsL_mem]
    constructor
    · rintro ⟨k, v, h1, h2⟩
      exact ⟨k + 1, v, by simpa using h1, by rw [h2]; congr 1; omega⟩
    · rintro ⟨k, v, h1, h2⟩
      cases k with
      | zero => simp at h1
      | succ k => exact ⟨k, v, by simpa using h1, by rw [h2]; congr 1; omega⟩
  | some w :: r, i => by
    rw [lsL, List.mem_cons, lsL_mem]
    constructor
    · rintro (h | ⟨k, v, h1, h2⟩)
      · exact ⟨0, w, by simp, h⟩
      · exact ⟨k + 1, v, by simpa using h1, by rw [h2]; congr 1; omega⟩
    · rintro ⟨k, v, h1, h2⟩
      cases k with
      | zero => simp at h1; subst h1; exact Or.inl h2
      | succ k => exact Or.inr ⟨k, v, by simpa using h1, by rw [h2]; congr 1; omega⟩
def okL (ls : List (Option PV)) : Prop := ∀ (i : Nat) (v : PV), ls[i]? = some (some v) → okV v
def okS (st : List PV) : Prop := ∀ v ∈ st, okV v
def okR (r : Option PV × Mem) : Prop := MemOK r.2 ∧ ∀ v, r.1 = some v → okV v
def QcR (G : GG) (b : Nat) (r : Option PV × Mem) : Array Value → State → Outcome → State → Prop := fun _ st o t =>
  o = .returned (r.1.map (eV b G.2.2.2.1)) ∧ t.heap.size = b + r.2.2.2.2 ∧ va_P (G.1, G.2.1) vwCl (wsM G.2.2.1 b r.2) t.heap ∧ st.heap.size ≤ t.heap.size ∧ ∀ q : Nat, q < st.heap.size → ¬ AA b q → t.heap[q]? = st.heap[q]?
def PcR (G : GG) (b : Nat) (args : List PV) (M : Mem) : Array Value → State → Prop := fun a U =>
  a = (args.map (eV b G.2.2.2.1)).toArray ∧ U.heap.size = b + M.2.2.2 ∧ va_P (G.1, G.2.1) vwCl (wsM G.2.2.1 b M) U.heap ∧ Amb G b U
def Cx (mi : MI) (G : GG) (b : Nat) (p : Program) (s : State) (m : MethodId) (args : Array Value) (meth : Method) (c : Code) : Prop :=
  p.tables.exec = Jvm.exec ∧ c.code = mi.2.1 ∧ meth.sig.returnType = mi.2.2.2 ∧ c.maxLocals = mi.2.2.1 ∧ s.vm.findClass mi.1.cls = some m.cls ∧ (∀ w ∈ GT, w.before args s = true) ∧ meth.locks = false ∧ meth.name = mi.1.name ∧ Amb G b s ∧ b ≤ s.heap.size
def Dy (mi : MI) (G : GG) (b b0 b1 bc bs : Nat) (s : State) (M : Mem) (ls : List (Option PV)) (H : Heap) (locs : List Loc) (cells slots : Nat) (lsA : Array Slot) : Prop :=
  H.size = b + M.2.2.2 ∧ va_P (G.1, G.2.1) vwCl (wsM G.2.2.1 b M) H ∧ va_S (AA b) s.heap H locs ∧ lv_has lsA mi.2.2.1 (lsL b G.2.2.2.1 0 ls) ∧ cells + bc ≤ b0 ∧ slots + bs ≤ b1
def VW (mi : MI) (d b0 b1 bc bs pc : Nat) (ls : List (Option PV)) (st : List PV) (M : Mem) (r : Option PV × Mem) : Prop :=
  ∀ (G : GG) (b : Nat) (p : Program) (l : Launch) (e : Env) (s : State) (m : MethodId) (args : Array Value) (below : List Frame) (meth : Method) (c : Code), Cx mi G b p s m args meth c →
    ∀ (H : Heap) (locs : List Loc) (cells slots : Nat) (lsA : Array Slot), Dy mi G b b0 b1 bc bs s M ls H locs cells slots lsA →
      W p l e (rmD d b0 b1) s m args below meth c H locs cells slots (MQ below (QcR G b r) args s b0 b1 (AA b)) (F0 m pc lsA (st.map (eV b G.2.2.2.1)))
/-- from this point of the method's body: if X is some r, the method returns with r -/
def V {ρ : Type} (mi : MI) (d b0 b1 bc bs pc : Nat) (ls : List (Option PV)) (st : List PV) (M : Mem) (dec : ρ → Option PV × Mem) (X : Option ρ) : Prop :=
  ∀ r, X = some r → MemOK M → okL ls → okS st → okR (dec r) ∧ VW mi d b0 b1 bc bs pc ls st M (dec r)
/-- a method's contract at these arguments and this memory: if X is some r, it returns with r -/
def Ct {ρ : Type} (mi : MI) (d b0 b1 : Nat) (args : List PV) (M : Mem) (dec : ρ → Option PV × Mem) (X : Option ρ) : Prop :=
  ∀ r, X = some r → MemOK M → okS args → okR (dec r) ∧ ∀ (G : GG) (b : Nat) (l : Launch), Met l mi.1 (.code mi.1 mi.2.1 mi.2.2.1 mi.2.2.2 :: GT) (rmD d b0 b1) (PcR G b args M) (QcR G b (dec r)) b0 b1 (AA b)
def entL : List PV → List (Option PV)
  | [] => []
  | .inr (.inl x) :: r => some (.inr (.inl x)) :: none :: entL r
  | v :: r => some v :: entL r
theorem eR_cat (b : Nat) (cs : Nat → Nat) (a : Int) : (eR b cs a).category = 1 := by
  unfold eR; split
  · rfl
  · split <;> rfl
theorem entL_args {b : Nat} {cs : Nat → Nat} {k : Nat} : ∀ (args : List PV) (i : Nat), lsL b cs i (entL args ++ List.replicate k none) = lv_args i (args.map (eV b cs))
  | [], i => by
    show lsL b cs i (List.replicate k none) = []
    induction k generalizing i with
    | zero => rfl
    | succ k ih => rw [List.replicate_succ]; exact ih (i + 1)
  | .inl x :: r, i => by
    show (i, eV b cs (.inl x)) :: lsL b cs (i + 1) (entL r ++ List.replicate k none) = (i, eV b cs (.inl x)) :: lv_args (i + 1) (r.map (eV b cs))
    rw [entL_args r (i + 1)]
  | .inr (.inl x) :: r, i => by
    show (i, eV b cs (.inr (.inl x))) :: lsL b cs (i + 1 + 1) (entL r ++ List.replicate k none) = (i, eV b cs (.inr (.inl x))) :: lv_args (i + 2) (r.map (eV b cs))
    rw [entL_args r (i + 1 + 1)]
  | .inr (.inr x) :: r, i => by
    show (i, eV b cs (.inr (.inr x))) :: lsL b cs (i + 1) (entL r ++ List.replicate k none) = (i, eV b cs (.inr (.inr x))) :: lv_args (if (eR b cs x).category = 2 then i + 2 else i + 1) (r.map (eV b cs))
    rw [eR_cat, if_neg (by decide), entL_args r (i + 1)]
theorem entL_len {b : Nat} {cs : Nat → Nat} : ∀ (args : List PV), (lg_sl (args.map (eV b cs))).length = (entL args).length
  | [] => rfl
  | .inl x :: r => by
    have := entL_len (b := b) (cs := cs) r
    simp only [lg_sl, List.map_cons, List.flatMap_cons, List.length_append, entL, List.length_cons] at this ⊢
    simp only [eV, Value.category] at this ⊢
    simp at this ⊢
    omega
  | .inr (.inl x) :: r => by
    have := entL_len (b := b) (cs := cs) r
    simp only [lg_sl, List.map_cons, List.flatMap_cons, List.length_append, entL, List.length_cons] at this ⊢
    simp only [eV, Value.category] at this ⊢
    simp at this ⊢
    omega
  | .inr (.inr x) :: r => by
    have := entL_len (b := b) (cs := cs) r
    simp only [lg_sl, List.map_cons, List.flatMap_cons, List.length_append, entL, List.length_cons] at this ⊢
    rw [show (eV b cs (.inr (.inr x))).category = 1 from eR_cat b cs x]
    simp at this ⊢
    omega
theorem okL_ent : ∀ {args : List PV}, okS args → okL (entL args)
  | [], _ => by intro i v h; simp [entL] at h
  | .inl x :: r, h => by
    intro i v hv
    cases i with
    | zero => simp [entL] at hv; subst hv; exact h _ List.mem_cons_self
    | succ i => exact okL_ent (fun v hm => h v (List.mem_cons_of_mem _ hm)) i v (by simpa [entL] using hv)
  | .inr (.inl x) :: r, h => by
    intro i v hv
    match i, hv with
    | 0, hv => simp [entL] at hv; subst hv; exact h _ List.mem_cons_self
    | 1, hv => simp [entL] at hv
    | i + 2, hv => exact okL_ent (fun v hm => h v (List.mem_cons_of_mem _ hm)) i v (by simpa [entL] using hv)
  | .inr (.inr x) :: r, h => by
    intro i v hv
    cases i with
    | zero => simp [entL] at hv; subst hv; exact h _ List.mem_cons_self
    | succ i => exact okL_ent (fun v hm => h v (List.mem_cons_of_mem _ hm)) i v (by simpa [entL] using hv)
/-- a contract out of its body -/
theorem Ct.of {ρ : Type} {mi : MI} {d b0 b1 : Nat} {args : List PV} {M : Mem} {dec : ρ → Option PV × Mem} {X : Option ρ} (k : Nat) (hy : plainName mi.1.cls = true) (hn : (entL args).length + k = mi.2.2.1)
    (h : V mi d b0 b1 b0 b1 0 (entL args ++ List.replicate k none) [] M dec X) : Ct mi d b0 b1 args M dec X := by
  intro r hr hM ha
  have hL : okL (entL args ++ List.replicate k none) := by
    intro i v hv
    by_cases hi : i < (entL args).length
    · rw [List.getElem?_append_left hi] at hv
      exact okL_ent ha i v hv
    · rw [List.getElem?_append_right (by omega)] at hv
      obtain ⟨_, e⟩ := List.getElem?_eq_some_iff.mp hv
      rw [List.getElem_replicate] at e
      cases e
  obtain ⟨h1, h2⟩ := h r hr hM hL (fun v hv => by cases hv)
  refine ⟨h1, fun G b l => ?_⟩
  refine Met.ofW (cc := mi.2.1) (maxL := mi.2.2.1) (ret := mi.2.2.2) hy rfl ?_
  intro p e s m args' below meth c s₁ B hml hv
  obtain ⟨rfl, hsz, hP, hA⟩ := hv
  have hts := atoms_spec (ws := .code mi.1 mi.2.1 mi.2.2.1 mi.2.2.2 :: GT) B.pre
  have hown : s.vm.findClass mi.1.cls = some m.cls := findClass_of_methodNamed B.named
  rw [lg_entry_eq]
  have hl := lv_entry (args.map (eV b G.2.2.2.1)) (n := mi.2.2.1) (by rw [entL_len]; omega)
  have := h2 G b p l e s m (args.map (eV b G.2.2.2.1)).toArray below meth c ⟨B.exec, B.bytes, B.returns, hml, hown, fun w hw => hts w (List.mem_cons_of_mem _ hw), B.notSynchronized, (name_of_methodNamed B.named B.method).1, hA, by rw [hsz]; exact Nat.le_add_right _ _⟩
    s.heap [] 0 0 _ ⟨hsz, hP, va_S.rf, by rw [entL_args]; exact hl, by omega, by omega⟩
  exact this
section Rules
variable {ρ : Type} {mi : MI} {d b0 b1 bc bs bc' bs' pc pc' : Nat} {ls ls' : List (Option PV)} {st st' : List PV} {M M' : Mem} {dec : ρ → Option PV × Mem} {X : Option ρ}
/-- the general step -/
theorem v_step (k : V mi d b0 b1 bc' bs' pc' ls' st' M' dec X) (hok : MemOK M → okL ls → okS st → MemOK M' ∧ okL ls' ∧ okS st')
    (hw : MemOK M → okL ls → okS st → ∀ (G : GG) (b : Nat) (p : Program) (l : Launch) (e : Env) (s : State) (m : MethodId) (args : Array Value) (below : List Frame) (meth : Method) (c : Code) (Q : State → Prop), Cx mi G b p s m args meth c →
      ∀ (H : Heap) (locs : List Loc) (cells slots : Nat) (lsA : Array Slot), Dy mi G b b0 b1 bc bs s M ls H locs cells slots lsA →
        (∀ (H' : Heap) (locs' : List Loc) (cells' slots' : Nat) (lsA' : Array Slot), Dy mi G b b0 b1 bc' bs' s M' ls' H' locs' cells' slots' lsA' → W p l e (rmD d b0 b1) s m args below meth c H' locs' cells' slots' Q (F0 m pc' lsA' (st'.map (eV b G.2.2.2.1)))) →
        W p l e (rmD d b0 b1) s m args below meth c H locs cells slots Q (F0 m pc lsA (st.map (eV b G.2.2.2.1)))) : V mi d b0 b1 bc bs pc ls st M dec X := by
  intro r hr hM hL hS
  obtain ⟨h1, h2, h3⟩ := hok hM hL hS
  obtain ⟨g1, g2⟩ := k r hr h1 h2 h3
  refine ⟨g1, fun G b p l e s m args below meth c C H locs cells slots lsA D => ?_⟩
  exact hw hM hL hS G b p l e s m args below meth c _ C H locs cells slots lsA D (fun H' locs' cells' slots' lsA' D' => g2 G b p l e s m args below meth c C H' locs' cells' slots' lsA' D')
/-- a step of the stack alone -/
theorem v_op (k : V mi d b0 b1 bc bs pc' ls st' M dec X) (hok : okL ls → okS st → okS st')
    (hw : okL ls → okS st → ∀ (G : GG) (b : Nat) (p : Program) (l : Launch) (e : Env) (s : State) (m : MethodId) (args : Array Value) (below : List Frame) (meth : Method) (c : Code) (Q : State → Prop), Cx mi G b p s m args meth c →
      ∀ (H : Heap) (locs : List Loc) (cells slots : Nat) (lsA : Array Slot), lv_has lsA mi.2.2.1 (lsL b G.2.2.2.1 0 ls) →
        W p l e (rmD d b0 b1) s m args below meth c H locs cells slots Q (F0 m pc' lsA (st'.map (eV b G.2.2.2.1))) →
        W p l e (rmD d b0 b1) s m args below meth c H locs cells slots Q (F0 m pc lsA (st.map (eV b G.2.2.2.1)))) : V mi d b0 b1 bc bs pc ls st M dec X :=
  v_step k (fun hM hL hS => ⟨hM, hL, hok hL hS⟩) (fun hM hL hS G b p l e s m args below meth c Q C H locs cells slots lsA D kk => hw hL hS G b p l e s m args below meth c Q C H locs cells slots lsA D.2.2.2.1 (kk H locs cells slots lsA D))
/-- fewer locals -/
def lsle : List (Option PV) → List (Option PV) → Prop
  | [], _ => True
  | none :: a, _ :: b => lsle a b
  | some v :: a, w :: b => w = some v ∧ lsle a b
  | _, _ => False
theorem lsle_at : ∀ {a b : List (Option PV)} {i : Nat} {v : PV}, lsle a b → a[i]? = some (some v) → b[i]? = some (some v)
  | [], _, i, v, _, h => by simp at h
  | none :: a, [], i, v, h, _ => by simp [lsle] at h
  | none :: a, w :: b, i, v, h, hi => by
    cases i with
    | zero => simp at hi
    | succ i => simpa using lsle_at (a := a) (b := b) h (by simpa using hi)
  | some x :: a, [], i, v, h, _ => by simp [lsle] at h
  | some x :: a, w :: b, i, v, h, hi => by
    obtain ⟨rfl, h⟩ := h
    cases i with
    | zero => simpa using hi
    | succ i => simpa using lsle_at (a := a) (b := b) h (by simpa using hi)
theorem v_drop (ls' : List (Option PV)) (hl : lsle ls' ls) (k : V mi d b0 b1 bc bs pc ls' st M dec X) : V mi d b0 b1 bc bs pc ls st M dec X :=
  v_step k (fun hM hL hS => ⟨hM, fun i v h => hL i v (lsle_at hl h), hS⟩) (fun hM hL hS G b p l e s m args below meth c Q C H locs cells slots lsA D kk => kk H locs cells slots lsA ⟨D.1, D.2.1, D.2.2.1, ⟨D.2.2.2.1.1, D.2.2.2.1.2.1, fun q hq => by
    obtain ⟨k, v, h1, h2⟩ := lsL_mem.mp hq
    exact D.2.2.2.1.2.2 q (lsL_mem.mpr ⟨k, v, lsle_at hl h1, h2⟩)⟩, D.2.2.2.2⟩)
theorem v_eq {X' : Option ρ} (h : X = X') (k : V mi d b0 b1 bc bs pc ls st M dec X') : V mi d b0 b1 bc bs pc ls st M dec X := h ▸ k
theorem v_none : V mi d b0 b1 bc bs pc ls st M dec (none : Option ρ) := fun r h => by cases h
/-- what isn't so by the memory's own order needn't be looked at -/
theorem v_pure {P : Prop} (h : MemOK M → okL ls → okS st → P) (k : P → V mi d b0 b1 bc bs pc ls st M dec X) : V mi d b0 b1 bc bs pc ls st M dec X := fun r hr hM hL hS => k (h hM hL hS) r hr hM hL hS
theorem v_if {P : Prop} [Decidable P] {A : Option ρ} (k : P → V mi d b0 b1 bc bs pc ls st M dec A) : V mi d b0 b1 bc bs pc ls st M dec (if P then A else none) := by
  intro r hr hM hL hS
  by_cases h : P
  · rw [if_pos h] at hr; exact k h r hr hM hL hS
  · rw [if_neg h] at hr; cases hr
end Rules
end
section
section RulesA
variable {ρ : Type} {mi : MI} {d b0 b1 bc bs pc : Nat} {ls ls' : List (Option PV)} {st : List PV} {M : Mem} {dec : ρ → Option PV × Mem} {X A B : Option ρ}
theorem okS_cons {v : PV} {st : List PV} : okS (v :: st) ↔ okV v ∧ okS st := by
  unfold okS
  constructor
  · intro h; exact ⟨h v List.mem_cons_self, fun w hw => h w (List.mem_cons_of_mem _ hw)⟩
  · rintro ⟨h1, h2⟩ w hw
    rcases List.mem_cons.mp hw with rfl | hw
    · exact h1
    · exact h2 w hw
theorem lv_of {b : Nat} {cs : Nat → Nat} {n i : Nat} {v : PV} {lsA : Array Slot} (h : lv_has lsA n (lsL b cs 0 ls)) (hi : ls[i]? = some (some v)) : lsA[i]? = some (.val (eV b cs v)) :=
  h.2.2 (i, eV b cs v) (lsL_mem.mpr ⟨i, v, hi, by simp⟩)
theorem v_iconst {n : Int} (hd : decode mi.2.1 pc = .ok (.iconst n, 1)) (hr : -2147483648 ≤ n ∧ n < 2147483648) (k : V mi d b0 b1 bc bs (pc + 1) ls (pI n :: st) M dec X) : V mi d b0 b1 bc bs pc ls st M dec X :=
  v_op k (fun _ h => okS_cons.mpr ⟨hr, h⟩) (fun _ _ G b p l e s m args below meth c Q C H locs cells slots lsA _ kk => lv_iconst C.1 C.2.1 hd rfl kk)
theorem v_bipush {n : Int} (hd : decode mi.2.1 pc = .ok (.bipush n, 2)) (hr : -128 ≤ n ∧ n < 128) (k : V mi d b0 b1 bc bs (pc + 2) ls (pI n :: st) M dec X) : V mi d b0 b1 bc bs pc ls st M dec X :=
  v_op k (fun _ h => okS_cons.mpr ⟨(show r32 n by unfold r32; omega), h⟩) (fun _ _ G b p l e s m args below meth c Q C H locs cells slots lsA _ kk => lv_bipush C.1 C.2.1 hd (by
    apply Int32.toInt_inj.mp
    rw [Int8.toInt_toInt32, q_in (by unfold r32; omega), Int8.toInt_ofInt_of_le (by omega) (by omega)]) kk)
theorem v_sipush {n : Int} (hd : decode mi.2.1 pc = .ok (.sipush n, 3)) (hr : -32768 ≤ n ∧ n < 32768) (k : V mi d b0 b1 bc bs (pc + 3) ls (pI n :: st) M dec X) : V mi d b0 b1 bc bs pc ls st M dec X :=
  v_op k (fun _ h => okS_cons.mpr ⟨(show r32 n by unfold r32; omega), h⟩) (fun _ _ G b p l e s m args below meth c Q C H locs cells slots lsA _ kk => lv_sipush C.1 C.2.1 hd (by
    apply Int32.toInt_inj.mp
    rw [Int16.toInt_toInt32, q_in (by unfold r32; omega), Int16.toInt_ofInt_of_le (by omega) (by omega)]) kk)
theorem v_lconst0 (hd : decode mi.2.1 pc = .ok (.lconst 0, 1)) (k : V mi d b0 b1 bc bs (pc + 1) ls (pL 0 :: st) M dec X) : V mi d b0 b1 bc bs pc ls st M dec X :=
  v_op k (fun _ h => okS_cons.mpr ⟨(show r64 0 by unfold r64; omega), h⟩) (fun _ _ G b p l e s m args below meth c Q C H locs cells slots lsA _ kk => lv_lconst C.1 C.2.1 hd rfl kk)
theorem v_null (hd : decode mi.2.1 pc = .ok (.aconst_null, 1)) (k : V mi d b0 b1 bc bs (pc + 1) ls (pA (-1) :: st) M dec X) : V mi d b0 b1 bc bs pc ls st M dec X :=
  v_op k (fun _ h => okS_cons.mpr ⟨trivial, h⟩) (fun _ _ G b p l e s m args below meth c Q C H locs cells slots lsA _ kk => lv_null C.1 C.2.1 hd kk)
theorem v_ldc {i : Nat} {n : Int} (hd : decode mi.2.1 pc = .ok (.ldc i, 2)) (hr : -2147483648 ≤ n ∧ n < 2147483648) (hw : Cond.constant mi.1.cls i (Int32.ofInt n) ∈ GT) (k : V mi d b0 b1 bc bs (pc + 2) ls (pI n :: st) M dec X) : V mi d b0 b1 bc bs pc ls st M dec X :=
  v_op k (fun _ h => okS_cons.mpr ⟨hr, h⟩) (fun _ _ G b p l e s m args below meth c Q C H locs cells slots lsA _ kk => lv_ldc C.1 C.2.1 C.2.2.2.2.1 (C.2.2.2.2.2.1 _ hw) hd kk)
theorem v_ldcw {i : Nat} {n : Int} (hd : decode mi.2.1 pc = .ok (.ldc_w i, 3)) (hr : -2147483648 ≤ n ∧ n < 2147483648) (hw : Cond.constant mi.1.cls i (Int32.ofInt n) ∈ GT) (k : V mi d b0 b1 bc bs (pc + 3) ls (pI n :: st) M dec X) : V mi d b0 b1 bc bs pc ls st M dec X :=
  v_op k (fun _ h => okS_cons.mpr ⟨hr, h⟩) (fun _ _ G b p l e s m args below meth c Q C H locs cells slots lsA _ kk => lv_ldcw C.1 C.2.1 C.2.2.2.2.1 (C.2.2.2.2.2.1 _ hw) hd kk)
theorem v_ldc2 {i : Nat} {n : Int} (hd : decode mi.2.1 pc = .ok (.ldc2_w i, 3)) (hr : -9223372036854775808 ≤ n ∧ n < 9223372036854775808) (hw : Cond.constantLong mi.1.cls i (Int64.ofInt n) ∈ GT) (k : V mi d b0 b1 bc bs (pc + 3) ls (pL n :: st) M dec X) : V mi d b0 b1 bc bs pc ls st M dec X :=
  v_op k (fun _ h => okS_cons.mpr ⟨hr, h⟩) (fun _ _ G b p l e s m args below meth c Q C H locs cells slots lsA _ kk => lv_ldc2 C.1 C.2.1 C.2.2.2.2.1 (C.2.2.2.2.2.1 _ hw) hd kk)
theorem v_iload_n {i : Fin 4} {x : Int} (hd : decode mi.2.1 pc = .ok (.iload_n i, 1)) (hl : ls[(i : Nat)]? = some (some (pI x))) (k : V mi d b0 b1 bc bs (pc + 1) ls (pI x :: st) M dec X) : V mi d b0 b1 bc bs pc ls st M dec X :=
  v_op k (fun hL h => okS_cons.mpr ⟨hL _ _ hl, h⟩) (fun _ _ G b p l e s m args below meth c Q C H locs cells slots lsA hA kk => lv_iload_n C.1 C.2.1 hd rfl (lv_of hA hl) kk)
theorem v_iload {i : Nat} {x : Int} (hd : decode mi.2.1 pc = .ok (.iload i, 2)) (hl : ls[i]? = some (some (pI x))) (k : V mi d b0 b1 bc bs (pc + 2) ls (pI x :: st) M dec X) : V mi d b0 b1 bc bs pc ls st M dec X :=
  v_op k (fun hL h => okS_cons.mpr ⟨hL _ _ hl, h⟩) (fun _ _ G b p l e s m args below meth c Q C H locs cells slots lsA hA kk => lv_iload C.1 C.2.1 hd (lv_of hA hl) kk)
theorem v_lload_n {i : Fin 4} {x : Int} (hd : decode mi.2.1 pc = .ok (.lload_n i, 1)) (hl : ls[(i : Nat)]? = some (some (pL x))) (k : V mi d b0 b1 bc bs (pc + 1) ls (pL x :: st) M dec X) : V mi d b0 b1 bc bs pc ls st M dec X :=
  v_op k (fun hL h => okS_cons.mpr ⟨hL _ _ hl, h⟩) (fun _ _ G b p l e s m args below meth c Q C H locs cells slots lsA hA kk => lv_lload_n C.1 C.2.1 hd rfl (lv_of hA hl) kk)
theorem v_aload_n {i : Fin 4} {x : Int} (hd : decode mi.2.1 pc = .ok (.aload_n i, 1)) (hl : ls[(i : Nat)]? = some (some (pA x))) (k : V mi d b0 b1 bc bs (pc + 1) ls (pA x :: st) M dec X) : V mi d b0 b1 bc bs pc ls st M dec X :=
  v_op k (fun hL h => okS_cons.mpr ⟨hL _ _ hl, h⟩) (fun _ _ G b p l e s m args below meth c Q C H locs cells slots lsA hA kk => by
    have h := lv_of hA hl
    simp only [List.map_cons, eV, eR] at h kk
    split at h
    · rename_i hx; rw [if_pos hx] at kk; exact lv_aload_nN C.1 C.2.1 hd rfl h kk
    · rename_i hx
      rw [if_neg hx] at kk
      split at h
      · rename_i hy; rw [if_pos hy] at kk; exact lv_aload_n C.1 C.2.1 hd rfl h kk
      · rename_i hy; rw [if_neg hy] at kk; exact lv_aload_n C.1 C.2.1 hd rfl h kk)
theorem v_aload {i : Nat} {x : Int} (hd : decode mi.2.1 pc = .ok (.aload i, 2)) (hl : ls[i]? = some (some (pA x))) (k : V mi d b0 b1 bc bs (pc + 2) ls (pA x :: st) M dec X) : V mi d b0 b1 bc bs pc ls st M dec X :=
  v_op k (fun hL h => okS_cons.mpr ⟨hL _ _ hl, h⟩) (fun _ _ G b p l e s m args below meth c Q C H locs cells slots lsA hA kk => by
    have h := lv_of hA hl
    simp only [List.map_cons, eV, eR] at h kk
    split at h
    · rename_i hx; rw [if_pos hx] at kk; exact lv_aloadN C.1 C.2.1 hd h kk
    · rename_i hx
      rw [if_neg hx] at kk
      split at h
      · rename_i hy; rw [if_pos hy] at kk; exact lv_aload C.1 C.2.1 hd h kk
      · rename_i hy; rw [if_neg hy] at kk; exact lv_aload C.1 C.2.1 hd h kk)
/-- the locals behind a store of a value of one word -/
def klL (ls : List (Option PV)) (i : Nat) : List (Option PV) := match i with
  | 0 => ls
  | j + 1 => match ls[j]? with
    | some (some (.inr (.inl _))) => ls.set j none
    | _ => ls
def stL (ls : List (Option PV)) (i : Nat) (v : PV) : List (Option PV) := (klL ls i).set i (some v)
theorem stL_at {i k : Nat} {v w : PV} (h : (stL ls i v)[k]? = some (some w)) : (k = i ∧ w = v) ∨ (k ≠ i ∧ ls[k]? = some (some w) ∧ ¬ (k + 1 = i ∧ ∃ x, w = pL x)) := by
  unfold stL at h
  by_cases hk : k = i
  · left
    subst hk
    rw [List.getElem?_set] at h
    simp only [if_true] at h
    split at h
    · have := Option.some.inj (Option.some.inj h)
      exact ⟨rfl, this.symm⟩
    · cases h
  · right
    refine ⟨hk, ?_⟩
    rw [List.getElem?_set, if_neg (fun e => hk e.symm)] at h
    unfold klL at h
    match i, hk, h with
    | 0, hk, h => exact ⟨h, by rintro ⟨q, -⟩; omega⟩
    | j + 1, hk, h =>
      simp only at h
      split at h
      · rename_i x hx
        rw [List.getElem?_set] at h
        split at h
        · split at h <;> cases h
        · rename_i hj
          exact ⟨h, by rintro ⟨q, -⟩; omega⟩
      · rename_i hx
        refine ⟨h, ?_⟩
        rintro ⟨q, x, rfl⟩
        have : k = j := by omega
        subst this
        exact hx x h
theorem eV_cat {b : Nat} {cs : Nat → Nat} {v : PV} : (eV b cs v).category = 2 ↔ ∃ x, v = pL x := by
  match v with
  | .inl x => simp [eV, Value.category]
  | .inr (.inl x) => simp [eV, Value.category]
  | .inr (.inr x) =>
    rw [show (eV b cs (.inr (.inr x))).category = 1 from eR_cat b cs x]
    simp
theorem stL_has {b : Nat} {cs : Nat → Nat} {n i : Nat} {v : PV} {lsA : Array Slot} (h : lv_has lsA n ((i, eV b cs v) :: (lsL b cs 0 ls).filter (fun q => !(q.1 == i) && !(q.1 + 1 == i && q.2.category == 2)))) : lv_has lsA n (lsL b cs 0 (stL ls i v)) := by
  refine ⟨h.1, h.2.1, fun q hq => h.2.2 q ?_⟩
  obtain ⟨k, w, h1, rfl⟩ := lsL_mem.mp hq
  rcases stL_at h1 with ⟨rfl, rfl⟩ | ⟨h2, h3, h4⟩
  · rw [Nat.zero_add]; exact List.mem_cons_self
  · refine List.mem_cons_of_mem _ (List.mem_filter.mpr ⟨lsL_mem.mpr ⟨k, w, h3, rfl⟩, ?_⟩)
    simp only [Nat.zero_add, Bool.and_eq_true, Bool.not_eq_true', beq_eq_false_iff_ne, ne_eq, Bool.and_eq_false_iff]
    refine ⟨h2, ?_⟩
    by_cases h5 : k + 1 = i
    · right
      intro h6
      exact h4 ⟨h5, eV_cat.mp h6⟩
    · left; exact h5
theorem stL_ok {i : Nat} {v : PV} (hL : okL ls) (hv : okV v) : okL (stL ls i v) := by
  intro k w h
  rcases stL_at h with ⟨_, rfl⟩ | ⟨_, h3, _⟩
  · exact hv
  · exact hL k w h3
theorem v_istore_n {i : Fin 4} {x : Int} (hd : decode mi.2.1 pc = .ok (.istore_n i, 1)) (hn : (i : Nat) < mi.2.2.1) (hl : stL ls i (pI x) = ls') (k : V mi d b0 b1 bc bs (pc + 1) ls' st M dec X) : V mi d b0 b1 bc bs pc ls (pI x :: st) M dec X := by
  subst hl
  exact v_step k (fun hM hL hS => ⟨hM, stL_ok hL (okS_cons.mp hS).1, (okS_cons.mp hS).2⟩) (fun hM hL hS G b p l e s m args below meth c Q C H locs cells slots lsA D kk =>
    lv_istore_n C.1 C.2.1 hd rfl D.2.2.2.1 hn rfl (fun lsA' hA => kk H locs cells slots lsA' ⟨D.1, D.2.1, D.2.2.1, stL_has hA, D.2.2.2.2⟩))
theorem v_istore {i : Nat} {x : Int} (hd : decode mi.2.1 pc = .ok (.istore i, 2)) (hn : i < mi.2.2.1) (hl : stL ls i (pI x) = ls') (k : V mi d b0 b1 bc bs (pc + 2) ls' st M dec X) : V mi d b0 b1 bc bs pc ls (pI x :: st) M dec X := by
  subst hl
  exact v_step k (fun hM hL hS => ⟨hM, stL_ok hL (okS_cons.mp hS).1, (okS_cons.mp hS).2⟩) (fun hM hL hS G b p l e s m args below meth c Q C H locs cells slots lsA D kk =>
    lv_istore C.1 C.2.1 hd D.2.2.2.1 hn rfl (fun lsA' hA => kk H locs cells slots lsA' ⟨D.1, D.2.1, D.2.2.1, stL_has hA, D.2.2.2.2⟩))
theorem v_astore_n {i : Fin 4} {x : Int} (hd : decode mi.2.1 pc = .ok (.astore_n i, 1)) (hn : (i : Nat) < mi.2.2.1) (hl : stL ls i (pA x) = ls') (k : V mi d b0 b1 bc bs (pc + 1) ls' st M dec X) : V mi d b0 b1 bc bs pc ls (pA x :: st) M dec X := by
  subst hl
  refine v_step k (fun hM hL hS => ⟨hM, stL_ok hL (okS_cons.mp hS).1, (okS_cons.mp hS).2⟩) (fun hM hL hS G b p l e s m args below meth c Q C H locs cells slots lsA D kk => ?_)
  have k2 : ∀ lsA' : Array Slot, lv_has lsA' mi.2.2.1 (((i : Nat), eR b G.2.2.2.1 x) :: (lsL b G.2.2.2.1 0 ls).filter (fun q => !(q.1 == (i : Nat)) && !(q.1 + 1 == (i : Nat) && q.2.category == 2))) → _ := fun lsA' hA => kk H locs cells slots lsA' ⟨D.1, D.2.1, D.2.2.1, stL_has (v := pA x) hA, D.2.2.2.2⟩
  simp only [List.map_cons, eV]
  by_cases h1 : x = -1
  · rw [show eR b G.2.2.2.1 x = .null by unfold eR; rw [if_pos h1]] at k2 ⊢
    exact lv_astore_nN C.1 C.2.1 hd rfl D.2.2.2.1 hn rfl k2
  · by_cases h2 : 0 ≤ x
    · rw [show eR b G.2.2.2.1 x = .ref (b + x.toNat) by unfold eR; rw [if_neg h1, if_pos h2]] at k2 ⊢
      exact lv_astore_n C.1 C.2.1 hd rfl D.2.2.2.1 hn rfl k2
    · rw [show eR b G.2.2.2.1 x = .ref (G.2.2.2.1 (-x - 2).toNat) by unfold eR; rw [if_neg h1, if_neg h2]] at k2 ⊢
      exact lv_astore_n C.1 C.2.1 hd rfl D.2.2.2.1 hn rfl k2
theorem v_astore {i : Nat} {x : Int} (hd : decode mi.2.1 pc = .ok (.astore i, 2)) (hn : i < mi.2.2.1) (hl : stL ls i (pA x) = ls') (k : V mi d b0 b1 bc bs (pc + 2) ls' st M dec X) : V mi d b0 b1 bc bs pc ls (pA x :: st) M dec X := by
  subst hl
  refine v_step k (fun hM hL hS => ⟨hM, stL_ok hL (okS_cons.mp hS).1, (okS_cons.mp hS).2⟩) (fun hM hL hS G b p l e s m args below meth c Q C H locs cells slots lsA D kk => ?_)
  have k2 : ∀ lsA' : Array Slot, lv_has lsA' mi.2.2.1 ((i, eR b G.2.2.2.1 x) :: (lsL b G.2.2.2.1 0 ls).filter (fun q => !(q.1 == i) && !(q.1 + 1 == i && q.2.category == 2))) → _ := fun lsA' hA => kk H locs cells slots lsA' ⟨D.1, D.2.1, D.2.2.1, stL_has (v := pA x) hA, D.2.2.2.2⟩
  simp only [List.map_cons, eV]
  by_cases h1 : x = -1
  · rw [show eR b G.2.2.2.1 x = .null by unfold eR; rw [if_pos h1]] at k2 ⊢
    exact lv_astoreN C.1 C.2.1 hd D.2.2.2.1 hn rfl k2
  · by_cases h2 : 0 ≤ x
    · rw [show eR b G.2.2.2.1 x = .ref (b + x.toNat) by unfold eR; rw [if_neg h1, if_pos h2]] at k2 ⊢
      exact lv_astore C.1 C.2.1 hd D.2.2.2.1 hn rfl k2
    · rw [show eR b G.2.2.2.1 x = .ref (G.2.2.2.1 (-x - 2).toNat) by unfold eR; rw [if_neg h1, if_neg h2]] at k2 ⊢
      exact lv_astore C.1 C.2.1 hd D.2.2.2.1 hn rfl k2
theorem v_iinc {i : Nat} {n x : Int} (hd : decode mi.2.1 pc = .ok (.iinc i n, 3)) (hn : i < mi.2.2.1) (hx : ls[i]? = some (some (pI x))) (hl : stL ls i (pI (w32 (x + n))) = ls') (k : V mi d b0 b1 bc bs (pc + 3) ls' st M dec X) : V mi d b0 b1 bc bs pc ls st M dec X := by
  subst hl
  refine v_step k (fun hM hL hS => ⟨hM, stL_ok hL (w32_r _), hS⟩) (fun hM hL hS G b p l e s m args below meth c Q C H locs cells slots lsA D kk => ?_)
  obtain ⟨j, hj⟩ := List.getElem?_of_mem (lsL_mem (b := b) (cs := G.2.2.2.1) (i := 0).mpr ⟨i, pI x, hx, rfl⟩)
  rw [Nat.zero_add] at hj
  exact lv_iinc C.1 C.2.1 hd D.2.2.2.1 hj (q_add x n) hn rfl (fun lsA' hA => kk H locs cells slots lsA' ⟨D.1, D.2.1, D.2.2.1, stL_has (v := pI (w32 (x + n))) hA, D.2.2.2.2⟩)
theorem v_iadd {x y : Int} (hd : decode mi.2.1 pc = .ok (.iadd, 1)) (k : V mi d b0 b1 bc bs (pc + 1) ls (pI (w32 (x + y)) :: st) M dec X) : V mi d b0 b1 bc bs pc ls (pI y :: pI x :: st) M dec X :=
  v_op k (fun hL h => okS_cons.mpr ⟨w32_r _, (okS_cons.mp (okS_cons.mp h).2).2⟩) (fun _ _ G b p l e s m args below meth c Q C H locs cells slots lsA hA kk => lv_iadd C.1 C.2.1 hd (by rw [q_add]; exact kk))
theorem v_isub {x y : Int} (hd : decode mi.2.1 pc = .ok (.isub, 1)) (k : V mi d b0 b1 bc bs (pc + 1) ls (pI (w32 (x - y)) :: st) M dec X) : V mi d b0 b1 bc bs pc ls (pI y :: pI x :: st) M dec X :=
  v_op k (fun hL h => okS_cons.mpr ⟨w32_r _, (okS_cons.mp (okS_cons.mp h).2).2⟩) (fun _ _ G b p l e s m args below meth c Q C H locs cells slots lsA hA kk => lv_isub C.1 C.2.1 hd (by rw [q_sub]; exact kk))
theorem v_imul {x y : Int} (hd : decode mi.2.1 pc = .ok (.imul, 1)) (k : V mi d b0 b1 bc bs (pc + 1) ls (pI (w32 (x * y)) :: st) M dec X) : V mi d b0 b1 bc bs pc ls (pI y :: pI x :: st) M dec X :=
  v_op k (fun hL h => okS_cons.mpr ⟨w32_r _, (okS_cons.mp (okS_cons.mp h).2).2⟩) (fun _ _ G b p l e s m args below meth c Q C H locs cells slots lsA hA kk => lv_imul C.1 C.2.1 hd (by rw [q_mul]; exact kk))
theorem v_ineg {x : Int} (hd : decode mi.2.1 pc = .ok (.ineg, 1)) (k : V mi d b0 b1 bc bs (pc + 1) ls (pI (w32 (-x)) :: st) M dec X) : V mi d b0 b1 bc bs pc ls (pI x :: st) M dec X :=
  v_op k (fun hL h => okS_cons.mpr ⟨w32_r _, (okS_cons.mp h).2⟩) (fun _ _ G b p l e s m args below meth c Q C H locs cells slots lsA hA kk => lv_ineg C.1 C.2.1 hd (by rw [q_neg]; exact kk))
theorem q_ne0 {y : Int} (h : r32 y) (hy : y ≠ 0) : ¬ Int32.ofInt y = 0 := fun q => hy ((q_eq h r32_0).mp (by rw [q_0]; exact q))
theorem v_idiv {x y : Int} (hy : y ≠ 0) (hd : decode mi.2.1 pc = .ok (.idiv, 1)) (k : V mi d b0 b1 bc bs (pc + 1) ls (pI (w32 (x.tdiv y)) :: st) M dec X) : V mi d b0 b1 bc bs pc ls (pI y :: pI x :: st) M dec X :=
  v_op k (fun hL h => okS_cons.mpr ⟨w32_r _, (okS_cons.mp (okS_cons.mp h).2).2⟩) (fun _ hS G b p l e s m args below meth c Q C H locs cells slots lsA hA kk => lv_idiv C.1 C.2.1 hd (q_ne0 (okS_cons.mp hS).1 hy) (by rw [q_div (okS_cons.mp (okS_cons.mp hS).2).1 (okS_cons.mp hS).1]; exact kk))
theorem v_irem {x y : Int} (hy : y ≠ 0) (hd : decode mi.2.1 pc = .ok (.irem, 1)) (k : V mi d b0 b1 bc bs (pc + 1) ls (pI (x.tmod y) :: st) M dec X) : V mi d b0 b1 bc bs pc ls (pI y :: pI x :: st) M dec X :=
  v_op k (fun hL h => okS_cons.mpr ⟨tmod_r (okS_cons.mp (okS_cons.mp h).2).1, (okS_cons.mp (okS_cons.mp h).2).2⟩) (fun _ hS G b p l e s m args below meth c Q C H locs cells slots lsA hA kk => lv_irem C.1 C.2.1 hd (q_ne0 (okS_cons.mp hS).1 hy) (by rw [q_rem (okS_cons.mp (okS_cons.mp hS).2).1 (okS_cons.mp hS).1]; exact kk))
theorem v_iand {x y : Int} (hd : decode mi.2.1 pc = .ok (.iand, 1)) (k : V mi d b0 b1 bc bs (pc + 1) ls (pI (bAnd x y) :: st) M dec X) : V mi d b0 b1 bc bs pc ls (pI y :: pI x :: st) M dec X :=
  v_op k (fun hL h => okS_cons.mpr ⟨q_bl, (okS_cons.mp (okS_cons.mp h).2).2⟩) (fun _ _ G b p l e s m args below meth c Q C H locs cells slots lsA hA kk => lv_iand C.1 C.2.1 hd (by simp only [List.map_cons, eV, bAnd, Int32.ofInt_toInt] at kk; exact kk))
theorem v_ior {x y : Int} (hd : decode mi.2.1 pc = .ok (.ior, 1)) (k : V mi d b0 b1 bc bs (pc + 1) ls (pI (bOr x y) :: st) M dec X) : V mi d b0 b1 bc bs pc ls (pI y :: pI x :: st) M dec X :=
  v_op k (fun hL h => okS_cons.mpr ⟨q_bl, (okS_cons.mp (okS_cons.mp h).2).2⟩) (fun _ _ G b p l e s m args below meth c Q C H locs cells slots lsA hA kk => lv_ior C.1 C.2.1 hd (by simp only [List.map_cons, eV, bOr, Int32.ofInt_toInt] at kk; exact kk))
theorem v_ishl {x y : Int} (hd : decode mi.2.1 pc = .ok (.ishl, 1)) (k : V mi d b0 b1 bc bs (pc + 1) ls (pI (bShl x y) :: st) M dec X) : V mi d b0 b1 bc bs pc ls (pI y :: pI x :: st) M dec X :=
  v_op k (fun hL h => okS_cons.mpr ⟨q_bl, (okS_cons.mp (okS_cons.mp h).2).2⟩) (fun _ _ G b p l e s m args below meth c Q C H locs cells slots lsA hA kk => lv_ishl C.1 C.2.1 hd (by simp only [List.map_cons, eV, bShl, Int32.ofInt_toInt] at kk; exact kk))
theorem v_ishr {x y : Int} (hd : decode mi.2.1 pc = .ok (.ishr, 1)) (k : V mi d b0 b1 bc bs (pc + 1) ls (pI (bShr x y) :: st) M dec X) : V mi d b0 b1 bc bs pc ls (pI y :: pI x :: st) M dec X :=
  v_op k (fun hL h => okS_cons.mpr ⟨q_bl, (okS_cons.mp (okS_cons.mp h).2).2⟩) (fun _ _ G b p l e s m args below meth c Q C H locs cells slots lsA hA kk => lv_ishr C.1 C.2.1 hd (by simp only [List.map_cons, eV, bShr, Int32.ofInt_toInt] at kk; exact kk))
theorem v_iushr {x y : Int} (hd : decode mi.2.1 pc = .ok (.iushr, 1)) (k : V mi d b0 b1 bc bs (pc + 1) ls (pI (bUshr x y) :: st) M dec X) : V mi d b0 b1 bc bs pc ls (pI y :: pI x :: st) M dec X :=
  v_op k (fun hL h => okS_cons.mpr ⟨q_bl, (okS_cons.mp (okS_cons.mp h).2).2⟩) (fun _ _ G b p l e s m args below meth c Q C H locs cells slots lsA hA kk => lv_iushr C.1 C.2.1 hd rfl (by simp only [List.map_cons, eV, bUshr, Int32.ofInt_toInt] at kk; exact kk))
theorem v_lshl {x y : Int} (hd : decode mi.2.1 pc = .ok (.lshl, 1)) (k : V mi d b0 b1 bc bs (pc + 1) ls (pL (lShl x y) :: st) M dec X) : V mi d b0 b1 bc bs pc ls (pI y :: pL x :: st) M dec X :=
  v_op k (fun hL h => okS_cons.mpr ⟨q_blL, (okS_cons.mp (okS_cons.mp h).2).2⟩) (fun _ _ G b p l e s m args below meth c Q C H locs cells slots lsA hA kk => lv_lshl C.1 C.2.1 hd rfl (by simp only [List.map_cons, eV, lShl, Int64.ofInt_toInt] at kk; exact kk))
theorem v_lor {x y : Int} (hd : decode mi.2.1 pc = .ok (.lor, 1)) (k : V mi d b0 b1 bc bs (pc + 1) ls (pL (lOr x y) :: st) M dec X) : V mi d b0 b1 bc bs pc ls (pL y :: pL x :: st) M dec X :=
  v_op k (fun hL h => okS_cons.mpr ⟨q_blL, (okS_cons.mp (okS_cons.mp h).2).2⟩) (fun _ _ G b p l e s m args below meth c Q C H locs cells slots lsA hA kk => lv_lor C.1 C.2.1 hd (by simp only [List.map_cons, eV, lOr, Int64.ofInt_toInt] at kk; exact kk))
theorem v_i2l {x : Int} (hd : decode mi.2.1 pc = .ok (.i2l, 1)) (k : V mi d b0 b1 bc bs (pc + 1) ls (pL x :: st) M dec X) : V mi d b0 b1 bc bs pc ls (pI x :: st) M dec X :=
  v_op k (fun hL h => okS_cons.mpr ⟨(show r64 x by have := (okS_cons.mp h).1; unfold okV r32 at this; unfold r64; omega), (okS_cons.mp h).2⟩) (fun _ hS G b p l e s m args below meth c Q C H locs cells slots lsA hA kk => lv_i2l C.1 C.2.1 hd (q_i2l (okS_cons.mp hS).1) kk)
theorem v_i2b {x : Int} (hd : decode mi.2.1 pc = .ok (.i2b, 1)) (k : V mi d b0 b1 bc bs (pc + 1) ls (pI (w8 x) :: st) M dec X) : V mi d b0 b1 bc bs pc ls (pI x :: st) M dec X :=
  v_op k (fun hL h => okS_cons.mpr ⟨(show r32 (w8 x) by have := w8_r x; unfold r32; omega), (okS_cons.mp h).2⟩) (fun _ hS G b p l e s m args below meth c Q C H locs cells slots lsA hA kk => lv_i2b C.1 C.2.1 hd (q_i2b x) kk)
def lcmp (x y : Int) : Int := if x = y then 0 else if x < y then -1 else 1
theorem q_lcmp {x y : Int} (hx : r64 x) (hy : r64 y) : lg_cmp (Int64.ofInt x) (Int64.ofInt y) = Int32.ofInt (lcmp x y) := by
  unfold lg_cmp lcmp
  by_cases h : x = y
  · subst h; simp
  · rw [if_neg h]
    by_cases h2 : x < y
    · rw [if_pos h2]
      have a1 : ¬ Int64.ofInt y < Int64.ofInt x := fun q => by have := (q_ltL hy hx).mp q; omega
      have a2 : ¬ Int64.ofInt x = Int64.ofInt y := fun q => h ((q_eqL hx hy).mp q)
      have a3 := (q_ltL hx hy).mpr h2
      simp [a1, a2, a3]
      try rfl
    · rw [if_neg h2]
      have a1 : Int64.ofInt y < Int64.ofInt x := (q_ltL hy hx).mpr (by omega)
      simp [a1]
      try rfl
theorem v_lcmp {x y : Int} (hd : decode mi.2.1 pc = .ok (.lcmp, 1)) (k : V mi d b0 b1 bc bs (pc + 1) ls (pI (lcmp x y) :: st) M dec X) : V mi d b0 b1 bc bs pc ls (pL y :: pL x :: st) M dec X :=
  v_op k (fun hL h => okS_cons.mpr ⟨(show r32 (lcmp x y) by unfold lcmp r32; split <;> (try split) <;> omega), (okS_cons.mp (okS_cons.mp h).2).2⟩) (fun _ hS G b p l e s m args below meth c Q C H locs cells slots lsA hA kk => W.lcmp C.1 C.2.1 hd (by rw [q_lcmp (okS_cons.mp (okS_cons.mp hS).2).1 (okS_cons.mp hS).1]; exact kk))
theorem eV_cat1 {b : Nat} {cs : Nat → Nat} {v : PV} (h : ∀ x, v ≠ pL x) : (eV b cs v).category = 1 := by
  rcases lv_cat (eV b cs v) with q | q
  · exact q
  · obtain ⟨x, hx⟩ := eV_cat.mp q
    exact absurd hx (h x)
theorem v_dup {v : PV} (hd : decode mi.2.1 pc = .ok (.dup, 1)) (hv : ∀ x, v ≠ pL x) (k : V mi d b0 b1 bc bs (pc + 1) ls (v :: v :: st) M dec X) : V mi d b0 b1 bc bs pc ls (v :: st) M dec X :=
  v_op k (fun hL h => okS_cons.mpr ⟨(okS_cons.mp h).1, h⟩) (fun _ hS G b p l e s m args below meth c Q C H locs cells slots lsA hA kk => lv_dup C.1 C.2.1 hd (eV_cat1 hv) kk)
theorem v_pop {v : PV} (hd : decode mi.2.1 pc = .ok (.pop, 1)) (hv : ∀ x, v ≠ pL x) (k : V mi d b0 b1 bc bs (pc + 1) ls st M dec X) : V mi d b0 b1 bc bs pc ls (v :: st) M dec X :=
  v_op k (fun hL h => (okS_cons.mp h).2) (fun _ hS G b p l e s m args below meth c Q C H locs cells slots lsA hA kk => lv_pop C.1 C.2.1 hd (eV_cat1 hv) kk)
theorem v_dup2 {v w : PV} (hd : decode mi.2.1 pc = .ok (.dup2, 1)) (hv : ∀ x, v ≠ pL x) (hw : ∀ x, w ≠ pL x) (k : V mi d b0 b1 bc bs (pc + 1) ls (v :: w :: v :: w :: st) M dec X) : V mi d b0 b1 bc bs pc ls (v :: w :: st) M dec X :=
  v_op k (fun hL h => okS_cons.mpr ⟨(okS_cons.mp h).1, okS_cons.mpr ⟨(okS_cons.mp (okS_cons.mp h).2).1, h⟩⟩) (fun _ hS G b p l e s m args below meth c Q C H locs cells slots lsA hA kk => lv_dup2_11 C.1 C.2.1 hd (eV_cat1 hv) (eV_cat1 hw) kk)
/-- a branch: the condition c of the pure side is that of the machine -/
theorem v_br {st' : List PV} {P : Prop} [Decidable P] {pa pb : Nat} (ka : P → V mi d b0 b1 bc bs pa ls st' M dec A) (kb : ¬ P → V mi d b0 b1 bc bs pb ls st' M dec B) (hok : okS st → okS st')
    (hw : okS st → ∀ (G : GG) (b : Nat) (p : Program) (l : Launch) (e : Env) (s : State) (m : MethodId) (args : Array Value) (below : List Frame) (meth : Method) (c : Code) (Q : State → Prop), Cx mi G b p s m args meth c →
      ∀ (H : Heap) (locs : List Loc) (cells slots : Nat) (lsA : Array Slot),
        (P → W p l e (rmD d b0 b1) s m args below meth c H locs cells slots Q (F0 m pa lsA (st'.map (eV b G.2.2.2.1)))) → (¬ P → W p l e (rmD d b0 b1) s m args below meth c H locs cells slots Q (F0 m pb lsA (st'.map (eV b G.2.2.2.1)))) →
        W p l e (rmD d b0 b1) s m args below meth c H locs cells slots Q (F0 m pc lsA (st.map (eV b G.2.2.2.1)))) : V mi d b0 b1 bc bs pc ls st M dec (if P then A else B) := by
  intro r hr hM hL hS
  by_cases hP : P
  · rw [if_pos hP] at hr
    obtain ⟨g1, g2⟩ := ka hP r hr hM hL (hok hS)
    exact ⟨g1, fun G b p l e s m args below meth c C H locs cells slots lsA D => hw hS G b p l e s m args below meth c _ C H locs cells slots lsA (fun _ => g2 G b p l e s m args below meth c C H locs cells slots lsA D) (fun h => absurd hP h)⟩
  · rw [if_neg hP] at hr
    obtain ⟨g1, g2⟩ := kb hP r hr hM hL (hok hS)
    exact ⟨g1, fun G b p l e s m args below meth c C H locs cells slots lsA D => hw hS G b p l e s m args below meth c _ C H locs cells slots lsA (fun h => absurd h hP) (fun _ => g2 G b p l e s m args below meth c C H locs cells slots lsA D)⟩
theorem v_if_eq {x : Int} {off : Int} {tgt : Nat} (hd : decode mi.2.1 pc = .ok (.ifCond .eq off, 3)) (ht : (pc : Int) + off = (tgt : Int)) (ka : x = 0 → V mi d b0 b1 bc bs (tgt) ls st M dec A) (kb : ¬ x = 0 → V mi d b0 b1 bc bs (pc + 3) ls st M dec B) : V mi d b0 b1 bc bs pc ls (pI x :: st) M dec (if x = 0 then A else B) :=
  v_br ka kb (fun h => (okS_cons.mp h).2) (fun hS G b p l e s m args below meth c Q C H locs cells slots lsA wa wb => by
    have hx : r32 x := (okS_cons.mp hS).1
    have hy : r32 0 := r32_0
    have hE := q_eq hx hy
    rw [q_0] at hE
    exact lv_if_eq C.1 C.2.1 hd ht (fun h => wa (hE.mp h)) (fun h => wb (fun q => h (hE.mpr q))))
theorem v_icmp_eq {x y : Int} {off : Int} {tgt : Nat} (hd : decode mi.2.1 pc = .ok (.if_icmp .eq off, 3)) (ht : (pc : Int) + off = (tgt : Int)) (ka : x = y → V mi d b0 b1 bc bs (tgt) ls st M dec A) (kb : ¬ x = y → V mi d b0 b1 bc bs (pc + 3) ls st M dec B) : V mi d b0 b1 bc bs pc ls (pI y :: pI x :: st) M dec (if x = y then A else B) :=
  v_br ka kb (fun h => (okS_cons.mp (okS_cons.mp h).2).2) (fun hS G b p l e s m args below meth c Q C H locs cells slots lsA wa wb => by
    have hx : r32 x := (okS_cons.mp (okS_cons.mp hS).2).1
    have hy : r32 y := (okS_cons.mp hS).1
    have hE := q_eq hx hy
    exact lv_icmp_eq C.1 C.2.1 hd ht (fun h => wa (hE.mp h)) (fun h => wb (fun q => h (hE.mpr q))))
theorem v_if_ne {x : Int} {off : Int} {tgt : Nat} (hd : decode mi.2.1 pc = .ok (.ifCond .ne off, 3)) (ht : (pc : Int) + off = (tgt : Int)) (ka : x = 0 → V mi d b0 b1 bc bs (pc + 3) ls st M dec A) (kb : ¬ x = 0 → V mi d b0 b1 bc bs (tgt) ls st M dec B) : V mi d b0 b1 bc bs pc ls (pI x :: st) M dec (if x = 0 then A else B) :=
  v_br ka kb (fun h => (okS_cons.mp h).2) (fun hS G b p l e s m args below meth c Q C H locs cells slots lsA wa wb => by
    have hx : r32 x := (okS_cons.mp hS).1
    have hy : r32 0 := r32_0
    have hE := q_eq hx hy
    rw [q_0] at hE
    exact lv_if_ne C.1 C.2.1 hd ht (fun h => wb (fun q => h (hE.mpr q))) (fun h => wa (hE.mp h)))
theorem v_icmp_ne {x y : Int} {off : Int} {tgt : Nat} (hd : decode mi.2.1 pc = .ok (.if_icmp .ne off, 3)) (ht : (pc : Int) + off = (tgt : Int)) (ka : x = y → V mi d b0 b1 bc bs (pc + 3) ls st M dec A) (kb : ¬ x = y → V mi d b0 b1 bc bs (tgt) ls st M dec B) : V mi d b0 b1 bc bs pc ls (pI y :: pI x :: st) M dec (if x = y then A else B) :=
  v_br ka kb (fun h => (okS_cons.mp (okS_cons.mp h).2).2) (fun hS G b p l e s m args below meth c Q C H locs cells slots lsA wa wb => by
    have hx : r32 x := (okS_cons.mp (okS_cons.mp hS).2).1
    have hy : r32 y := (okS_cons.mp hS).1
    have hE := q_eq hx hy
    exact lv_icmp_ne C.1 C.2.1 hd ht (fun h => wb (fun q => h (hE.mpr q))) (fun h => wa (hE.mp h)))
theorem v_if_lt {x : Int} {off : Int} {tgt : Nat} (hd : decode mi.2.1 pc = .ok (.ifCond .lt off, 3)) (ht : (pc : Int) + off = (tgt : Int)) (ka : x < 0 → V mi d b0 b1 bc bs (tgt) ls st M dec A) (kb : ¬ x < 0 → V mi d b0 b1 bc bs (pc + 3) ls st M dec B) : V mi d b0 b1 bc bs pc ls (pI x :: st) M dec (if x < 0 then A else B) :=
  v_br ka kb (fun h => (okS_cons.mp h).2) (fun hS G b p l e s m args below meth c Q C H locs cells slots lsA wa wb => by
    have hx : r32 x := (okS_cons.mp hS).1
    have hy : r32 0 := r32_0
    have hE := q_lt hx hy
    rw [q_0] at hE
    exact lv_if_lt C.1 C.2.1 hd ht (fun h => wa (hE.mp h)) (fun h => wb (fun q => h (hE.mpr q))))
theorem v_icmp_lt {x y : Int} {off : Int} {tgt : Nat} (hd : decode mi.2.1 pc = .ok (.if_icmp .lt off, 3)) (ht : (pc : Int) + off = (tgt : Int)) (ka : x < y → V mi d b0 b1 bc bs (tgt) ls st M dec A) (kb : ¬ x < y → V mi d b0 b1 bc bs (pc + 3) ls st M dec B) : V mi d b0 b1 bc bs pc ls (pI y :: pI x :: st) M dec (if x < y then A else B) :=
  v_br ka kb (fun h => (okS_cons.mp (okS_cons.mp h).2).2) (fun hS G b p l e s m args below meth c Q C H locs cells slots lsA wa wb => by
    have hx : r32 x := (okS_cons.mp (okS_cons.mp hS).2).1
    have hy : r32 y := (okS_cons.mp hS).1
    have hE := q_lt hx hy
    exact lv_icmp_lt C.1 C.2.1 hd ht (fun h => wa (hE.mp h)) (fun h => wb (fun q => h (hE.mpr q))))
theorem v_if_ge {x : Int} {off : Int} {tgt : Nat} (hd : decode mi.2.1 pc = .ok (.ifCond .ge off, 3)) (ht : (pc : Int) + off = (tgt : Int)) (ka : x < 0 → V mi d b0 b1 bc bs (pc + 3) ls st M dec A) (kb : ¬ x < 0 → V mi d b0 b1 bc bs (tgt) ls st M dec B) : V mi d b0 b1 bc bs pc ls (pI x :: st) M dec (if x < 0 then A else B) :=
  v_br ka kb (fun h => (okS_cons.mp h).2) (fun hS G b p l e s m args below meth c Q C H locs cells slots lsA wa wb => by
    have hx : r32 x := (okS_cons.mp hS).1
    have hy : r32 0 := r32_0
    have hE := q_le hy hx
    rw [q_0] at hE
    exact lv_if_ge C.1 C.2.1 hd ht (fun h => wb (fun q => by have := hE.mp h; omega)) (fun h => wa (Int.not_le.mp (fun q => h (hE.mpr q)))))
theorem v_icmp_ge {x y : Int} {off : Int} {tgt : Nat} (hd : decode mi.2.1 pc = .ok (.if_icmp .ge off, 3)) (ht : (pc : Int) + off = (tgt : Int)) (ka : x < y → V mi d b0 b1 bc bs (pc + 3) ls st M dec A) (kb : ¬ x < y → V mi d b0 b1 bc bs (tgt) ls st M dec B) : V mi d b0 b1 bc bs pc ls (pI y :: pI x :: st) M dec (if x < y then A else B) :=
  v_br ka kb (fun h => (okS_cons.mp (okS_cons.mp h).2).2) (fun hS G b p l e s m args below meth c Q C H locs cells slots lsA wa wb => by
    have hx : r32 x := (okS_cons.mp (okS_cons.mp hS).2).1
    have hy : r32 y := (okS_cons.mp hS).1
    have hE := q_le hy hx
    exact lv_icmp_ge C.1 C.2.1 hd ht (fun h => wb (fun q => by have := hE.mp h; omega)) (fun h => wa (Int.not_le.mp (fun q => h (hE.mpr q)))))
theorem v_if_gt {x : Int} {off : Int} {tgt : Nat} (hd : decode mi.2.1 pc = .ok (.ifCond .gt off, 3)) (ht : (pc : Int) + off = (tgt : Int)) (ka : 0 < x → V mi d b0 b1 bc bs (tgt) ls st M dec A) (kb : ¬ 0 < x → V mi d b0 b1 bc bs (pc + 3) ls st M dec B) : V mi d b0 b1 bc bs pc ls (pI x :: st) M dec (if 0 < x then A else B) :=
  v_br ka kb (fun h => (okS_cons.mp h).2) (fun hS G b p l e s m args below meth c Q C H locs cells slots lsA wa wb => by
    have hx : r32 x := (okS_cons.mp hS).1
    have hy : r32 0 := r32_0
    have hE := q_lt hy hx
    rw [q_0] at hE
    exact lv_if_gt C.1 C.2.1 hd ht (fun h => wa (hE.mp h)) (fun h => wb (fun q => h (hE.mpr q))))
theorem v_icmp_gt {x y : Int} {off : Int} {tgt : Nat} (hd : decode mi.2.1 pc = .ok (.if_icmp .gt off, 3)) (ht : (pc : Int) + off = (tgt : Int)) (ka : y < x → V mi d b0 b1 bc bs (tgt) ls st M dec A) (kb : ¬ y < x → V mi d b0 b1 bc bs (pc + 3) ls st M dec B) : V mi d b0 b1 bc bs pc ls (pI y :: pI x :: st) M dec (if y < x then A else B) :=
  v_br ka kb (fun h => (okS_cons.mp (okS_cons.mp h).2).2) (fun hS G b p l e s m args below meth c Q C H locs cells slots lsA wa wb => by
    have hx : r32 x := (okS_cons.mp (okS_cons.mp hS).2).1
    have hy : r32 y := (okS_cons.mp hS).1
    have hE := q_lt hy hx
    exact lv_icmp_gt C.1 C.2.1 hd ht (fun h => wa (hE.mp h)) (fun h => wb (fun q => h (hE.mpr q))))
theorem v_if_le {x : Int} {off : Int} {tgt : Nat} (hd : decode mi.2.1 pc = .ok (.ifCond .le off, 3)) (ht : (pc : Int) + off = (tgt : Int)) (ka : 0 < x → V mi d b0 b1 bc bs (pc + 3) ls st M dec A) (kb : ¬ 0 < x → V mi d b0 b1 bc bs (tgt) ls st M dec B) : V mi d b0 b1 bc bs pc ls (pI x :: st) M dec (if 0 < x then A else B) :=
  v_br ka kb (fun h => (okS_cons.mp h).2) (fun hS G b p l e s m args below meth c Q C H locs cells slots lsA wa wb => by
    have hx : r32 x := (okS_cons.mp hS).1
    have hy : r32 0 := r32_0
    have hE := q_le hx hy
    rw [q_0] at hE
    exact lv_if_le C.1 C.2.1 hd ht (fun h => wb (fun q => by have := hE.mp h; omega)) (fun h => wa (Int.not_le.mp (fun q => h (hE.mpr q)))))
theorem v_icmp_le {x y : Int} {off : Int} {tgt : Nat} (hd : decode mi.2.1 pc = .ok (.if_icmp .le off, 3)) (ht : (pc : Int) + off = (tgt : Int)) (ka : y < x → V mi d b0 b1 bc bs (pc + 3) ls st M dec A) (kb : ¬ y < x → V mi d b0 b1 bc bs (tgt) ls st M dec B) : V mi d b0 b1 bc bs pc ls (pI y :: pI x :: st) M dec (if y < x then A else B) :=
  v_br ka kb (fun h => (okS_cons.mp (okS_cons.mp h).2).2) (fun hS G b p l e s m args below meth c Q C H locs cells slots lsA wa wb => by
    have hx : r32 x := (okS_cons.mp (okS_cons.mp hS).2).1
    have hy : r32 y := (okS_cons.mp hS).1
    have hE := q_le hx hy
    exact lv_icmp_le C.1 C.2.1 hd ht (fun h => wb (fun q => by have := hE.mp h; omega)) (fun h => wa (Int.not_le.mp (fun q => h (hE.mpr q)))))
theorem v_ifnull {x : Int} {off : Int} {tgt : Nat} (hd : decode mi.2.1 pc = .ok (.ifnull off, 3)) (ht : (pc : Int) + off = (tgt : Int)) (ka : x = -1 → V mi d b0 b1 bc bs tgt ls st M dec A) (kb : ¬ x = -1 → V mi d b0 b1 bc bs (pc + 3) ls st M dec B) : V mi d b0 b1 bc bs pc ls (pA x :: st) M dec (if x = -1 then A else B) :=
  v_br ka kb (fun h => (okS_cons.mp h).2) (fun hS G b p l e s m args below meth c Q C H locs cells slots lsA wa wb => by
    simp only [List.map_cons, eV, eR]
    split
    · rename_i h; exact lv_ifnullN C.1 C.2.1 hd ht (wa h)
    · rename_i h
      split
      · exact lv_ifnull C.1 C.2.1 hd (wb h)
      · exact lv_ifnull C.1 C.2.1 hd (wb h))
theorem v_ifnonnull {x : Int} {off : Int} {tgt : Nat} (hd : decode mi.2.1 pc = .ok (.ifnonnull off, 3)) (ht : (pc : Int) + off = (tgt : Int)) (ka : x = -1 → V mi d b0 b1 bc bs (pc + 3) ls st M dec A) (kb : ¬ x = -1 → V mi d b0 b1 bc bs tgt ls st M dec B) : V mi d b0 b1 bc bs pc ls (pA x :: st) M dec (if x = -1 then A else B) :=
  v_br ka kb (fun h => (okS_cons.mp h).2) (fun hS G b p l e s m args below meth c Q C H locs cells slots lsA wa wb => by
    simp only [List.map_cons, eV, eR]
    split
    · rename_i h; exact lv_ifnonnullN C.1 C.2.1 hd (wa h)
    · rename_i h
      split
      · exact lv_ifnonnull C.1 C.2.1 hd ht (wb h)
      · exact lv_ifnonnull C.1 C.2.1 hd ht (wb h))
theorem v_goto {off : Int} {tgt : Nat} (hd : decode mi.2.1 pc = .ok (.goto off, 3)) (ht : (pc : Int) + off = (tgt : Int)) (k : V mi d b0 b1 bc bs tgt ls st M dec X) : V mi d b0 b1 bc bs pc ls st M dec X :=
  v_op k (fun _ h => h) (fun _ _ G b p l e s m args below meth c Q C H locs cells slots lsA _ kk => lv_goto C.1 C.2.1 hd ht kk)
/-- a case of the pure side alone -/
theorem v_ite {P : Prop} [Decidable P] (ka : P → V mi d b0 b1 bc bs pc ls st M dec A) (kb : ¬ P → V mi d b0 b1 bc bs pc ls st M dec B) : V mi d b0 b1 bc bs pc ls st M dec (if P then A else B) := by
  by_cases h : P
  · rw [if_pos h]; exact ka h
  · rw [if_neg h]; exact kb h
theorem v_tabIn {dflt lo hi : Int} {offs : Array Int} {len : Nat} {x n off : Int} {tgt : Nat} (hd : decode mi.2.1 pc = .ok (.tableswitch dflt lo hi offs, len)) (hx : x = n) (h1 : lo ≤ n ∧ n ≤ hi ∧ offs[(n - lo).toNat]? = some off ∧ (pc : Int) + off = (tgt : Int)) (k : V mi d b0 b1 bc bs tgt ls st M dec X) : V mi d b0 b1 bc bs pc ls (pI x :: st) M dec X := by
  subst hx
  obtain ⟨h1, h2, h3, h4⟩ := h1
  exact v_op k (fun _ h => (okS_cons.mp h).2) (fun _ hS G b p l e s m args below meth c Q C H locs cells slots lsA _ kk => by
    have hx := q_in (okS_cons.mp hS).1
    exact lv_tableIn C.1 C.2.1 hd (by rw [hx]; omega) (by rw [hx]; omega) (by rw [hx]; exact h3) h4 kk)
theorem v_tabOut {dflt lo hi : Int} {offs : Array Int} {len : Nat} {x : Int} {tgt : Nat} (hd : decode mi.2.1 pc = .ok (.tableswitch dflt lo hi offs, len)) (hx : x < lo ∨ hi < x) (ht : (pc : Int) + dflt = (tgt : Int)) (k : V mi d b0 b1 bc bs tgt ls st M dec X) : V mi d b0 b1 bc bs pc ls (pI x :: st) M dec X :=
  v_op k (fun _ h => (okS_cons.mp h).2) (fun _ hS G b p l e s m args below meth c Q C H locs cells slots lsA _ kk => by
    have h := q_in (okS_cons.mp hS).1
    exact lv_tableOut C.1 C.2.1 hd (by rw [h]; exact hx) ht kk)
/-! the ends -/
theorem v_ireturn {x : Int} {r : ρ} (hd : decode mi.2.1 pc = .ok (.ireturn, 1)) (hr : mi.2.2.2 = some .int) (h : dec r = (some (pI x), M)) : V mi d b0 b1 bc bs pc ls [pI x] M dec (some r) := by
  intro r' e hM hL hS
  cases e
  rw [h]
  refine ⟨⟨hM, fun v hv => by cases hv; exact (okS_cons.mp hS).1⟩, fun G b p l e s m args below meth c C H locs cells slots lsA D => ?_⟩
  obtain ⟨D1, D2, D3, D4, D5, D6⟩ := D
  refine W.widen (k := b0) (n := b1) (by omega) (by omega) ?_
  exact W.iret (v := Int32.ofInt x) C.1 C.2.1 (C.2.2.1.trans hr) (fun t ht hW => ⟨rfl, by rw [ht]; exact D1, by rw [ht]; exact D2, by rw [ht]; exact D3.1, fun q h1 h2 => by rw [ht]; exact D3.2.1 q h1 h2⟩) D3.2.2 hd (hlocks := C.2.2.2.2.2.2.1)
theorem v_zreturn {x : Int} {ty : FieldType} {r : ρ} (hd : decode mi.2.1 pc = .ok (.ireturn, 1)) (hr : mi.2.2.2 = some ty) (hn : narrow ty (.int (Int32.ofInt x)) = .int (Int32.ofInt x)) (h : dec r = (some (pI x), M)) : V mi d b0 b1 bc bs pc ls [pI x] M dec (some r) := by
  intro r' e hM hL hS
  cases e
  rw [h]
  refine ⟨⟨hM, fun v hv => by cases hv; exact (okS_cons.mp hS).1⟩, fun G b p l e s m args below meth c C H locs cells slots lsA D => ?_⟩
  obtain ⟨D1, D2, D3, D4, D5, D6⟩ := D
  refine W.widen (k := b0) (n := b1) (by omega) (by omega) ?_
  exact W.zret (v := Int32.ofInt x) C.1 C.2.1 (C.2.2.1.trans hr) hn (fun t ht hW => ⟨rfl, by rw [ht]; exact D1, by rw [ht]; exact D2, by rw [ht]; exact D3.1, fun q h1 h2 => by rw [ht]; exact D3.2.1 q h1 h2⟩) D3.2.2 hd (hlocks := C.2.2.2.2.2.2.1)
theorem nar_z {x : Int} (h : x = 0 ∨ x = 1) : narrow .boolean (.int (Int32.ofInt x)) = .int (Int32.ofInt x) := by
  rcases h with rfl | rfl <;> decide
theorem v_breturn {x : Int} {r : ρ} (hd : decode mi.2.1 pc = .ok (.ireturn, 1)) (hr : mi.2.2.2 = some .boolean) (hx : x = 0 ∨ x = 1) (h : dec r = (some (pI x), M)) : V mi d b0 b1 bc bs pc ls [pI x] M dec (some r) := v_zreturn hd hr (nar_z hx) h
theorem v_return {r : ρ} (hd : decode mi.2.1 pc = .ok (.return_, 1)) (hr : mi.2.2.2 = none) (h : dec r = (none, M)) : V mi d b0 b1 bc bs pc ls [] M dec (some r) := by
  intro r' e hM hL hS
  cases e
  rw [h]
  refine ⟨⟨hM, fun v hv => by cases hv⟩, fun G b p l e s m args below meth c C H locs cells slots lsA D => ?_⟩
  obtain ⟨D1, D2, D3, D4, D5, D6⟩ := D
  refine W.widen (k := b0) (n := b1) (by omega) (by omega) ?_
  exact W.vret C.1 C.2.1 (C.2.2.1.trans hr) (fun t ht hW => ⟨rfl, by rw [ht]; exact D1, by rw [ht]; exact D2, by rw [ht]; exact D3.1, fun q h1 h2 => by rw [ht]; exact D3.2.1 q h1 h2⟩) D3.2.2 hd (hlocks := C.2.2.2.2.2.2.1)
theorem v_areturn {x : Int} {rt : FieldType} {r : ρ} (hd : decode mi.2.1 pc = .ok (.areturn, 1)) (hr : mi.2.2.2 = some rt) (hrt : (∃ n, rt = .object n) ∨ ∃ t, rt = .array t) (h : dec r = (some (pA x), M)) : V mi d b0 b1 bc bs pc ls [pA x] M dec (some r) := by
  intro r' e hM hL hS
  cases e
  rw [h]
  refine ⟨⟨hM, fun v hv => by cases hv; trivial⟩, fun G b p l e s m args below meth c C H locs cells slots lsA D => ?_⟩
  obtain ⟨D1, D2, D3, D4, D5, D6⟩ := D
  refine W.widen (k := b0) (n := b1) (by omega) (by omega) ?_
  exact W.aret (v := eR b G.2.2.2.1 x) C.1 C.2.1 (C.2.2.1.trans hr) hrt (by unfold eR; split; exact Or.inl rfl; split; exact Or.inr ⟨_, rfl⟩; exact Or.inr ⟨_, rfl⟩) (fun t ht hW => ⟨rfl, by rw [ht]; exact D1, by rw [ht]; exact D2, by rw [ht]; exact D3.1, fun q h1 h2 => by rw [ht]; exact D3.2.1 q h1 h2⟩) D3.2.2 hd (hlocks := C.2.2.2.2.2.2.1)
end RulesA
end
section
theorem inGT {ws : List Cond} (h : ws.all (fun w => decide (w ∈ tables_1) && goodWord w) = true) : ∀ w ∈ ws, w ∈ GT := fun w hw => by
  have h1 := List.all_eq_true.mp h w hw
  simp only [Bool.and_eq_true, decide_eq_true_eq] at h1
  exact List.mem_filter.mpr ⟨List.mem_append_right _ h1.1, h1.2⟩
theorem eR_nn {b : Nat} {cs : Nat → Nat} {a : Int} (h : 0 ≤ a) : eR b cs a = .ref (b + a.toNat) := by unfold eR; rw [if_neg (by omega), if_pos h]
theorem toNat_c {a : Int} (h : 0 ≤ a) : ((a.toNat : Nat) : Int) = a := Int.toNat_of_nonneg h
/-- a cell of the memory, at its place in the world -/
theorem wsM_get {cA : Nat → ClassId} {b : Nat} {M : Mem} (hM : MemOK M) {a : Int} (h : M.2.1 a ≠ -1) : 0 ≤ a ∧ a.toNat < M.2.2.2 ∧ (wsM cA b M)[a.toNat]? = some (b + a.toNat, cE cA b M a.toNat) := by
  obtain ⟨h0, h1⟩ := hM.1 a h
  have h2 : a.toNat < M.2.2.2 := by omega
  exact ⟨h0, h2, wsM_at h2⟩
theorem MemOK.st {M : Mem} (h : MemOK M) {a i v : Int} (hv : ∀ n : Nat, i = n → M.2.1 a ≠ -1 → okT (tOf (M.2.1 a) n) v) : MemOK (mst M a i v) := by
  obtain ⟨h1, h2, h3, h4⟩ := h
  refine ⟨h1, h2, h3, fun x n hx => ?_⟩
  show okT (tOf (M.2.1 x) n) (if x = a ∧ (n : Int) = i then v else M.1 x n)
  split
  · rename_i hq
    obtain ⟨rfl, hq⟩ := hq
    exact hv n hq.symm hx
  · exact h4 x n hx
def tOKb : FieldType → Bool
  | .int => true
  | .long => true
  | .boolean => true
  | .object _ => true
  | .array _ => true
  | _ => false
theorem eT_fit {b : Nat} {t : FieldType} {x : Int} (ht : tOKb t = true) (h : okT t x) : narrow t (eT b t x) = eT b t x ∧ fits t (eT b t x) = true := by
  cases t with
  | int => exact ⟨rfl, rfl⟩
  | long => exact ⟨rfl, rfl⟩
  | boolean => rcases h with rfl | rfl <;> (simp only [eT]; exact ⟨by decide, by decide⟩)
  | object n => simp only [eT]; cases eO b x <;> exact ⟨rfl, rfl⟩
  | array n => simp only [eT]; cases eO b x <;> exact ⟨rfl, rfl⟩
  | _ => cases ht
theorem map_set {α : Type} (f : Nat → α) (n k : Nat) (v : α) : ((List.range n).map f).set k v = (List.range n).map (fun j => if j = k then v else f j) := by
  apply List.ext_getElem?
  intro j
  rw [List.getElem?_set, List.getElem?_map, List.getElem?_map]
  by_cases hj : j < n
  · rw [List.getElem?_range hj]
    by_cases hk : k = j
    · subst hk; simp [hj]
    · rw [if_neg hk]; simp [Ne.symm hk]
  · have : (List.range n)[j]? = none := by rw [List.getElem?_eq_none_iff]; simpa using Nat.not_lt.mp hj
    rw [this]
    by_cases hk : k = j
    · subst hk; simp [hj]
    · rw [if_neg hk]; rfl
theorem cls_n {ci : Nat} {C : String} {T : u_T} {N : Nat} (hc : vwCl[ci]? = some (C, T, N)) : ci ≤ 10 ∧ nfl ci = N := by
  match ci, hc with
  | 0, hc => cases hc; exact ⟨by decide, rfl⟩
  | 1, hc => cases hc; exact ⟨by decide, rfl⟩
  | 2, hc => cases hc; exact ⟨by decide, rfl⟩
  | 3, hc => cases hc; exact ⟨by decide, rfl⟩
  | 4, hc => cases hc; exact ⟨by decide, rfl⟩
  | 5, hc => cases hc; exact ⟨by decide, rfl⟩
  | 6, hc => cases hc; exact ⟨by decide, rfl⟩
  | 7, hc => cases hc; exact ⟨by decide, rfl⟩
  | 8, hc => cases hc; exact ⟨by decide, rfl⟩
  | 9, hc => cases hc; exact ⟨by decide, rfl⟩
  | 10, hc => cases hc; exact ⟨by decide, rfl⟩
  | n + 11, hc => simp [vwCl] at hc
theorem cls_ty {ci : Nat} {C : String} {T : u_T} {N : Nat} (hc : vwCl[ci]? = some (C, T, N)) : (∀ k, k < N → parseFieldDescriptor (T k).2.2.1 = some (fty ci k)) ∧ (∀ a, a < N → ∀ b, b < N → a ≠ b → (T a).2.1 ≠ (T b).2.1) := by
  match ci, hc with
  | 0, hc => cases hc; exact ⟨tyX0_ok, nmX0⟩
  | 1, hc => cases hc; exact ⟨tyX1_ok, nmX1⟩
  | 2, hc => cases hc; exact ⟨tyX2_ok, nmX2⟩
  | 3, hc => cases hc; exact ⟨tyX3_ok, nmX3⟩
  | 4, hc => cases hc; exact ⟨tyX4_ok, nmX4⟩
  | 5, hc => cases hc; exact ⟨tyX5_ok, nmX5⟩
  | 6, hc => cases hc; exact ⟨tyX6_ok, nmX6⟩
  | 7, hc => cases hc; exact ⟨tyX7_ok, nmX7⟩
  | 8, hc => cases hc; exact ⟨tyX9_ok, nmX9⟩
  | 9, hc => cases hc; exact ⟨tyX10_ok, nmX10⟩
  | 10, hc => cases hc; exact ⟨tyX11_ok, nmX11⟩
  | n + 11, hc => simp [vwCl] at hc
section RulesM
variable {ρ : Type} {mi : MI} {d b0 b1 bc bs pc : Nat} {ls ls' : List (Option PV)} {st : List PV} {M : Mem} {dec : ρ → Option PV × Mem} {X A B : Option ρ}
theorem tOf_obj {ci i : Nat} (h : ci ≤ 10) : tOf (ci : Int) i = fty ci i := by
  unfold tOf
  rw [if_neg (by omega), if_neg (by omega), if_neg (by omega), if_neg (by omega)]
  rfl
theorem fs_at {b N k : Nat} {g : Nat → Value} (h : k < N) : ((List.range N).map g)[k]? = some (g k) := by
  rw [List.getElem?_map, List.getElem?_range h]; rfl
theorem v_get {C : String} {T : u_T} {N index : Nat} {a : Int} {v : PV} (ci k : Nat) (hc : vwCl[ci]? = some (C, T, N)) (hin : ∀ w ∈ u_ws C T N, w ∈ GT) (hk : k < N) (hlk : Cond.fieldLink mi.1.cls index (T k).1 (T k).2.1 (T k).2.2.1 ∈ GT) (hd : decode mi.2.1 pc = .ok (.getfield index, 3))
    (ha : M.2.1 a = (ci : Int)) (hv : tagT (fty ci k) (M.1 a k) = v) (kk : V mi d b0 b1 bc bs (pc + 3) ls (v :: st) M dec X) : V mi d b0 b1 bc bs pc ls (pA a :: st) M dec X := by
  subst hv
  obtain ⟨c10, hN⟩ := cls_n hc
  have ok : MemOK M → okT (fty ci k) (M.1 a k) := fun hM => by
    have := hM.2.2.2 a k (by rw [ha]; omega)
    rw [ha, tOf_obj c10] at this
    exact this
  refine v_step kk (fun hM hL hS => ⟨hM, hL, okS_cons.mpr ⟨okV_tag (ok hM), (okS_cons.mp hS).2⟩⟩) (fun hM hL hS G b p l e s m args below meth c Q Cc H locs cells slots lsA D w => ?_)
  obtain ⟨a0, a1, a2⟩ := wsM_get (cA := G.2.2.1) (b := b) hM (a := a) (by rw [ha]; omega)
  rw [cE_obj (k := (ci : Int)) (by rw [toNat_c a0]; exact ha) (by omega)] at a2
  have w2 := w H locs cells slots lsA D
  simp only [List.map_cons] at w2 ⊢
  rw [← eV_tag (ok hM)] at w2
  simp only [eV]
  rw [eR_nn a0]
  exact va_get (ref := (T k).1) Cc.1 Cc.2.1 Cc.2.2.2.2.2.1 hin Cc.2.2.2.2.1 Cc.2.2.2.2.2.2.2.2.1.1 D.2.1 a.toNat a2 (by rw [Int.toNat_natCast]; exact hc) k hk (Cc.2.2.2.2.2.1 _ hlk) (fun _ h => h) (v := eT b (fty ci k) (M.1 a k)) (by
    rw [Int.toNat_natCast, hN, fs_at (b := 0) hk, toNat_c a0]) hd w2
/-- the world behind a store into one cell -/
theorem Dy.set {G : GG} {b : Nat} {s : State} {H H1 : Heap} {locs : List Loc} {cells slots j : Nat} {lsA : Array Slot} {a i v : Int} (D : Dy mi G b b0 b1 bc bs s M ls H locs cells slots lsA) (a0 : 0 ≤ a) (a1 : a.toNat < M.2.2.2)
    (he : va_at (G.1, G.2.1) vwCl (b + a.toNat, cE G.2.2.1 b (mst M a i v) a.toNat) H1) (hz : H1.size = H.size) (oq : ∀ q : Nat, q ≠ b + a.toNat → H1[q]? = H[q]?) : Dy mi G b b0 b1 bc bs s (mst M a i v) ls H1 (locs ++ [⟨b + a.toNat, j⟩]) cells slots lsA := by
  obtain ⟨D1, D2, D3, D4, D5⟩ := D
  have hs := wsM_set (cA := G.2.2.1) (b := b) (i := i) (v := v) a1
  rw [toNat_c a0] at hs
  refine ⟨hz.trans D1, ?_, D3.put hz oq (Nat.le_add_right _ _), D4, D5⟩
  rw [← hs]
  exact D2.set wsM_D (wsM_at a1) he oq
theorem cE_st_obj {cA : Nat → ClassId} {b ci k : Nat} {a x : Int} (c10 : ci ≤ 10) (a0 : 0 ≤ a) (ha : M.2.1 a = (ci : Int)) : cE cA b (mst M a k x) a.toNat = .inr (ci, ((List.range (nfl ci)).map fun j => eT b (fty ci j) (M.1 a j)).set k (eT b (fty ci k) x)) := by
  rw [cE_obj (k := (ci : Int)) (by rw [toNat_c a0]; exact ha) (by omega), Int.toNat_natCast, map_set, toNat_c a0]
  congr 2
  apply List.map_congr_left
  intro j _
  show eT b (fty ci j) (if a = a ∧ (j : Int) = (k : Int) then x else M.1 a j) = _
  by_cases hj : j = k
  · subst hj; simp
  · rw [if_neg (by rintro ⟨-, q⟩; omega), if_neg hj]
theorem v_put {C : String} {T : u_T} {N index : Nat} {a x : Int} {v : PV} (ci k : Nat) (hc : vwCl[ci]? = some (C, T, N)) (hin : ∀ w ∈ u_ws C T N, w ∈ GT) (hk : k < N) (hlk : Cond.fieldLink mi.1.cls index (T k).1 (T k).2.1 (T k).2.2.1 ∈ GT) (hf : (T k).2.2.2 = false ∨ ((T k).2.2.2 = true ∧ mi.1.name = "<init>" ∧ (T k).1 = mi.1.cls)) (ht : tOKb (fty ci k) = true) (hd : decode mi.2.1 pc = .ok (.putfield index, 3))
    (ha : M.2.1 a = (ci : Int)) (hv : tagT (fty ci k) x = v) (hx : okV v → okT (fty ci k) x) (kk : V mi d b0 b1 bc bs (pc + 3) ls st (mst M a k x) dec X) : V mi d b0 b1 bc bs pc ls (v :: pA a :: st) M dec X := by
  subst hv
  obtain ⟨c10, hN⟩ := cls_n hc
  obtain ⟨hty, hnm⟩ := cls_ty hc
  refine v_step kk (fun hM hL hS => ⟨hM.st (fun n hn _ => ?_), hL, (okS_cons.mp (okS_cons.mp hS).2).2⟩) (fun hM hL hS G b p l e s m args below meth c Q Cc H locs cells slots lsA D w => ?_)
  · have : n = k := by omega
    subst this
    rw [ha, tOf_obj c10]
    exact hx (okS_cons.mp hS).1
  obtain ⟨a0, a1, a2⟩ := wsM_get (cA := G.2.2.1) (b := b) hM (a := a) (by rw [ha]; omega)
  have ok := hx (okS_cons.mp hS).1
  obtain ⟨hn, hfit⟩ := eT_fit (b := b) ht ok
  rw [cE_obj (k := (ci : Int)) (by rw [toNat_c a0]; exact ha) (by omega)] at a2
  simp only [List.map_cons]
  rw [← eV_tag ok]
  simp only [eV]
  rw [eR_nn a0]
  have hts := Cc.2.2.2.2.2.1
  have hK := Cc.2.2.2.2.2.2.2.2.1.1
  have hap := va_apart (own := mi.1.cls) hts hin (fty ci) hty hnm hK hc
  obtain ⟨r, h1, cell, q1, q2, q3, q4⟩ := D.2.1 a.toNat _ a2
  rw [Int.toNat_natCast] at h1 q2 q4
  have hr : r = (C, T, N) := Option.some.inj (h1.symm.trans hc)
  subst hr
  obtain ⟨hS', hfc, kC, hkC, hkind⟩ := hK.1 ci _ hc
  obtain ⟨cf, kf, fi, f, hi, hsl⟩ := hS' k hk
  have hst := (u_facts hfc hkC (u_lays hts hin hk) hi).1
  have hlen : k < ((List.range (nfl ci)).map fun j => eT b (fty ci j) (M.1 ((a.toNat : Nat) : Int) j)).length := by rw [List.length_map, List.length_range, hN]; exact hk
  have fin : ∀ H' : Heap, H'[b + a.toNat]? = some (cell.setSlot f.slot (eT b (fty ci k) x)) → H'.size = H.size → (∀ q, q ≠ b + a.toNat → H'[q]? = H[q]?) → W p l e (rmD d b0 b1) s m args below meth c H' (locs ++ [⟨b + a.toNat, f.slot⟩]) cells slots Q (F0 m (pc + 3) lsA (st.map (eV b G.2.2.2.1))) := fun H' e1 e2 e3 => by
    refine w H' _ cells slots lsA (D.set a0 a1 ?_ e2 e3)
    rw [hsl] at e1
    rw [cE_st_obj c10 a0 ha]
    rw [toNat_c a0] at q4 hlen
    exact ⟨_, hc, t_OB.to (V := updV (vp_V _) k (eT b (fty ci k) x)) ⟨_, e1, q2, q3, t_set q4 hap hk _⟩ (fun j _ => vp_updV_set hlen _ j)⟩
  have hlay := hts _ (hin _ (u_in_lay hk))
  unfold u_lay at hlay
  rcases hf with hf | ⟨hf, hi1, hi2⟩
  · rw [if_neg (by rw [hf]; decide)] at hlay
    have h6 := u_store hfc hkC hkind hlay hi (hty k hk) hn hfit
    exact W.putK Cc.1 Cc.2.1 (f := f) ⟨Cc.2.2.2.2.1, hts _ hlk, ⟨_, _, _, hi⟩, hst⟩ (by rw [q2]; exact h6) q1 q3 (by rw [hsl]; exact k2_hasslot (q4 k hk)) rfl rfl hd fin
  · rw [if_pos hf] at hlay
    have hcf : m.cls = cf := by
      obtain ⟨_, _, c', _, _, _, -, -, hf', -, -, -, hown2, -⟩ := Cond.laysFinal_spec hlay
      have e1 : c' = cf := by have := hi.symm.trans hf'; simp at this; exact this.1.symm
      rw [hi2] at hown2
      rw [← e1]; exact Option.some.inj (Cc.2.2.2.2.1.symm.trans hown2)
    have h6 := u_fits hfc hkC hkind (Or.inr hlay) hi (hty k hk) hn hfit
    exact W.putFinK Cc.1 Cc.2.1 Cc.2.2.2.2.1 (hts _ hlk) hi hst hcf (Cc.2.2.2.2.2.2.2.1.trans hi1) (by rw [q2]; exact h6) q1 q3 (by rw [hsl]; exact k2_hasslot (q4 k hk)) rfl rfl hd fin
end RulesM
end
section
def ini (k : Int) (y : Int) : Int := match tOf k y.toNat with
  | .object _ => -1
  | .array _ => -1
  | _ => 0
/-- a new cell -/
def mnew (M : Mem) (k n : Int) : Mem := (fun x y => if x = (M.2.2.2 : Int) then ini k y else M.1 x y, up1 M.2.1 M.2.2.2 k, up1 M.2.2.1 M.2.2.2 n, M.2.2.2 + 1)
theorem ini_ok (k : Int) (i : Nat) : okT (tOf k i) (ini k i) := by
  unfold ini
  rw [Int.toNat_natCast]
  cases tOf k i <;> simp [okT, r32, r64]
theorem MemOK.new {M : Mem} (h : MemOK M) {k n : Int} (hk : 0 ≤ k ∧ k ≤ 18) (hn : 0 ≤ n ∧ n < 2147483648) : MemOK (mnew M k n) := by
  obtain ⟨h1, h2, h3, h4⟩ := h
  refine ⟨fun a ha => ?_, fun a => ?_, fun a => ?_, fun a i ha => ?_⟩
  · change (if a = (M.2.2.2 : Int) then k else M.2.1 a) ≠ -1 at ha
    show 0 ≤ a ∧ a < ((M.2.2.2 + 1 : Nat) : Int)
    split at ha
    · omega
    · have := h1 a ha; omega
  · show -1 ≤ (if a = (M.2.2.2 : Int) then k else M.2.1 a) ∧ (if a = (M.2.2.2 : Int) then k else M.2.1 a) ≤ 18
    split
    · omega
    · exact h2 a
  · show 0 ≤ (if a = (M.2.2.2 : Int) then n else M.2.2.1 a) ∧ (if a = (M.2.2.2 : Int) then n else M.2.2.1 a) < 2147483648
    split
    · exact hn
    · exact h3 a
  · change (if a = (M.2.2.2 : Int) then k else M.2.1 a) ≠ -1 at ha
    show okT (tOf (if a = (M.2.2.2 : Int) then k else M.2.1 a) i) (if a = (M.2.2.2 : Int) then ini k i else M.1 a i)
    split
    · exact ini_ok k i
    · rename_i hq; rw [if_neg hq] at ha; exact h4 a i ha
theorem wsM_new {cA : Nat → ClassId} {b : Nat} {M : Mem} {k n : Int} : wsM cA b (mnew M k n) = wsM cA b M ++ [(b + M.2.2.2, cE cA b (mnew M k n) M.2.2.2)] := by
  unfold wsM
  show (List.range (M.2.2.2 + 1)).map _ = _
  rw [List.range_succ, List.map_append]
  congr 1
  apply List.map_congr_left
  intro j hj
  have hj := List.mem_range.mp hj
  have e1 : ∀ y, (mnew M k n).1 (j : Int) y = M.1 j y := fun y => by
    show (if (j : Int) = (M.2.2.2 : Int) then ini k y else M.1 j y) = _
    rw [if_neg (by omega)]
  have e2 : (mnew M k n).2.1 (j : Int) = M.2.1 j := by
    show (if (j : Int) = (M.2.2.2 : Int) then k else M.2.1 j) = _
    rw [if_neg (by omega)]
  have e3 : (mnew M k n).2.2.1 (j : Int) = M.2.2.1 j := by
    show (if (j : Int) = (M.2.2.2 : Int) then n else M.2.2.1 j) = _
    rw [if_neg (by omega)]
  congr 1
  unfold cE
  simp only [e1, e2, e3]
section RulesR
variable {ρ : Type} {mi : MI} {d b0 b1 bc bs pc : Nat} {ls ls' : List (Option PV)} {st : List PV} {M : Mem} {dec : ρ → Option PV × Mem} {X A B : Option ρ}
theorem Dy.new {G : GG} {b : Nat} {s : State} {H H1 : Heap} {locs : List Loc} {cells slots nn : Nat} {lsA : Array Slot} {k n : Int} (D : Dy mi G b b0 b1 (bc + 1) (bs + nn) s M ls H locs cells slots lsA)
    (he : va_at (G.1, G.2.1) vwCl (b + M.2.2.2, cE G.2.2.1 b (mnew M k n) M.2.2.2) H1) (hz : H1.size = H.size + 1) (oq : ∀ q : Nat, q < H.size → H1[q]? = H[q]?) : Dy mi G b b0 b1 bc bs s (mnew M k n) ls H1 locs (cells + 1) (slots + nn) lsA := by
  obtain ⟨D1, D2, D3, D4, D5, D6⟩ := D
  refine ⟨?_, ?_, ⟨Nat.le_trans D3.1 (by omega), fun q h1 h2 => (oq q (Nat.lt_of_lt_of_le h1 D3.1)).trans (D3.2.1 q h1 h2), D3.2.2⟩, D4, by omega, by omega⟩
  · rw [hz, D1]; show b + M.2.2.2 + 1 = b + (M.2.2.2 + 1); omega
  · rw [wsM_new]
    refine va_P.app (D2.kept fun k' q hq => oq q.1 ((D2 k' q hq).lt)) (fun k' q hq => ?_)
    have hk : k' < 1 := (List.getElem?_eq_some_iff.mp hq).1
    rw [show k' = 0 by omega] at hq
    cases hq
    exact he
theorem mnew_k {k n : Int} : (mnew M k n).2.1 ((M.2.2.2 : Nat) : Int) = k := by
  show (if ((M.2.2.2 : Nat) : Int) = (M.2.2.2 : Int) then k else _) = k
  rw [if_pos rfl]
theorem mnew_l {k n : Int} : (mnew M k n).2.2.1 ((M.2.2.2 : Nat) : Int) = n := by
  show (if ((M.2.2.2 : Nat) : Int) = (M.2.2.2 : Int) then n else _) = n
  rw [if_pos rfl]
theorem mnew_c {k n : Int} (y : Int) : (mnew M k n).1 ((M.2.2.2 : Nat) : Int) y = ini k y := by
  show (if ((M.2.2.2 : Nat) : Int) = (M.2.2.2 : Int) then ini k y else _) = _
  rw [if_pos rfl]
theorem eR_new {b : Nat} {cs : Nat → Nat} {z : Nat} : eR b cs (z : Int) = .ref (b + z) := by
  rw [eR_nn (by omega), Int.toNat_natCast]
theorem ini_def {b ci j : Nat} (h : ci ≤ 10) (ht : tOKb (fty ci j) = true) : eT b (fty ci j) (ini (ci : Int) j) = defaultValue (fty ci j) := by
  unfold ini
  rw [Int.toNat_natCast, tOf_obj h]
  cases hf : fty ci j <;> rw [hf] at ht <;> first | (cases ht; done) | rfl
theorem v_new {C : String} {T : u_T} {N index : Nat} (ci : Nat) (hc : vwCl[ci]? = some (C, T, N)) (hin : ∀ w ∈ u_ws C T N, w ∈ GT) (hlk : Cond.classLink mi.1.cls index C ∈ GT) (hins : Cond.instantiable C N ∈ GT) (hini : Cond.initialized C ∈ GT) (hft : ∀ j, j < N → tOKb (fty ci j) = true) (hd : decode mi.2.1 pc = .ok (.new index, 3))
    (kk : V mi d b0 b1 bc bs (pc + 3) ls (pA (M.2.2.2 : Int) :: st) (mnew M (ci : Int) (N : Int)) dec X) : V mi d b0 b1 (bc + 1) (bs + N) pc ls st M dec X := by
  obtain ⟨c10, hN⟩ := cls_n hc
  obtain ⟨hty, hnm⟩ := cls_ty hc
  have hN2 : N < 2147483648 := by
    rw [← hN]; unfold nfl; split <;> decide
  refine v_step kk (fun hM hL hS => ⟨hM.new (by omega) (by omega), hL, okS_cons.mpr ⟨trivial, hS⟩⟩) (fun hM hL hS G b p l e s m args below meth c Q Cc H locs cells slots lsA D w => ?_)
  have hK := Cc.2.2.2.2.2.2.2.2.1.1
  have hts := Cc.2.2.2.2.2.1
  have hKn := hK.1 ci _ hc
  obtain ⟨D1, D2, D3, D4, D5, D6⟩ := id D
  refine W.newcK Cc.1 Cc.2.1 Cc.2.2.2.2.1 (hts _ hlk) (hts _ hins) (hts _ hini) rfl hd (show cells + 1 ≤ b0 by omega) (show slots + N ≤ b1 by omega) hKn.2.1 D1 fun H1 kC hkC e1 z1 o1 => ?_
  have w2 := w H1 locs (cells + 1) (slots + N) lsA (D.new (k := (ci : Int)) (n := (N : Int)) (by
    rw [cE_obj (k := (ci : Int)) mnew_k (by omega), Int.toNat_natCast]
    refine ⟨_, hc, (u_born (fty ci) hts hin hKn hkC e1 hty).to (fun j hj => ?_)⟩
    show _ = vp_V _ j
    unfold vp_V
    rw [List.getD_eq_getElem?_getD, hN, fs_at (b := 0) hj, mnew_c]
    exact (ini_def c10 (hft j hj)).symm) (by rw [z1, D1]) (fun q hq => o1 q (by omega)))
  simp only [List.map_cons, eV] at w2
  rw [eR_new] at w2
  exact w2
theorem tys_at {cA : Nat → ClassId} : (tysG cA)[0]? = some (cA 11, .byte) ∧ (tysG cA)[1]? = some (cA 12, .int) ∧ (tysG cA)[2]? = some (cA 13, .boolean) := ⟨rfl, rfl, rfl⟩
theorem r32_len (hM : MemOK M) {a i : Int} (h0 : 0 ≤ i) (h : i < M.2.2.1 a) : r32 i := by
  have := hM.2.2.1 a
  unfold r32; omega
theorem v_iaload {a i : Int} (h : M.2.1 a = 12 ∧ 0 ≤ i ∧ i < M.2.2.1 a) (hd : decode mi.2.1 pc = .ok (.iaload, 1)) (kk : V mi d b0 b1 bc bs (pc + 1) ls (pI (M.1 a i) :: st) M dec X) : V mi d b0 b1 bc bs pc ls (pI i :: pA a :: st) M dec X := by
  obtain ⟨hk, h0, hl⟩ := h
  refine v_step kk (fun hM hL hS => ⟨hM, hL, okS_cons.mpr ⟨?_, (okS_cons.mp (okS_cons.mp hS).2).2⟩⟩) (fun hM hL hS G b p l e s m args below meth c Q Cc H locs cells slots lsA D w => ?_)
  · have := hM.2.2.2 a i.toNat (by rw [hk]; omega)
    rw [hk, toNat_c h0] at this
    exact this
  obtain ⟨a0, a1, a2⟩ := wsM_get (cA := G.2.2.1) (b := b) hM (a := a) (by rw [hk]; omega)
  rw [cE_arr (k := 12) (by rw [toNat_c a0]; exact hk) (Or.inr (Or.inl rfl)), toNat_c a0] at a2
  have w2 := w H locs cells slots lsA D
  simp only [List.map_cons, eV] at w2 ⊢
  rw [eR_nn a0]
  have hi := (okS_cons.mp hS).1
  refine va_iald Cc.1 Cc.2.1 Cc.2.2.2.2.2.2.2.2.1.1 D.2.1 a.toNat 1 a2 rfl (q_vp hi h0 (by omega)) hd ?_
  rw [q_clamp hi h0, toNat_c h0]
  exact w2
theorem v_baload {a i : Int} (h : (M.2.1 a = 11 ∨ M.2.1 a = 13) ∧ 0 ≤ i ∧ i < M.2.2.1 a) (hd : decode mi.2.1 pc = .ok (.baload, 1)) (kk : V mi d b0 b1 bc bs (pc + 1) ls (pI (M.1 a i) :: st) M dec X) : V mi d b0 b1 bc bs pc ls (pI i :: pA a :: st) M dec X := by
  obtain ⟨hk, h0, hl⟩ := h
  refine v_step kk (fun hM hL hS => ⟨hM, hL, okS_cons.mpr ⟨?_, (okS_cons.mp (okS_cons.mp hS).2).2⟩⟩) (fun hM hL hS G b p l e s m args below meth c Q Cc H locs cells slots lsA D w => ?_)
  · have := hM.2.2.2 a i.toNat (by omega)
    rw [toNat_c h0] at this
    show r32 _
    unfold r32
    rcases hk with hk | hk <;> rw [hk] at this
    · obtain ⟨q1, q2⟩ := this; omega
    · rcases this with q | q <;> omega
  obtain ⟨a0, a1, a2⟩ := wsM_get (cA := G.2.2.1) (b := b) hM (a := a) (by omega)
  have w2 := w H locs cells slots lsA D
  simp only [List.map_cons, eV] at w2 ⊢
  rw [eR_nn a0]
  have hi := (okS_cons.mp hS).1
  rcases hk with hk | hk
  · rw [cE_arr (k := 11) (by rw [toNat_c a0]; exact hk) (Or.inl rfl), toNat_c a0] at a2
    refine va_bald Cc.1 Cc.2.1 Cc.2.2.2.2.2.2.2.2.1.1 D.2.1 a.toNat 0 a2 rfl (q_vp hi h0 (by omega)) hd ?_
    rw [q_clamp hi h0, toNat_c h0]
    exact w2
  · rw [cE_arr (k := 13) (by rw [toNat_c a0]; exact hk) (Or.inr (Or.inr rfl)), toNat_c a0] at a2
    refine va_zald Cc.1 Cc.2.1 Cc.2.2.2.2.2.2.2.2.1.1 D.2.1 a.toNat 2 a2 rfl (q_vp hi h0 (by omega)) hd ?_
    rw [q_clamp hi h0, toNat_c h0]
    exact w2
theorem tys_ref {cA : Nat → ClassId} {k : Nat} (h : 14 ≤ k ∧ k ≤ 18) : ∃ C, (tysG cA)[k - 11]? = some (cA k, .object C) := by
  rcases (show k = 14 ∨ k = 15 ∨ k = 16 ∨ k = 17 ∨ k = 18 by omega) with rfl | rfl | rfl | rfl | rfl <;> exact ⟨_, rfl⟩
theorem tys_any {cA : Nat → ClassId} {k : Nat} (h : 11 ≤ k ∧ k ≤ 18) : ∃ t, (tysG cA)[k - 11]? = some (cA k, t) := by
  rcases (show k = 11 ∨ k = 12 ∨ k = 13 ∨ k = 14 ∨ k = 15 ∨ k = 16 ∨ k = 17 ∨ k = 18 by omega) with rfl | rfl | rfl | rfl | rfl | rfl | rfl | rfl <;> exact ⟨_, rfl⟩
theorem v_aaload {a i : Int} (h : 14 ≤ M.2.1 a ∧ 0 ≤ i ∧ i < M.2.2.1 a) (hd : decode mi.2.1 pc = .ok (.aaload, 1)) (kk : V mi d b0 b1 bc bs (pc + 1) ls (pA (M.1 a i) :: st) M dec X) : V mi d b0 b1 bc bs pc ls (pI i :: pA a :: st) M dec X := by
  obtain ⟨hk, h0, hl⟩ := h
  refine v_step kk (fun hM hL hS => ⟨hM, hL, okS_cons.mpr ⟨trivial, (okS_cons.mp (okS_cons.mp hS).2).2⟩⟩) (fun hM hL hS G b p l e s m args below meth c Q Cc H locs cells slots lsA D w => ?_)
  obtain ⟨a0, a1, a2⟩ := wsM_get (cA := G.2.2.1) (b := b) hM (a := a) (by omega)
  have hr : -1 ≤ M.1 a i := by
    have := hM.2.2.2 a i.toNat (by omega)
    rw [toNat_c h0] at this
    unfold tOf at this
    rw [if_neg (by omega), if_neg (by omega), if_neg (by omega), if_pos hk] at this
    exact this
  have hi := (okS_cons.mp hS).1
  have hk2 := hM.2.1 a
  obtain ⟨kn, hkn⟩ : ∃ kn : Nat, M.2.1 a = (kn : Int) := ⟨(M.2.1 a).toNat, by omega⟩
  obtain ⟨C, hC⟩ := tys_ref (cA := G.2.2.1) (k := kn) (by omega)
  rw [cE_ref (k := (kn : Int)) (by rw [toNat_c a0]; exact hkn) (by omega), toNat_c a0, Int.toNat_natCast] at a2
  have w2 := w H locs cells slots lsA D
  simp only [List.map_cons, eV] at w2 ⊢
  rw [eR_nn a0]
  refine va_aldq Cc.1 Cc.2.1 Cc.2.2.2.2.2.2.2.2.1.1 D.2.1 a.toNat (kn - 11) a2 hC (q_vp hi h0 (by omega)) hd ?_
  rw [q_clamp hi h0, toNat_c h0, eO_rf hr]
  exact w2
theorem v_alen {a : Int} (h : 11 ≤ M.2.1 a) (hd : decode mi.2.1 pc = .ok (.arraylength, 1)) (kk : V mi d b0 b1 bc bs (pc + 1) ls (pI (M.2.2.1 a) :: st) M dec X) : V mi d b0 b1 bc bs pc ls (pA a :: st) M dec X := by
  refine v_step kk (fun hM hL hS => ⟨hM, hL, okS_cons.mpr ⟨(show r32 _ by have := hM.2.2.1 a; unfold r32; omega), (okS_cons.mp hS).2⟩⟩) (fun hM hL hS G b p l e s m args below meth c Q Cc H locs cells slots lsA D w => ?_)
  obtain ⟨a0, a1, a2⟩ := wsM_get (cA := G.2.2.1) (b := b) hM (a := a) (by omega)
  have hk2 := hM.2.1 a
  have hl2 := hM.2.2.1 a
  obtain ⟨kn, hkn⟩ : ∃ kn : Nat, M.2.1 a = (kn : Int) := ⟨(M.2.1 a).toNat, by omega⟩
  obtain ⟨t, hC⟩ := tys_any (cA := G.2.2.1) (k := kn) (by omega)
  have w2 := w H locs cells slots lsA D
  simp only [List.map_cons, eV] at w2 ⊢
  rw [eR_nn a0]
  have e9 : Int32.ofNat (M.2.2.1 a).toNat = Int32.ofInt (M.2.2.1 a) := by
    apply Int32.toInt_inj.mp
    rw [Int32.toInt_ofNat_of_lt (by omega), q_in (by unfold r32; omega)]
    omega
  by_cases h14 : 14 ≤ M.2.1 a
  · rw [cE_ref (k := (kn : Int)) (by rw [toNat_c a0]; exact hkn) (by omega), toNat_c a0, Int.toNat_natCast] at a2
    exact va_alen Cc.1 Cc.2.1 Cc.2.2.2.2.2.2.2.2.1.1 D.2.1 a.toNat (kn - 11) a2 hC e9 hd w2
  · rw [cE_arr (k := (kn : Int)) (by rw [toNat_c a0]; exact hkn) (by omega), toNat_c a0, Int.toNat_natCast] at a2
    exact va_alen Cc.1 Cc.2.1 Cc.2.2.2.2.2.2.2.2.1.1 D.2.1 a.toNat (kn - 11) a2 hC e9 hd w2
/-- an array's cell behind a store -/
theorem cE_st_arr {cA : Nat → ClassId} {b : Nat} {k a i x : Int} (h3 : k = 11 ∨ k = 12 ∨ k = 13) (a0 : 0 ≤ a) (h0 : 0 ≤ i) (ha : M.2.1 a = k) : cE cA b (mst M a i x) a.toNat = .inl (cA k.toNat, (M.2.2.1 a).toNat, .inl (upd (fun j => Int32.ofInt (M.1 a j)) i.toNat (Int32.ofInt x))) := by
  rw [cE_arr (k := k) (by rw [toNat_c a0]; exact ha) h3, toNat_c a0]
  congr 3
  congr 1
  funext j
  show Int32.ofInt (if a = a ∧ (j : Int) = i then x else M.1 a j) = if j = i.toNat then Int32.ofInt x else Int32.ofInt (M.1 a j)
  by_cases hj : j = i.toNat
  · rw [if_pos ⟨rfl, by omega⟩, if_pos hj]
  · rw [if_neg (by rintro ⟨-, q⟩; omega), if_neg hj]
theorem v_iastore {a i x : Int} (h : M.2.1 a = 12 ∧ 0 ≤ i ∧ i < M.2.2.1 a) (hd : decode mi.2.1 pc = .ok (.iastore, 1)) (kk : V mi d b0 b1 bc bs (pc + 1) ls st (mst M a i x) dec X) : V mi d b0 b1 bc bs pc ls (pI x :: pI i :: pA a :: st) M dec X := by
  obtain ⟨hk, h0, hl⟩ := h
  refine v_step kk (fun hM hL hS => ⟨hM.st (fun n hn _ => ?_), hL, (okS_cons.mp (okS_cons.mp (okS_cons.mp hS).2).2).2⟩) (fun hM hL hS G b p l e s m args below meth c Q Cc H locs cells slots lsA D w => ?_)
  · rw [hk]; exact (okS_cons.mp hS).1
  obtain ⟨a0, a1, a2⟩ := wsM_get (cA := G.2.2.1) (b := b) hM (a := a) (by rw [hk]; omega)
  rw [cE_arr (k := 12) (by rw [toNat_c a0]; exact hk) (Or.inr (Or.inl rfl)), toNat_c a0] at a2
  have hi := (okS_cons.mp (okS_cons.mp hS).2).1
  have hin := q_vp (n := (M.2.2.1 a).toNat) hi h0 (by omega)
  simp only [List.map_cons, eV]
  rw [eR_nn a0]
  refine W.iast Cc.1 Cc.2.1 (D.2.1 a.toNat _ a2) ((Cc.2.2.2.2.2.2.2.2.1.1.2 1 _ rfl).1 (M.2.2.1 a).toNat (fun j => .int (Int32.ofInt (M.1 a j)))) (fun q => by cases q) (by show ¬ (_ < 0 ∨ (arrV _ _ _).slots.size ≤ _); rw [arrV_size]; exact hin) rfl rfl hd fun H1 e1 z oq => ?_
  refine w H1 _ cells slots lsA (D.set a0 a1 ?_ z oq)
  rw [cE_st_arr (Or.inr (Or.inl rfl)) a0 h0 hk]
  show H1[b + a.toNat]? = some (vp_cell _ _)
  rw [e1, vp_cell_i, vp_cell_i, arrV_store, q_clamp hi h0]
  congr 2
  funext q
  by_cases hq : q = i.toNat
  · subst hq; simp [updV, upd]
  · simp [updV, upd, hq]
theorem q_nb {x : Int} (h : -128 ≤ x ∧ x ≤ 127) : vp_nar .byte (Int32.ofInt x) = Int32.ofInt x := by
  rw [vp_nar_byte, q_i2b, w8_id h.1 h.2]
theorem v_bastore {a i x : Int} (h : M.2.1 a = 11 ∧ 0 ≤ i ∧ i < M.2.2.1 a) (hx : -128 ≤ x ∧ x ≤ 127) (hd : decode mi.2.1 pc = .ok (.bastore, 1)) (kk : V mi d b0 b1 bc bs (pc + 1) ls st (mst M a i x) dec X) : V mi d b0 b1 bc bs pc ls (pI x :: pI i :: pA a :: st) M dec X := by
  obtain ⟨hk, h0, hl⟩ := h
  refine v_step kk (fun hM hL hS => ⟨hM.st (fun n hn _ => ?_), hL, (okS_cons.mp (okS_cons.mp (okS_cons.mp hS).2).2).2⟩) (fun hM hL hS G b p l e s m args below meth c Q Cc H locs cells slots lsA D w => ?_)
  · rw [hk]; exact hx
  obtain ⟨a0, a1, a2⟩ := wsM_get (cA := G.2.2.1) (b := b) hM (a := a) (by rw [hk]; omega)
  rw [cE_arr (k := 11) (by rw [toNat_c a0]; exact hk) (Or.inl rfl), toNat_c a0] at a2
  have hi := (okS_cons.mp (okS_cons.mp hS).2).1
  have hin := q_vp (n := (M.2.2.1 a).toNat) hi h0 (by omega)
  simp only [List.map_cons, eV]
  rw [eR_nn a0]
  refine W.bast Cc.1 Cc.2.1 (D.2.1 a.toNat _ a2) ((Cc.2.2.2.2.2.2.2.2.1.1.2 0 _ rfl).1 (M.2.2.1 a).toNat (fun j => .int (Int32.ofInt (M.1 a j)))) (fun q => by cases q) (by show ¬ (_ < 0 ∨ (arrV _ _ _).slots.size ≤ _); rw [arrV_size]; exact hin) rfl rfl hd fun H1 e1 z oq => ?_
  refine w H1 _ cells slots lsA (D.set a0 a1 ?_ z oq)
  rw [cE_st_arr (Or.inl rfl) a0 h0 hk]
  show H1[b + a.toNat]? = some (vp_cell _ _)
  rw [e1, vp_cell_i, vp_cell_i, arrV_store, q_clamp hi h0]
  congr 2
  funext q
  have hnb := q_nb hx
  unfold vp_nar at hnb
  by_cases hq : q = i.toNat
  · subst hq
    simp only [updV, upd, if_true]
    have h2 : ∃ y, narrow .byte (.int (Int32.ofInt x)) = .int y := ⟨_, rfl⟩
    obtain ⟨y, hy⟩ := h2
    rw [hy] at hnb ⊢
    simp only at hnb
    rw [hnb]
  · simp [updV, upd, hq]
theorem v_zastore {a i x : Int} (h : M.2.1 a = 13 ∧ 0 ≤ i ∧ i < M.2.2.1 a) (hx : x = 0 ∨ x = 1) (hd : decode mi.2.1 pc = .ok (.bastore, 1)) (kk : V mi d b0 b1 bc bs (pc + 1) ls st (mst M a i x) dec X) : V mi d b0 b1 bc bs pc ls (pI x :: pI i :: pA a :: st) M dec X := by
  obtain ⟨hk, h0, hl⟩ := h
  refine v_step kk (fun hM hL hS => ⟨hM.st (fun n hn _ => ?_), hL, (okS_cons.mp (okS_cons.mp (okS_cons.mp hS).2).2).2⟩) (fun hM hL hS G b p l e s m args below meth c Q Cc H locs cells slots lsA D w => ?_)
  · rw [hk]; exact hx
  obtain ⟨a0, a1, a2⟩ := wsM_get (cA := G.2.2.1) (b := b) hM (a := a) (by rw [hk]; omega)
  rw [cE_arr (k := 13) (by rw [toNat_c a0]; exact hk) (Or.inr (Or.inr rfl)), toNat_c a0] at a2
  have hi := (okS_cons.mp (okS_cons.mp hS).2).1
  have hin := q_vp (n := (M.2.2.1 a).toNat) hi h0 (by omega)
  simp only [List.map_cons, eV]
  rw [eR_nn a0]
  refine W.zast Cc.1 Cc.2.1 (D.2.1 a.toNat _ a2) ((Cc.2.2.2.2.2.2.2.2.1.1.2 2 _ rfl).1 (M.2.2.1 a).toNat (fun j => .int (Int32.ofInt (M.1 a j)))) (fun q => by cases q) (by show ¬ (_ < 0 ∨ (arrV _ _ _).slots.size ≤ _); rw [arrV_size]; exact hin) rfl rfl hd fun H1 e1 z oq => ?_
  refine w H1 _ cells slots lsA (D.set a0 a1 ?_ z oq)
  rw [cE_st_arr (Or.inr (Or.inr rfl)) a0 h0 hk]
  show H1[b + a.toNat]? = some (vp_cell _ _)
  rw [e1, vp_cell_i, vp_cell_i, arrV_store, q_clamp hi h0]
  congr 2
  funext q
  by_cases hq : q = i.toNat
  · subst hq
    simp only [updV, upd, if_true]
    exact nar_z hx
  · simp [updV, upd, hq]
end RulesR
end
section
section RulesC
variable {ρ : Type} {mi : MI} {d b0 b1 bc bs pc : Nat} {ls ls' : List (Option PV)} {st : List PV} {M : Mem} {dec : ρ → Option PV × Mem} {X A B : Option ρ}
theorem ini_prim {k : Int} (h : k = 11 ∨ k = 12 ∨ k = 13) (y : Int) : ini k y = 0 := by
  rcases h with rfl | rfl | rfl <;> rfl
theorem ini_ref {k : Int} (h : 14 ≤ k) (y : Int) : ini k y = -1 := by
  unfold ini tOf
  rw [if_neg (by omega), if_neg (by omega), if_neg (by omega), if_pos h]
theorem tys_prim {G : GG} {b : Nat} {s : State} (h : Amb G b s) {t : ArrayType} {k : Nat} (ht : (t = .byte ∧ k = 11) ∨ (t = .int ∧ k = 12) ∨ (t = .boolean ∧ k = 13)) {cA : ClassId} (hc : s.vm.findClass ("[" ++ (newarray.typeOf t).toString) = some cA) : cA = G.2.2.1 k := by
  rcases ht with ⟨rfl, rfl⟩ | ⟨rfl, rfl⟩ | ⟨rfl, rfl⟩
  · exact Option.some.inj (hc.symm.trans (h.1.2 0 _ rfl).2)
  · exact Option.some.inj (hc.symm.trans (h.1.2 1 _ rfl).2)
  · exact Option.some.inj (hc.symm.trans (h.1.2 2 _ rfl).2)
theorem v_newarray {t : ArrayType} {n : Nat} (k : Nat) (ht : (t = .byte ∧ k = 11) ∨ (t = .int ∧ k = 12) ∨ (t = .boolean ∧ k = 13)) (hn : n ≤ 100000) (hw : Cond.arrayClass (newarray.typeOf t) ∈ GT) (hd : decode mi.2.1 pc = .ok (.newarray t, 2))
    (kk : V mi d b0 b1 bc bs (pc + 2) ls (pA (M.2.2.2 : Int) :: st) (mnew M (k : Int) (n : Int)) dec X) : V mi d b0 b1 (bc + 1) (bs + n) pc ls (pI (n : Int) :: st) M dec X := by
  have hk3 : (k : Int) = 11 ∨ (k : Int) = 12 ∨ (k : Int) = 13 := by omega
  refine v_step kk (fun hM hL hS => ⟨hM.new (by omega) (by omega), hL, okS_cons.mpr ⟨trivial, (okS_cons.mp hS).2⟩⟩) (fun hM hL hS G b p l e s m args below meth c Q Cc H locs cells slots lsA D w => ?_)
  obtain ⟨D1, D2, D3, D4, D5, D6⟩ := id D
  have hr : r32 (n : Int) := by unfold r32; omega
  have hcl : (Int32.ofInt (n : Int)).toNatClampNeg = n := by rw [q_clamp hr (by omega), Int.toNat_natCast]
  have hb4 : n * componentBytes (newarray.typeOf t) ≤ 536870912 := by
    rcases ht with ⟨rfl, -⟩ | ⟨rfl, -⟩ | ⟨rfl, -⟩ <;> (simp only [newarray.typeOf, componentBytes]; omega)
  refine va_newaK Cc.1 Cc.2.1 (Cc.2.2.2.2.2.1 _ hw) rfl hd rfl (fun q => by have := (q_lt hr r32_0).mp (by rw [q_0]; exact q); omega) hcl hb4 (show cells + 1 ≤ b0 by omega) (show slots + n ≤ b1 by omega) D1 fun H1 cA e1 z1 o1 hAr hNm => ?_
  have hcA := tys_prim Cc.2.2.2.2.2.2.2.2.1 ht hNm
  have w2 := w H1 locs (cells + 1) (slots + n) lsA (D.new (k := (k : Int)) (n := (n : Int)) (by
    rw [cE_arr (k := (k : Int)) mnew_k hk3, mnew_l, Int.toNat_natCast, Int.toNat_natCast]
    show H1[b + M.2.2.2]? = some (vp_cell _ _)
    rw [e1, vp_cell_i, hcA]
    congr 2
    funext j
    rw [mnew_c, ini_prim hk3]
    rcases ht with ⟨rfl, -⟩ | ⟨rfl, -⟩ | ⟨rfl, -⟩ <;> rfl) (by rw [z1, D1]) (fun q hq => o1 q (by omega)))
  simp only [List.map_cons, eV] at w2
  rw [eR_new] at w2
  exact w2
theorem v_anewarray {n index : Nat} (k : Nat) (C : String) (hk : (k = 14 ∧ C = RX0) ∨ (k = 15 ∧ C = RX1) ∨ (k = 16 ∧ C = RX4) ∨ (k = 17 ∧ C = RX6) ∨ (k = 18 ∧ C = RX7)) (hn : n ≤ 100000) (hlk : Cond.classLink mi.1.cls index C ∈ GT) (hd : decode mi.2.1 pc = .ok (.anewarray index, 3))
    (kk : V mi d b0 b1 bc bs (pc + 3) ls (pA (M.2.2.2 : Int) :: st) (mnew M (k : Int) (n : Int)) dec X) : V mi d b0 b1 (bc + 1) (bs + n) pc ls (pI (n : Int) :: st) M dec X := by
  have hk4 : 14 ≤ (k : Int) ∧ (k : Int) ≤ 18 := by omega
  refine v_step kk (fun hM hL hS => ⟨hM.new (by omega) (by omega), hL, okS_cons.mpr ⟨trivial, (okS_cons.mp hS).2⟩⟩) (fun hM hL hS G b p l e s m args below meth c Q Cc H locs cells slots lsA D w => ?_)
  obtain ⟨D1, D2, D3, D4, D5, D6⟩ := id D
  have hr : r32 (n : Int) := by unfold r32; omega
  have hcl : (Int32.ofInt (n : Int)).toNatClampNeg = n := by rw [q_clamp hr (by omega), Int.toNat_natCast]
  have hA := Cc.2.2.2.2.2.2.2.2.1
  have hao : va_AO C s := hA.2.2.2.2.2.2.2 C (by rcases hk with ⟨-, rfl⟩ | ⟨-, rfl⟩ | ⟨-, rfl⟩ | ⟨-, rfl⟩ | ⟨-, rfl⟩ <;> simp)
  have hty : (tysG G.2.2.1)[k - 11]? = some (G.2.2.1 k, .object C) := by
    rcases hk with ⟨rfl, rfl⟩ | ⟨rfl, rfl⟩ | ⟨rfl, rfl⟩ | ⟨rfl, rfl⟩ | ⟨rfl, rfl⟩ <;> rfl
  refine W.anew Cc.1 Cc.2.1 Cc.2.2.2.2.1 (Cc.2.2.2.2.2.1 _ hlk) (va_AO.use hao) rfl hd rfl (fun q => by have := (q_lt hr r32_0).mp (by rw [q_0]; exact q); omega) (by rw [hcl]; omega) (show cells + 1 ≤ b0 by omega) (by rw [hcl]; show slots + n ≤ b1; omega) fun cA kA comp f1 f2 f3 f4 => ?_
  rw [hcl]
  generalize hH1 : H.push ({ cls := cA, slots := Array.replicate n .null, vm := .none } : Cell) = H1
  have z1 : H1.size = H.size + 1 := by rw [← hH1, Array.size_push]
  have e1 : H1[H.size]? = some (arrV cA n (fun _ => .null)) := by rw [← hH1, Array.getElem?_push_size, ← arrV_new]
  have o1 : ∀ q : Nat, q < H.size → H1[q]? = H[q]? := fun q hq => by rw [← hH1, Array.getElem?_push, if_neg (Nat.ne_of_lt hq)]
  obtain ⟨kA', comp', g1, g2, g3, g4⟩ := (hA.1.2 _ _ hty).2
  have hcA : cA = G.2.2.1 k := Option.some.inj (f1.symm.trans g4)
  have w2 := w H1 locs (cells + 1) (slots + n) lsA (D.new (k := (k : Int)) (n := (n : Int)) (by
    rw [cE_ref (k := (k : Int)) mnew_k hk4.1, mnew_l, Int.toNat_natCast, Int.toNat_natCast]
    show H1[b + M.2.2.2]? = some (vp_cell _ _)
    rw [← D1, e1, vp_cell_q, hcA]
    congr 2
    funext j
    rw [mnew_c, ini_ref hk4.1]
    rfl) z1 o1)
  simp only [List.map_cons, eV] at w2
  rw [eR_new, ← D1] at w2
  exact w2
theorem v_aastore {a i x : Int} {C : String} {T : u_T} {N : Nat} (k ci : Nat) (hk : (k = 14 ∧ ci = 0) ∨ (k = 15 ∧ ci = 1) ∨ (k = 16 ∧ ci = 4) ∨ (k = 17 ∧ ci = 6) ∨ (k = 18 ∧ ci = 7)) (h : M.2.1 a = (k : Int) ∧ 0 ≤ i ∧ i < M.2.2.1 a) (hx : M.2.1 x = (ci : Int)) (hd : decode mi.2.1 pc = .ok (.aastore, 1))
    (kk : V mi d b0 b1 bc bs (pc + 1) ls st (mst M a i x) dec X) : V mi d b0 b1 bc bs pc ls (pA x :: pI i :: pA a :: st) M dec X := by
  obtain ⟨ha, h0, hl⟩ := h
  have hk4 : 14 ≤ (k : Int) ∧ (k : Int) ≤ 18 := by omega
  refine v_step kk (fun hM hL hS => ⟨hM.st (fun n hn _ => ?_), hL, (okS_cons.mp (okS_cons.mp (okS_cons.mp hS).2).2).2⟩) (fun hM hL hS G b p l e s m args below meth c Q Cc H locs cells slots lsA D w => ?_)
  · have := hM.1 x (by rw [hx]; omega)
    rw [ha]
    unfold tOf
    rw [if_neg (by omega), if_neg (by omega), if_neg (by omega), if_pos hk4.1]
    show -1 ≤ x
    omega
  obtain ⟨a0, a1, a2⟩ := wsM_get (cA := G.2.2.1) (b := b) hM (a := a) (by rw [ha]; omega)
  obtain ⟨x0, x1, x2⟩ := wsM_get (cA := G.2.2.1) (b := b) hM (a := x) (by rw [hx]; omega)
  rw [cE_ref (k := (k : Int)) (by rw [toNat_c a0]; exact ha) hk4.1, toNat_c a0, Int.toNat_natCast] at a2
  rw [cE_obj (k := (ci : Int)) (by rw [toNat_c x0]; exact hx) (by omega), Int.toNat_natCast] at x2
  have hi := (okS_cons.mp (okS_cons.mp hS).2).1
  have hin := q_vp (n := (M.2.2.1 a).toNat) hi h0 (by omega)
  have hK := Cc.2.2.2.2.2.2.2.2.1.1
  obtain ⟨r, hc, hty⟩ : ∃ r : vw_C, vwCl[ci]? = some r ∧ (tysG G.2.2.1)[k - 11]? = some (G.2.2.1 k, .object r.1) := by
    rcases hk with ⟨rfl, rfl⟩ | ⟨rfl, rfl⟩ | ⟨rfl, rfl⟩ | ⟨rfl, rfl⟩ | ⟨rfl, rfl⟩ <;> exact ⟨_, rfl, rfl⟩
  simp only [List.map_cons, eV]
  rw [eR_nn a0, eR_nn x0]
  have hlt : (Int32.ofInt i).toNatClampNeg < (M.2.2.1 a).toNat := Nat.not_le.mp fun q => hin (Or.inr q)
  obtain ⟨r', hr', cellV, g1, g2, g3, -⟩ := D.2.1 x.toNat _ x2
  have hcls := (hK.1 ci r hc).2
  obtain ⟨kA, comp, k1, k2, k3, -⟩ := (hK.2 (k - 11) _ hty).2
  have hcomp : comp = G.1 ci := Option.some.inj (k3.symm.trans hcls.1)
  subst hcomp
  obtain ⟨kC, hkC, -⟩ := hcls.2
  refine W.aast Cc.1 Cc.2.1 (D.2.1 a.toNat _ a2) (fun q h => by cases h) (fun h => by cases h) k1 k2 rfl hkC ⟨fun q => hin (Or.inl q), by show _ < (arrV _ _ _).slots.size; rw [arrV_size]; exact hlt⟩ g1 (fun q h => by rw [g3] at h; cases h) (by rw [g2]; exact hkC) (by rw [g2]; exact va_assign hcls) rfl rfl hd fun H1 e1 z oq => ?_
  refine w H1 _ cells slots lsA (D.set a0 a1 ?_ z oq)
  rw [cE_ref (k := (k : Int)) (by rw [toNat_c a0]; exact ha) hk4.1, toNat_c a0, Int.toNat_natCast]
  show H1[b + a.toNat]? = some (vp_cell _ _)
  rw [e1, vp_cell_q, vp_cell_q, arrV_store, q_clamp hi h0]
  show some (arrV _ _ _) = some (arrV _ (M.2.2.1 a).toNat _)
  congr 2
  funext q
  show updV _ _ _ q = va_rf (eO b (if a = a ∧ (q : Int) = i then x else M.1 a q))
  by_cases hq : q = i.toNat
  · rw [if_pos ⟨rfl, by omega⟩]
    subst hq
    simp only [updV, if_true]
    unfold eO
    rw [if_neg (by omega)]
    rfl
  · rw [if_neg (by rintro ⟨-, z⟩; omega)]
    simp [updV, hq]
theorem wd_sum {b : Nat} {cs : Nat → Nat} : ∀ (st : List PV), ((st.map (eV b cs)).map fun v => v.category).sum ≤ 2 * st.length
  | [] => by simp
  | v :: st => by
    have := wd_sum (b := b) (cs := cs) st
    have h2 := lv_cat (eV b cs v)
    simp only [List.map_cons, List.sum_cons, List.length_cons]
    omega
theorem v_objInit {idx : Nat} {a : Int} (h : 0 ≤ a) (hlk : Cond.methodLink mi.1.cls idx objectInit ∈ GT) (hin : Cond.instanceMethod objectInit ∈ GT) (hco : Cond.code objectInit ⟨#[0xb1]⟩ 1 none ∈ GT) (hst : st.length ≤ 10) (hd : decode mi.2.1 pc = .ok (.invokespecial idx, 3))
    (kk : V mi (d + 1) b0 b1 bc bs (pc + 3) ls st M dec X) : V mi (d + 1) b0 b1 bc bs pc ls (pA a :: st) M dec X :=
  v_op kk (fun _ h => (okS_cons.mp h).2) (fun _ _ G b p l e s m args below meth c Q Cc H locs cells slots lsA hA w => by
    simp only [List.map_cons, eV]
    rw [eR_nn h]
    have hs := wd_sum (b := b) (cs := G.2.2.2.1) st
    refine W.objInit Cc.1 Cc.2.1 Cc.2.2.2.2.1 (Cc.2.2.2.2.2.1 _ hlk) (Cc.2.2.2.2.2.1 _ hin) (Cc.2.2.2.2.2.1 _ hco) rfl (by rw [Cc.2.2.2.1]; exact hA.1) rfl hd (show 1 ≤ d + 1 by omega) ?_ w
    show 2 * 0 + _ + 12 ≤ 64 * (d + 1)
    omega)
/-- behind a call -/
theorem v_callR {ρ' : Type} {dec' : ρ' → Option PV × Mem} {X' : Option ρ'} {K : ρ' → Option ρ} {mi' : MI} {c0 c1 : Nat} {As st0 : List PV} (hC : Ct mi' d c0 c1 As M dec' X') (has : okS st0 → okS As ∧ okS st)
    (k : ∀ r, X' = some r → V mi (d + 1) b0 b1 bc bs (pc + 3) ls ((dec' r).1.toList ++ st) (dec' r).2 dec (K r))
    (hrun : MemOK M → ∀ (G : GG) (b : Nat) (p : Program) (l : Launch) (e : Env) (s : State) (m : MethodId) (args : Array Value) (below : List Frame) (meth : Method) (c : Code) (r : ρ'), Cx mi G b p s m args meth c →
      ∀ (H : Heap) (locs : List Loc) (cells slots : Nat) (lsA : Array Slot), Dy mi G b b0 b1 (bc + c0) (bs + c1) s M ls H locs cells slots lsA →
        Met l mi'.1 (.code mi'.1 mi'.2.1 mi'.2.2.1 mi'.2.2.2 :: GT) (rmD d c0 c1) (PcR G b As M) (QcR G b (dec' r)) c0 c1 (AA b) →
        va_Run p l e (rmD (d + 1) b0 b1) s m args below meth c H locs cells slots c0 c1 (F0 m pc lsA (st0.map (eV b G.2.2.2.1))) (st.map (eV b G.2.2.2.1)) (QcR G b (dec' r) (As.map (eV b G.2.2.2.1)).toArray) (AA b)) :
    V mi (d + 1) b0 b1 (bc + c0) (bs + c1) pc ls st0 M dec (X'.bind K) := by
  intro r hr hM hL hS
  cases hX : X' with
  | none => rw [hX] at hr; cases hr
  | some r' =>
    rw [hX] at hr
    change K r' = some r at hr
    obtain ⟨s1, s2⟩ := has hS
    obtain ⟨o1, mt⟩ := hC r' hX hM s1
    obtain ⟨g1, g2⟩ := k r' hX r hr o1.1 hL (fun v hv => by
      rcases List.mem_append.mp hv with h | h
      · exact o1.2 v (Option.mem_toList.mp h)
      · exact s2 v h)
    refine ⟨g1, fun G b p l e s m args below meth c C H locs cells slots lsA D => ?_⟩
    intro T hT X0
    obtain ⟨v, st₀, t, T', L, h0, X1, hLf, e1, e2, ⟨hv, hz, hP, hsz, hk⟩, go⟩ := hrun hM G b p l e s m args below meth c r' C H locs cells slots lsA D (mt G b l) T hT X0
    cases hv
    obtain ⟨D1, D2, D3, D4, D5, D6⟩ := D
    rw [h0] at hsz hk
    have w := g2 G b p l e s m args below meth c C T'.heap (locs ++ L) (cells + c0) (slots + c1) lsA ⟨by rw [e1]; exact hz, by rw [e1]; exact hP, ⟨by rw [e1]; exact Nat.le_trans D3.1 hsz, fun q h1 h2 => by rw [e1, hk q (Nat.lt_of_lt_of_le h1 D3.1) h2]; exact D3.2.1 q h1 h2, fun q hq => by
      rcases List.mem_append.mp hq with h | h
      · exact D3.2.2 q h
      · exact hLf q h⟩, D4, by omega, by omega⟩
    obtain ⟨t2, a1, b1'⟩ := w T' rfl X1
    refine ⟨t2, go t2 ?_, b1'⟩
    have e9 : ((dec' r').1.toList ++ st).map (eV b G.2.2.2.1) = ((dec' r').1.map (eV b G.2.2.2.1)).toList ++ st.map (eV b G.2.2.2.1) := by
      rw [List.map_append]; cases (dec' r').1 <;> rfl
    rw [e9] at a1
    exact a1
theorem pcR_blind {G : GG} {b : Nat} {As : List PV} : FrameBlind (PcR G b As M) := fun a U g mk h => ⟨h.1, h.2.1, h.2.2.1, h.2.2.2.move (State.WarmedH.refl U) (fun _ _ _ => rfl)⟩
theorem pcR_at {G : GG} {b : Nat} {As : List PV} {s : State} {H : Heap} {locs : List Loc} {cells slots : Nat} {lsA : Array Slot} (hA : Amb G b s) (D : Dy mi G b b0 b1 bc bs s M ls H locs cells slots lsA) : ∀ U : State, U.heap = H → s.WarmedH U.vm → PcR G b As M (As.map (eV b G.2.2.2.1)).toArray U :=
  fun U hU hW => ⟨rfl, by rw [hU]; exact D.1, by rw [hU]; exact D.2.1, hA.move hW (fun q h1 h2 => by rw [hU]; exact D.2.2.1.2.1 q h1 h2)⟩
theorem gIn {l : List Cond} (h : ∀ w ∈ l, w ∈ GT) : GoodIn GT l := fun w hw => ⟨h w hw, (GT_good w (h w hw)).2⟩
theorem hW_of {b : Nat} {cs : Nat → Nat} {m : MethodId} {pc : Nat} {lsA : Array Slot} {rest : List Value} (h : st.length ≤ 4) : 2 * (F0 m pc lsA rest).monitorRoom + ((st.map (eV b cs)).map fun v => v.category).sum ≤ 8 :=
  lv_room (by have := wd_sum (b := b) (cs := cs) st; omega)
/-- what a call's words must be -/
def cok (mi' : MI) (n : Nat) : Prop := Cond.code mi'.1 mi'.2.1 mi'.2.2.1 mi'.2.2.2 ∈ GT ∧ Cond.initialized mi'.1.cls ∈ GT ∧ mi'.2.2.1 ≤ 45 ∧ mi'.1.cls ≠ "java/lang/invoke/MethodHandle" ∧ mi'.1.cls ≠ "java/lang/invoke/VarHandle" ∧ (parseMethodDescriptor mi'.1.desc).map (fun d => d.parameters.length) = some n
theorem v_callV {ρ' : Type} {dec' : ρ' → Option PV × Mem} {X' : Option ρ'} {K : ρ' → Option ρ} {mi' : MI} {c0 c1 index ci n : Nat} {C : String} {T : u_T} {N : Nat} {a : Int} {As : List PV} (hC : Ct mi' d c0 c1 (pA a :: As) M dec' X') (hc : vwCl[ci]? = some (C, T, N)) (ha : M.2.1 a = (ci : Int)) (hcls : mi'.1.cls = C) (ho : cok mi' n)
    (hlk : Cond.methodLink mi.1.cls index mi'.1 ∈ GT ∨ (mi.1.cls, index, mi'.1, "OneBack") ∈ NW) (him : Cond.instanceMethod mi'.1 ∈ GT) (hse : Cond.selects C mi'.1 mi'.1 ∈ GT) (hn : As.length = n) (hst : st.length ≤ 4) (hd : decode mi.2.1 pc = .ok (.invokevirtual index, 3))
    (k : ∀ r, X' = some r → V mi (d + 1) b0 b1 bc bs (pc + 3) ls ((dec' r).1.toList ++ st) (dec' r).2 dec (K r)) {st0 : List PV} (hs0 : st0 = As.reverse ++ pA a :: st) : V mi (d + 1) b0 b1 (bc + c0) (bs + c1) pc ls st0 M dec (X'.bind K) := by
  subst hs0
  obtain ⟨c10, -⟩ := cls_n hc
  refine v_callR hC (fun h => ⟨fun v hv => h v (by simp only [List.mem_append, List.mem_cons, List.mem_reverse] at hv ⊢; rcases hv with q | q <;> simp [q]), fun v hv => h v (by simp [hv])⟩) k (fun hM G b p l e s m args below meth c r Cc H locs cells slots lsA D mt => ?_)
  obtain ⟨o1, o2, o3, o4, o5, o6⟩ := ho
  obtain ⟨a0, a1, a2⟩ := wsM_get (cA := G.2.2.1) (b := b) hM (a := a) (by rw [ha]; omega)
  rw [cE_obj (k := (ci : Int)) (by rw [toNat_c a0]; exact ha) (by omega), Int.toNat_natCast] at a2
  have hts := Cc.2.2.2.2.2.1
  have hA := Cc.2.2.2.2.2.2.2.2.1
  have hgood : GoodIn GT (.code mi'.1 mi'.2.1 mi'.2.2.1 mi'.2.2.2 :: GT) := gIn (fun w hw => (List.mem_cons.mp hw).elim (fun e => by rw [e]; exact o1) id)
  have hp : PreV s H C (b + a.toNat) (PcR G b (pA a :: As) M) (As.map (eV b G.2.2.2.1)) := ⟨pcR_blind, va_recv hA.1 D.2.1 hc a2, fun U hU hW => by
    have := pcR_at (As := pA a :: As) hA D U hU hW
    simp only [List.map_cons, eV] at this
    rw [eR_nn a0] at this
    exact this⟩
  have e9 : ((pA a :: As).map (eV b G.2.2.2.1)).toArray = (Value.ref (b + a.toNat) :: As.map (eV b G.2.2.2.1)).toArray := by simp only [List.map_cons, eV]; rw [eR_nn a0]
  have e8 : (As.reverse ++ pA a :: st).map (eV b G.2.2.2.1) = (As.map (eV b G.2.2.2.1)).reverse ++ .ref (b + a.toNat) :: st.map (eV b G.2.2.2.1) := by
    rw [List.map_append, List.map_reverse, List.map_cons]; simp only [eV]; rw [eR_nn a0]
  have hR : (rmD d c0 c1).frames + 1 ≤ (rmD (d + 1) b0 b1).frames ∧ 8 + (mi'.2.2.1 + 11) + (rmD d c0 c1).locals ≤ (rmD (d + 1) b0 b1).locals := ⟨Nat.le_refl _, by show 8 + (mi'.2.2.1 + 11) + 64 * d ≤ 64 * (d + 1); omega⟩
  obtain ⟨D1, D2, D3, D4, D5, D6⟩ := id D
  rw [e9, e8]
  rcases hlk with hlk | hlk
  · refine va_runV (Ts := GT) (nL := mi.2.2.1) (n := n) ⟨Cc.1, Cc.2.1, Cc.2.2.2.1, Cc.2.2.2.2.1, hts⟩ mt (cwV n hts (C := C) (gIn (fun w hw => ?_)) rfl rfl rfl ⟨hcls, o4, o5, o6⟩ hR) hp rfl (by rw [List.length_map]; exact hn) D4.1 rfl (hW_of hst) hd ⟨by show cells + c0 ≤ b0; omega, by show slots + c1 ≤ b1; omega⟩
    unfold wsV at hw
    rcases List.mem_append.mp hw with h | h
    · simp only [List.mem_cons, List.not_mem_nil, or_false] at h
      rcases h with rfl | rfl | rfl | rfl
      · exact hlk
      · exact him
      · exact hse
      · rw [← hcls]; exact o2
    · exact (hgood w h).1
  · exact va_runVN (Ts := GT) (nL := mi.2.2.1) (n := n) (C := C) ⟨Cc.1, Cc.2.1, Cc.2.2.2.1, Cc.2.2.2.2.1, hts⟩ mt ⟨va_cnB n hts hgood rfl rfl rfl (hA.2.1 _ hlk) (hts _ o2) ⟨o4, o5, o6⟩ hR, hts _ him, hts _ hse⟩ hp rfl (by rw [List.length_map]; exact hn) D4.1 rfl (hW_of hst) hd ⟨by show cells + c0 ≤ b0; omega, by show slots + c1 ≤ b1; omega⟩
theorem v_callS {ρ' : Type} {dec' : ρ' → Option PV × Mem} {X' : Option ρ'} {K : ρ' → Option ρ} {mi' : MI} {c0 c1 index n : Nat} {As : List PV} (hC : Ct mi' d c0 c1 As M dec' X') (ho : cok mi' n)
    (hlk : Cond.methodLink mi.1.cls index mi'.1 ∈ GT ∨ (mi.1.cls, index, mi'.1, "OneBack") ∈ NW) (hsta : Cond.static mi'.1 ∈ GT) (hn : As.length = n) (hst : st.length ≤ 4) (hd : decode mi.2.1 pc = .ok (.invokestatic index, 3))
    (k : ∀ r, X' = some r → V mi (d + 1) b0 b1 bc bs (pc + 3) ls ((dec' r).1.toList ++ st) (dec' r).2 dec (K r)) {st0 : List PV} (hs0 : st0 = As.reverse ++ st) : V mi (d + 1) b0 b1 (bc + c0) (bs + c1) pc ls st0 M dec (X'.bind K) := by
  subst hs0
  refine v_callR hC (fun h => ⟨fun v hv => h v (by simp [hv]), fun v hv => h v (by simp [hv])⟩) k (fun hM G b p l e s m args below meth c r Cc H locs cells slots lsA D mt => ?_)
  obtain ⟨o1, o2, o3, o4, o5, o6⟩ := ho
  have hts := Cc.2.2.2.2.2.1
  have hA := Cc.2.2.2.2.2.2.2.2.1
  have hgood : GoodIn GT (.code mi'.1 mi'.2.1 mi'.2.2.1 mi'.2.2.2 :: GT) := gIn (fun w hw => (List.mem_cons.mp hw).elim (fun e => by rw [e]; exact o1) id)
  have hp : PreS s H (PcR G b As M) (As.map (eV b G.2.2.2.1)) := ⟨pcR_blind, pcR_at hA D⟩
  have e8 : (As.reverse ++ st).map (eV b G.2.2.2.1) = (As.map (eV b G.2.2.2.1)).reverse ++ st.map (eV b G.2.2.2.1) := by rw [List.map_append, List.map_reverse]
  have hR : (rmD d c0 c1).frames + 1 ≤ (rmD (d + 1) b0 b1).frames ∧ 8 + (mi'.2.2.1 + 11) + (rmD d c0 c1).locals ≤ (rmD (d + 1) b0 b1).locals := ⟨Nat.le_refl _, by show 8 + (mi'.2.2.1 + 11) + 64 * d ≤ 64 * (d + 1); omega⟩
  obtain ⟨D1, D2, D3, D4, D5, D6⟩ := id D
  rw [e8]
  rcases hlk with hlk | hlk
  · exact va_runS (Ts := GT) (nL := mi.2.2.1) (n := n) ⟨Cc.1, Cc.2.1, Cc.2.2.2.1, Cc.2.2.2.2.1, hts⟩ mt ⟨callB_of n hts hgood rfl rfl rfl (hts _ o2) (hts _ hlk) ⟨o4, o5, o6⟩ hR, hts _ hsta⟩ hp rfl (by rw [List.length_map]; exact hn) D4.1 rfl (hW_of hst) hd ⟨by show cells + c0 ≤ b0; omega, by show slots + c1 ≤ b1; omega⟩
  · exact va_runSN (Ts := GT) (nL := mi.2.2.1) (n := n) ⟨Cc.1, Cc.2.1, Cc.2.2.2.1, Cc.2.2.2.2.1, hts⟩ mt ⟨va_cnB n hts hgood rfl rfl rfl (hA.2.1 _ hlk) (hts _ o2) ⟨o4, o5, o6⟩ hR, hts _ hsta, trivial⟩ hp rfl (by rw [List.length_map]; exact hn) D4.1 rfl (hW_of hst) hd ⟨by show cells + c0 ≤ b0; omega, by show slots + c1 ≤ b1; omega⟩
theorem v_callI {ρ' : Type} {dec' : ρ' → Option PV × Mem} {X' : Option ρ'} {K : ρ' → Option ρ} {mi' : MI} {c0 c1 index n : Nat} {a : Int} {As : List PV} (hC : Ct mi' d c0 c1 (pA a :: As) M dec' X') (ha : 0 ≤ a) (ho : cok mi' n) (hret : mi'.2.2.2 = none) (hnm : mi'.1.name = "<init>")
    (hlk : Cond.methodLink mi.1.cls index mi'.1 ∈ GT ∨ (mi.1.cls, index, mi'.1, "OneBack") ∈ NW) (him : Cond.instanceMethod mi'.1 ∈ GT) (hn : As.length = n) (hst : st.length ≤ 4) (hd : decode mi.2.1 pc = .ok (.invokespecial index, 3))
    (k : ∀ r, X' = some r → V mi (d + 1) b0 b1 bc bs (pc + 3) ls ((dec' r).1.toList ++ st) (dec' r).2 dec (K r)) {st0 : List PV} (hs0 : st0 = As.reverse ++ pA a :: st) : V mi (d + 1) b0 b1 (bc + c0) (bs + c1) pc ls st0 M dec (X'.bind K) := by
  subst hs0
  refine v_callR hC (fun h => ⟨fun v hv => h v (by simp only [List.mem_append, List.mem_cons, List.mem_reverse] at hv ⊢; rcases hv with q | q <;> simp [q]), fun v hv => h v (by simp [hv])⟩) k (fun hM G b p l e s m args below meth c r Cc H locs cells slots lsA D mt => ?_)
  obtain ⟨o1, o2, o3, o4, o5, o6⟩ := ho
  have hts := Cc.2.2.2.2.2.1
  have hA := Cc.2.2.2.2.2.2.2.2.1
  have hgood : GoodIn GT (.code mi'.1 mi'.2.1 mi'.2.2.1 mi'.2.2.2 :: GT) := gIn (fun w hw => (List.mem_cons.mp hw).elim (fun e => by rw [e]; exact o1) id)
  have e7 : (pA a :: As).map (eV b G.2.2.2.1) = Value.ref (b + a.toNat) :: As.map (eV b G.2.2.2.1) := by simp only [List.map_cons, eV]; rw [eR_nn ha]
  have hp : PreS s H (PcR G b (pA a :: As) M) (.ref (b + a.toNat) :: As.map (eV b G.2.2.2.1)) := ⟨pcR_blind, fun U hU hW => by
    have := pcR_at (As := pA a :: As) hA D U hU hW
    rw [e7] at this
    exact this⟩
  have e8 : (As.reverse ++ pA a :: st).map (eV b G.2.2.2.1) = (As.map (eV b G.2.2.2.1)).reverse ++ .ref (b + a.toNat) :: st.map (eV b G.2.2.2.1) := by
    rw [List.map_append, List.map_reverse, List.map_cons]; simp only [eV]; rw [eR_nn ha]
  have hR : (rmD d c0 c1).frames + 1 ≤ (rmD (d + 1) b0 b1).frames ∧ 8 + (mi'.2.2.1 + 11) + (rmD d c0 c1).locals ≤ (rmD (d + 1) b0 b1).locals := ⟨Nat.le_refl _, by show 8 + (mi'.2.2.1 + 11) + 64 * d ≤ 64 * (d + 1); omega⟩
  obtain ⟨D1, D2, D3, D4, D5, D6⟩ := id D
  rw [e7, e8]
  rw [hret] at mt hgood
  rcases hlk with hlk | hlk
  · exact va_runI (Ts := GT) (nL := mi.2.2.1) (n := n) ⟨Cc.1, Cc.2.1, Cc.2.2.2.1, Cc.2.2.2.2.1, hts⟩ mt (cwI n hts hgood rfl rfl rfl (hts _ o2) (hts _ hlk) (hts _ him) hnm ⟨o4, o5, o6⟩ hR) hp rfl (by rw [List.length_map]; exact hn) D4.1 rfl (hW_of hst) hd ⟨by show cells + c0 ≤ b0; omega, by show slots + c1 ≤ b1; omega⟩
  · exact va_runIN (Ts := GT) (nL := mi.2.2.1) (n := n) ⟨Cc.1, Cc.2.1, Cc.2.2.2.1, Cc.2.2.2.2.1, hts⟩ mt ⟨va_cnB n hts hgood rfl rfl rfl (hA.2.1 _ hlk) (hts _ o2) ⟨o4, o5, o6⟩ hR, hnm, hts _ him⟩ hp rfl (by rw [List.length_map]; exact hn) D4.1 rfl (hW_of hst) hd ⟨by show cells + c0 ≤ b0; omega, by show slots + c1 ≤ b1; omega⟩
end RulesC
end
section
/-! loops, joins, names for values -/
def iterC {σ ρ : Type} (b : (σ → Option ρ) → σ → Option ρ) : Nat → σ → Option ρ
  | 0, _ => none
  | n + 1, s => b (iterC b n) s
def BIG : Nat := 3000000
def jn {τ ρ : Type} (k : τ → Option ρ) (body : (τ → Option ρ) → Option ρ) : Option ρ := body k
def bM {ρ : Type} (M : Mem) (f : Mem → Option ρ) : Option ρ := f M
def bI {ρ : Type} (x : Int) (f : Int → Option ρ) : Option ρ := f x
abbrev dI (M : Mem) : Int → Option PV × Mem := fun r => (some (pI r), M)
abbrev dA (M : Mem) : Int → Option PV × Mem := fun r => (some (pA r), M)
abbrev dIM : Int × Mem → Option PV × Mem := fun r => (some (pI r.1), r.2)
abbrev dAM : Int × Mem → Option PV × Mem := fun r => (some (pA r.1), r.2)
abbrev dV : Mem → Option PV × Mem := fun r => (none, r)
section RulesL
variable {ρ : Type} {mi : MI} {d b0 b1 bc bs pc : Nat} {ls ls' : List (Option PV)} {st : List PV} {M : Mem} {dec : ρ → Option PV × Mem} {X A B : Option ρ}
theorem ls_e {b : List (Option PV)} : lsle [] b := trivial
theorem ls_n {a b : List (Option PV)} {x : Option PV} (h : lsle a b) : lsle (none :: a) (x :: b) := h
theorem ls_s {a b : List (Option PV)} {v : PV} (h : lsle a b) : lsle (some v :: a) (some v :: b) := ⟨rfl, h⟩
theorem v_loop {σ : Type} (LS : σ → List (Option PV)) (MM : σ → Mem) {b : (σ → Option ρ) → σ → Option ρ} {n : Nat} {s0 : σ}
    (h : ∀ rec : σ → Option ρ, (∀ s, V mi d b0 b1 bc bs pc (LS s) [] (MM s) dec (rec s)) → ∀ s, V mi d b0 b1 bc bs pc (LS s) [] (MM s) dec (b rec s)) : V mi d b0 b1 bc bs pc (LS s0) [] (MM s0) dec (iterC b n s0) := by
  have key : ∀ n s, V mi d b0 b1 bc bs pc (LS s) [] (MM s) dec (iterC b n s) := by
    intro n
    induction n with
    | zero => intro s; exact v_none
    | succ n ih => intro s; exact h (iterC b n) ih s
  exact key n s0
theorem v_join {τ : Type} (LS : τ → List (Option PV)) (ST : τ → List PV) (MM : τ → Mem) (pj : Nat) {k : τ → Option ρ} {body : (τ → Option ρ) → Option ρ} (hk : ∀ t, V mi d b0 b1 bc bs pj (LS t) (ST t) (MM t) dec (k t))
    (hb : ∀ j : τ → Option ρ, (∀ t, V mi d b0 b1 bc bs pj (LS t) (ST t) (MM t) dec (j t)) → V mi d b0 b1 bc bs pc ls st M dec (body j)) : V mi d b0 b1 bc bs pc ls st M dec (jn k body) := hb k hk
theorem v_bM {f : Mem → Option ρ} (h : ∀ M1, M1 = M → V mi d b0 b1 bc bs pc ls st M1 dec (f M1)) : V mi d b0 b1 bc bs pc ls st M dec (bM M f) := h M rfl
end RulesL
end
section
theorem tw0 : (Jvm.Cond.initialized "OneBackLaw") ∈ GT := GT_t 0 (by decide +kernel) rfl
theorem tw1 : (Jvm.Cond.initialized "OneBack") ∈ GT := GT_t 1 (by decide +kernel) rfl
theorem tw2 : (Jvm.Cond.initialized "OneBack$Told") ∈ GT := GT_t 2 (by decide +kernel) rfl
theorem tw3 : (Jvm.Cond.initialized "OneBack$Town") ∈ GT := GT_t 3 (by decide +kernel) rfl
theorem tw4 : (Jvm.Cond.initialized "OneBack$Law") ∈ GT := GT_t 4 (by decide +kernel) rfl
theorem tw5 : (Jvm.Cond.initialized "OneBack$Nights") ∈ GT := GT_t 5 (by decide +kernel) rfl
theorem tw6 : (Jvm.Cond.initialized "OneBack$Sight") ∈ GT := GT_t 6 (by decide +kernel) rfl
theorem tw7 : (Jvm.Cond.initialized "OneBack$Reader") ∈ GT := GT_t 7 (by decide +kernel) rfl
theorem tw8 : (Jvm.Cond.initialized "OneBack$Walk") ∈ GT := GT_t 8 (by decide +kernel) rfl
theorem tw9 : (Jvm.Cond.initialized "OneBack$Supply") ∈ GT := GT_t 9 (by decide +kernel) rfl
theorem tw10 : (Jvm.Cond.initialized "OneBack$Porter") ∈ GT := GT_t 10 (by decide +kernel) rfl
theorem tw11 : (Jvm.Cond.initialized "OneBackModel") ∈ GT := GT_t 11 (by decide +kernel) rfl
theorem tw12 : (Jvm.Cond.initialized "java/lang/Math") ∈ GT := GT_t 12 (by decide +kernel) rfl
theorem tw13 : (Jvm.Cond.initialized "java/lang/String") ∈ GT := GT_t 13 (by decide +kernel) rfl
theorem tw14 : (Jvm.Cond.initialized "java/lang/StringLatin1") ∈ GT := GT_t 14 (by decide +kernel) rfl
theorem tw15 : (Jvm.Cond.initialized "jdk/internal/util/Preconditions") ∈ GT := GT_t 15 (by decide +kernel) rfl
theorem tw16 : (Jvm.Cond.initialized "java/lang/StringUTF16") ∈ GT := GT_t 16 (by decide +kernel) rfl
theorem tw17 : (Jvm.Cond.initialized "java/lang/System") ∈ GT := GT_t 17 (by decide +kernel) rfl
theorem tw18 : (Jvm.Cond.initialized "OneBack$Views") ∈ GT := GT_t 18 (by decide +kernel) rfl
theorem tw19 : (Jvm.Cond.initialized "java/lang/Integer") ∈ GT := GT_t 19 (by decide +kernel) rfl
theorem tw20 : (Jvm.Cond.classLink "OneBackLaw" (7 : Nat) "OneBack") ∈ GT := GT_t 20 (by decide +kernel) rfl
theorem tw21 : (Jvm.Cond.instantiable "OneBack" (6 : Nat)) ∈ GT := GT_t 21 (by decide +kernel) rfl
theorem tw22 : (Jvm.Cond.methodLink "OneBackLaw" (9 : Nat) ({ cls := "OneBack", name := "<init>", desc := "()V" } : Jvm.MethodName)) ∈ GT := GT_t 22 (by decide +kernel) rfl
theorem tw23 : (Jvm.Cond.instanceMethod ({ cls := "OneBack", name := "<init>", desc := "()V" } : Jvm.MethodName)) ∈ GT := GT_t 23 (by decide +kernel) rfl
theorem tw24 : (Jvm.Cond.code ({ cls := "OneBack", name := "<init>", desc := "()V" } : Jvm.MethodName) prog_1_method_1_code (1 : Nat) (Option.none : Option Jvm.ClassFile.FieldType)) ∈ GT := GT_t 24 (by decide +kernel) rfl
theorem tw25 : (Jvm.Cond.methodLink "OneBack" (3 : Nat) ({ cls := "java/lang/Object", name := "<init>", desc := "()V" } : Jvm.MethodName)) ∈ GT := GT_t 25 (by decide +kernel) rfl
theorem tw26 : (Jvm.Cond.instanceMethod ({ cls := "java/lang/Object", name := "<init>", desc := "()V" } : Jvm.MethodName)) ∈ GT := GT_t 26 (by decide +kernel) rfl
theorem tw27 : (Jvm.Cond.code ({ cls := "java/lang/Object", name := "<init>", desc := "()V" } : Jvm.MethodName) object_method_1_code (1 : Nat) (Option.none : Option Jvm.ClassFile.FieldType)) ∈ GT := GT_t 27 (by decide +kernel) rfl
theorem tw28 : (Jvm.Cond.classLink "OneBack" (9 : Nat) "OneBack$Told") ∈ GT := GT_t 28 (by decide +kernel) rfl
theorem tw29 : (Jvm.Cond.instantiable "OneBack$Told" (9 : Nat)) ∈ GT := GT_t 29 (by decide +kernel) rfl
theorem tw30 : (Jvm.Cond.methodLink "OneBack" (11 : Nat) ({ cls := "OneBack$Told", name := "<init>", desc := "()V" } : Jvm.MethodName)) ∈ GT := GT_t 30 (by decide +kernel) rfl
theorem tw31 : (Jvm.Cond.instanceMethod ({ cls := "OneBack$Told", name := "<init>", desc := "()V" } : Jvm.MethodName)) ∈ GT := GT_t 31 (by decide +kernel) rfl
theorem tw32 : (Jvm.Cond.code ({ cls := "OneBack$Told", name := "<init>", desc := "()V" } : Jvm.MethodName) prog_8_method_1_code (2 : Nat) (Option.none : Option Jvm.ClassFile.FieldType)) ∈ GT := GT_t 32 (by decide +kernel) rfl
theorem tw33 : (Jvm.Cond.methodLink "OneBack$Told" (3 : Nat) ({ cls := "java/lang/Object", name := "<init>", desc := "()V" } : Jvm.MethodName)) ∈ GT := GT_t 33 (by decide +kernel) rfl
theorem tw34 : (Jvm.Cond.classLink "OneBack$Told" (29 : Nat) "OneBack$Town") ∈ GT := GT_t 34 (by decide +kernel) rfl
theorem tw36 : (Jvm.Cond.classLink "OneBack$Told" (35 : Nat) "OneBack$Law") ∈ GT := GT_t 36 (by decide +kernel) rfl
theorem tw38 : (Jvm.Cond.classLink "OneBack$Told" (41 : Nat) "OneBack$Nights") ∈ GT := GT_t 38 (by decide +kernel) rfl
theorem tw40 : (Jvm.Cond.classLink "OneBack$Told" (47 : Nat) "OneBack$Sight") ∈ GT := GT_t 40 (by decide +kernel) rfl
theorem tw42 : (Jvm.Cond.instantiable "OneBack$Town" (10 : Nat)) ∈ GT := GT_t 42 (by decide +kernel) rfl
theorem tw43 : (Jvm.Cond.methodLink "OneBack$Told" (53 : Nat) ({ cls := "OneBack$Town", name := "<init>", desc := "()V" } : Jvm.MethodName)) ∈ GT := GT_t 43 (by decide +kernel) rfl
theorem tw44 : (Jvm.Cond.instanceMethod ({ cls := "OneBack$Town", name := "<init>", desc := "()V" } : Jvm.MethodName)) ∈ GT := GT_t 44 (by decide +kernel) rfl
theorem tw45 : (Jvm.Cond.code ({ cls := "OneBack$Town", name := "<init>", desc := "()V" } : Jvm.MethodName) prog_9_method_1_code (1 : Nat) (Option.none : Option Jvm.ClassFile.FieldType)) ∈ GT := GT_t 45 (by decide +kernel) rfl
theorem tw46 : (Jvm.Cond.methodLink "OneBack$Town" (3 : Nat) ({ cls := "java/lang/Object", name := "<init>", desc := "()V" } : Jvm.MethodName)) ∈ GT := GT_t 46 (by decide +kernel) rfl
theorem tw47 : (Jvm.Cond.methodLink "OneBack$Town" (36 : Nat) ({ cls := "OneBack$Town", name := "clear", desc := "()V" } : Jvm.MethodName)) ∈ GT := GT_t 47 (by decide +kernel) rfl
theorem tw48 : (Jvm.Cond.instanceMethod ({ cls := "OneBack$Town", name := "clear", desc := "()V" } : Jvm.MethodName)) ∈ GT := GT_t 48 (by decide +kernel) rfl
theorem tw49 : (Jvm.Cond.selects "OneBack$Town" ({ cls := "OneBack$Town", name := "clear", desc := "()V" } : Jvm.MethodName) ({ cls := "OneBack$Town", name := "clear", desc := "()V" } : Jvm.MethodName)) ∈ GT := GT_t 49 (by decide +kernel) rfl
theorem tw50 : (Jvm.Cond.code ({ cls := "OneBack$Town", name := "clear", desc := "()V" } : Jvm.MethodName) prog_9_method_2_code (2 : Nat) (Option.none : Option Jvm.ClassFile.FieldType)) ∈ GT := GT_t 50 (by decide +kernel) rfl
theorem tw52 : (Jvm.Cond.static ({ cls := "OneBack", name := "fillRow", desc := "([II)V" } : Jvm.MethodName)) ∈ GT := GT_t 52 (by decide +kernel) rfl
theorem tw53 : (Jvm.Cond.code ({ cls := "OneBack", name := "fillRow", desc := "([II)V" } : Jvm.MethodName) prog_1_method_43_code (3 : Nat) (Option.none : Option Jvm.ClassFile.FieldType)) ∈ GT := GT_t 53 (by decide +kernel) rfl
theorem tw54 : (Jvm.Cond.fieldLink "OneBack$Town" (39 : Nat) "OneBack$Town" "houses" "I") ∈ GT := GT_t 54 (by decide +kernel) rfl
theorem tw55 : (Jvm.Cond.fieldLink "OneBack$Supply" (18 : Nat) "OneBack$Town" "houses" "I") ∈ GT := GT_t 55 (by decide +kernel) rfl
theorem tw56 : (Jvm.Cond.fieldLink "OneBack$Reader" (96 : Nat) "OneBack$Town" "houses" "I") ∈ GT := GT_t 56 (by decide +kernel) rfl
theorem tw57 : (Jvm.Cond.fieldLink "OneBack$Views" (59 : Nat) "OneBack$Town" "houses" "I") ∈ GT := GT_t 57 (by decide +kernel) rfl
theorem tw58 : (Jvm.Cond.fieldLink "OneBack" (96 : Nat) "OneBack$Town" "houses" "I") ∈ GT := GT_t 58 (by decide +kernel) rfl
theorem tw59 : (Jvm.Cond.fieldLink "OneBack$Sight" (73 : Nat) "OneBack$Town" "houses" "I") ∈ GT := GT_t 59 (by decide +kernel) rfl
theorem tw60 : (Jvm.Cond.fieldLink "OneBack$Walk" (176 : Nat) "OneBack$Town" "houses" "I") ∈ GT := GT_t 60 (by decide +kernel) rfl
theorem tw61 : (Jvm.Cond.fieldLink "OneBack$Town" (43 : Nat) "OneBack$Town" "thieves" "I") ∈ GT := GT_t 61 (by decide +kernel) rfl
theorem tw62 : (Jvm.Cond.fieldLink "OneBack$Reader" (99 : Nat) "OneBack$Town" "thieves" "I") ∈ GT := GT_t 62 (by decide +kernel) rfl
theorem tw63 : (Jvm.Cond.fieldLink "OneBack$Views" (66 : Nat) "OneBack$Town" "thieves" "I") ∈ GT := GT_t 63 (by decide +kernel) rfl
theorem tw64 : (Jvm.Cond.fieldLink "OneBack" (101 : Nat) "OneBack$Town" "thieves" "I") ∈ GT := GT_t 64 (by decide +kernel) rfl
theorem tw65 : (Jvm.Cond.fieldLink "OneBack$Walk" (167 : Nat) "OneBack$Town" "thieves" "I") ∈ GT := GT_t 65 (by decide +kernel) rfl
theorem tw66 : (Jvm.Cond.fieldLink "OneBack$Town" (9 : Nat) "OneBack$Town" "has" "[I") ∈ GT := GT_t 66 (by decide +kernel) rfl
theorem tw67 : (Jvm.Cond.fieldLink "OneBack$Walk" (66 : Nat) "OneBack$Town" "has" "[I") ∈ GT := GT_t 67 (by decide +kernel) rfl
theorem tw68 : (Jvm.Cond.fieldLink "OneBack$Porter" (41 : Nat) "OneBack$Town" "has" "[I") ∈ GT := GT_t 68 (by decide +kernel) rfl
theorem tw69 : (Jvm.Cond.fieldLink "OneBack" (133 : Nat) "OneBack$Town" "has" "[I") ∈ GT := GT_t 69 (by decide +kernel) rfl
theorem tw70 : (Jvm.Cond.fieldLink "OneBack$Sight" (80 : Nat) "OneBack$Town" "has" "[I") ∈ GT := GT_t 70 (by decide +kernel) rfl
theorem tw71 : (Jvm.Cond.fieldLink "OneBack$Reader" (219 : Nat) "OneBack$Town" "has" "[I") ∈ GT := GT_t 71 (by decide +kernel) rfl
theorem tw72 : (Jvm.Cond.fieldLink "OneBack$Town" (15 : Nat) "OneBack$Town" "needs" "[I") ∈ GT := GT_t 72 (by decide +kernel) rfl
theorem tw73 : (Jvm.Cond.fieldLink "OneBack$Walk" (127 : Nat) "OneBack$Town" "needs" "[I") ∈ GT := GT_t 73 (by decide +kernel) rfl
theorem tw74 : (Jvm.Cond.fieldLink "OneBack" (139 : Nat) "OneBack$Town" "needs" "[I") ∈ GT := GT_t 74 (by decide +kernel) rfl
theorem tw75 : (Jvm.Cond.fieldLink "OneBack$Reader" (221 : Nat) "OneBack$Town" "needs" "[I") ∈ GT := GT_t 75 (by decide +kernel) rfl
theorem tw76 : (Jvm.Cond.fieldLink "OneBack$Town" (18 : Nat) "OneBack$Town" "watch" "[I") ∈ GT := GT_t 76 (by decide +kernel) rfl
theorem tw77 : (Jvm.Cond.fieldLink "OneBack$Supply" (35 : Nat) "OneBack$Town" "watch" "[I") ∈ GT := GT_t 77 (by decide +kernel) rfl
theorem tw78 : (Jvm.Cond.fieldLink "OneBack" (108 : Nat) "OneBack$Town" "watch" "[I") ∈ GT := GT_t 78 (by decide +kernel) rfl
theorem tw79 : (Jvm.Cond.fieldLink "OneBack$Walk" (157 : Nat) "OneBack$Town" "watch" "[I") ∈ GT := GT_t 79 (by decide +kernel) rfl
theorem tw80 : (Jvm.Cond.fieldLink "OneBack$Reader" (223 : Nat) "OneBack$Town" "watch" "[I") ∈ GT := GT_t 80 (by decide +kernel) rfl
theorem tw81 : (Jvm.Cond.fieldLink "OneBack$Town" (21 : Nat) "OneBack$Town" "passes" "[I") ∈ GT := GT_t 81 (by decide +kernel) rfl
theorem tw82 : (Jvm.Cond.fieldLink "OneBack" (112 : Nat) "OneBack$Town" "passes" "[I") ∈ GT := GT_t 82 (by decide +kernel) rfl
theorem tw83 : (Jvm.Cond.fieldLink "OneBack$Reader" (225 : Nat) "OneBack$Town" "passes" "[I") ∈ GT := GT_t 83 (by decide +kernel) rfl
theorem tw84 : (Jvm.Cond.fieldLink "OneBack$Town" (24 : Nat) "OneBack$Town" "weight" "[I") ∈ GT := GT_t 84 (by decide +kernel) rfl
theorem tw85 : (Jvm.Cond.fieldLink "OneBack$Porter" (55 : Nat) "OneBack$Town" "weight" "[I") ∈ GT := GT_t 85 (by decide +kernel) rfl
theorem tw86 : (Jvm.Cond.fieldLink "OneBack" (118 : Nat) "OneBack$Town" "weight" "[I") ∈ GT := GT_t 86 (by decide +kernel) rfl
theorem tw87 : (Jvm.Cond.fieldLink "OneBack$Supply" (61 : Nat) "OneBack$Town" "weight" "[I") ∈ GT := GT_t 87 (by decide +kernel) rfl
theorem tw88 : (Jvm.Cond.fieldLink "OneBack$Reader" (230 : Nat) "OneBack$Town" "weight" "[I") ∈ GT := GT_t 88 (by decide +kernel) rfl
theorem tw89 : (Jvm.Cond.fieldLink "OneBack$Town" (27 : Nat) "OneBack$Town" "worth" "[I") ∈ GT := GT_t 89 (by decide +kernel) rfl
theorem tw90 : (Jvm.Cond.fieldLink "OneBack$Porter" (58 : Nat) "OneBack$Town" "worth" "[I") ∈ GT := GT_t 90 (by decide +kernel) rfl
theorem tw91 : (Jvm.Cond.fieldLink "OneBack" (121 : Nat) "OneBack$Town" "worth" "[I") ∈ GT := GT_t 91 (by decide +kernel) rfl
theorem tw92 : (Jvm.Cond.fieldLink "OneBack$Reader" (232 : Nat) "OneBack$Town" "worth" "[I") ∈ GT := GT_t 92 (by decide +kernel) rfl
theorem tw93 : (Jvm.Cond.fieldLink "OneBack$Town" (30 : Nat) "OneBack$Town" "limit" "[I") ∈ GT := GT_t 93 (by decide +kernel) rfl
theorem tw94 : (Jvm.Cond.fieldLink "OneBack" (127 : Nat) "OneBack$Town" "limit" "[I") ∈ GT := GT_t 94 (by decide +kernel) rfl
theorem tw95 : (Jvm.Cond.fieldLink "OneBack$Walk" (148 : Nat) "OneBack$Town" "limit" "[I") ∈ GT := GT_t 95 (by decide +kernel) rfl
theorem tw96 : (Jvm.Cond.fieldLink "OneBack$Town" (33 : Nat) "OneBack$Town" "father" "[I") ∈ GT := GT_t 96 (by decide +kernel) rfl
theorem tw97 : (Jvm.Cond.fieldLink "OneBack" (130 : Nat) "OneBack$Town" "father" "[I") ∈ GT := GT_t 97 (by decide +kernel) rfl
theorem tw98 : (Jvm.Cond.fieldLink "OneBack$Reader" (234 : Nat) "OneBack$Town" "father" "[I") ∈ GT := GT_t 98 (by decide +kernel) rfl
theorem tw120 : (Jvm.Cond.arrayClass Jvm.ClassFile.FieldType.byte) ∈ GT := GT_t 120 (by decide +kernel) rfl
theorem tw121 : (Jvm.Cond.arrayClass Jvm.ClassFile.FieldType.int) ∈ GT := GT_t 121 (by decide +kernel) rfl
theorem tw122 : (Jvm.Cond.instantiable "OneBack$Law" (3 : Nat)) ∈ GT := GT_t 122 (by decide +kernel) rfl
theorem tw124 : (Jvm.Cond.instanceMethod ({ cls := "OneBack$Law", name := "<init>", desc := "()V" } : Jvm.MethodName)) ∈ GT := GT_t 124 (by decide +kernel) rfl
theorem tw125 : (Jvm.Cond.code ({ cls := "OneBack$Law", name := "<init>", desc := "()V" } : Jvm.MethodName) prog_2_method_1_code (1 : Nat) (Option.none : Option Jvm.ClassFile.FieldType)) ∈ GT := GT_t 125 (by decide +kernel) rfl
theorem tw126 : (Jvm.Cond.methodLink "OneBack$Law" (3 : Nat) ({ cls := "java/lang/Object", name := "<init>", desc := "()V" } : Jvm.MethodName)) ∈ GT := GT_t 126 (by decide +kernel) rfl
theorem tw127 : (Jvm.Cond.fieldLink "OneBack$Law" (9 : Nat) "OneBack$Law" "rate" "I") ∈ GT := GT_t 127 (by decide +kernel) rfl
theorem tw128 : (Jvm.Cond.fieldLink "OneBack" (152 : Nat) "OneBack$Law" "rate" "I") ∈ GT := GT_t 128 (by decide +kernel) rfl
theorem tw129 : (Jvm.Cond.fieldLink "OneBack$Reader" (240 : Nat) "OneBack$Law" "rate" "I") ∈ GT := GT_t 129 (by decide +kernel) rfl
theorem tw130 : (Jvm.Cond.fieldLink "OneBack$Law" (15 : Nat) "OneBack$Law" "limit" "I") ∈ GT := GT_t 130 (by decide +kernel) rfl
theorem tw131 : (Jvm.Cond.fieldLink "OneBack" (157 : Nat) "OneBack$Law" "limit" "I") ∈ GT := GT_t 131 (by decide +kernel) rfl
theorem tw132 : (Jvm.Cond.fieldLink "OneBack$Walk" (170 : Nat) "OneBack$Law" "limit" "I") ∈ GT := GT_t 132 (by decide +kernel) rfl
theorem tw133 : (Jvm.Cond.fieldLink "OneBack$Reader" (242 : Nat) "OneBack$Law" "limit" "I") ∈ GT := GT_t 133 (by decide +kernel) rfl
theorem tw134 : (Jvm.Cond.fieldLink "OneBack$Law" (18 : Nat) "OneBack$Law" "doubles" "I") ∈ GT := GT_t 134 (by decide +kernel) rfl
theorem tw135 : (Jvm.Cond.fieldLink "OneBack$Reader" (245 : Nat) "OneBack$Law" "doubles" "I") ∈ GT := GT_t 135 (by decide +kernel) rfl
theorem tw143 : (Jvm.Cond.instantiable "OneBack$Nights" (5 : Nat)) ∈ GT := GT_t 143 (by decide +kernel) rfl
theorem tw145 : (Jvm.Cond.instanceMethod ({ cls := "OneBack$Nights", name := "<init>", desc := "()V" } : Jvm.MethodName)) ∈ GT := GT_t 145 (by decide +kernel) rfl
theorem tw146 : (Jvm.Cond.code ({ cls := "OneBack$Nights", name := "<init>", desc := "()V" } : Jvm.MethodName) prog_3_method_1_code (1 : Nat) (Option.none : Option Jvm.ClassFile.FieldType)) ∈ GT := GT_t 146 (by decide +kernel) rfl
theorem tw147 : (Jvm.Cond.methodLink "OneBack$Nights" (3 : Nat) ({ cls := "java/lang/Object", name := "<init>", desc := "()V" } : Jvm.MethodName)) ∈ GT := GT_t 147 (by decide +kernel) rfl
theorem tw148 : (Jvm.Cond.fieldLink "OneBack$Nights" (9 : Nat) "OneBack$Nights" "size" "I") ∈ GT := GT_t 148 (by decide +kernel) rfl
theorem tw149 : (Jvm.Cond.fieldLink "OneBack$Walk" (77 : Nat) "OneBack$Nights" "size" "I") ∈ GT := GT_t 149 (by decide +kernel) rfl
theorem tw150 : (Jvm.Cond.fieldLink "OneBack$Reader" (138 : Nat) "OneBack$Nights" "size" "I") ∈ GT := GT_t 150 (by decide +kernel) rfl
theorem tw151 : (Jvm.Cond.fieldLink "OneBack" (167 : Nat) "OneBack$Nights" "size" "I") ∈ GT := GT_t 151 (by decide +kernel) rfl
theorem tw152 : (Jvm.Cond.fieldLink "OneBack$Nights" (15 : Nat) "OneBack$Nights" "kind" "[I") ∈ GT := GT_t 152 (by decide +kernel) rfl
theorem tw153 : (Jvm.Cond.fieldLink "OneBack$Walk" (101 : Nat) "OneBack$Nights" "kind" "[I") ∈ GT := GT_t 153 (by decide +kernel) rfl
theorem tw154 : (Jvm.Cond.fieldLink "OneBack" (172 : Nat) "OneBack$Nights" "kind" "[I") ∈ GT := GT_t 154 (by decide +kernel) rfl
theorem tw155 : (Jvm.Cond.fieldLink "OneBack$Nights" (19 : Nat) "OneBack$Nights" "first" "[I") ∈ GT := GT_t 155 (by decide +kernel) rfl
theorem tw156 : (Jvm.Cond.fieldLink "OneBack$Walk" (92 : Nat) "OneBack$Nights" "first" "[I") ∈ GT := GT_t 156 (by decide +kernel) rfl
theorem tw157 : (Jvm.Cond.fieldLink "OneBack" (175 : Nat) "OneBack$Nights" "first" "[I") ∈ GT := GT_t 157 (by decide +kernel) rfl
theorem tw158 : (Jvm.Cond.fieldLink "OneBack$Nights" (22 : Nat) "OneBack$Nights" "second" "[I") ∈ GT := GT_t 158 (by decide +kernel) rfl
theorem tw159 : (Jvm.Cond.fieldLink "OneBack$Walk" (95 : Nat) "OneBack$Nights" "second" "[I") ∈ GT := GT_t 159 (by decide +kernel) rfl
theorem tw160 : (Jvm.Cond.fieldLink "OneBack" (178 : Nat) "OneBack$Nights" "second" "[I") ∈ GT := GT_t 160 (by decide +kernel) rfl
theorem tw161 : (Jvm.Cond.fieldLink "OneBack$Nights" (25 : Nat) "OneBack$Nights" "third" "[I") ∈ GT := GT_t 161 (by decide +kernel) rfl
theorem tw162 : (Jvm.Cond.fieldLink "OneBack$Walk" (98 : Nat) "OneBack$Nights" "third" "[I") ∈ GT := GT_t 162 (by decide +kernel) rfl
theorem tw163 : (Jvm.Cond.fieldLink "OneBack" (181 : Nat) "OneBack$Nights" "third" "[I") ∈ GT := GT_t 163 (by decide +kernel) rfl
theorem tw175 : (Jvm.Cond.instantiable "OneBack$Sight" (4 : Nat)) ∈ GT := GT_t 175 (by decide +kernel) rfl
theorem tw176 : (Jvm.Cond.methodLink "OneBack$Told" (56 : Nat) ({ cls := "OneBack$Sight", name := "<init>", desc := "()V" } : Jvm.MethodName)) ∈ GT := GT_t 176 (by decide +kernel) rfl
theorem tw177 : (Jvm.Cond.instanceMethod ({ cls := "OneBack$Sight", name := "<init>", desc := "()V" } : Jvm.MethodName)) ∈ GT := GT_t 177 (by decide +kernel) rfl
theorem tw178 : (Jvm.Cond.code ({ cls := "OneBack$Sight", name := "<init>", desc := "()V" } : Jvm.MethodName) prog_6_method_1_code (1 : Nat) (Option.none : Option Jvm.ClassFile.FieldType)) ∈ GT := GT_t 178 (by decide +kernel) rfl
theorem tw179 : (Jvm.Cond.methodLink "OneBack$Sight" (3 : Nat) ({ cls := "java/lang/Object", name := "<init>", desc := "()V" } : Jvm.MethodName)) ∈ GT := GT_t 179 (by decide +kernel) rfl
theorem tw180 : (Jvm.Cond.methodLink "OneBack$Sight" (25 : Nat) ({ cls := "OneBack$Sight", name := "clear", desc := "()V" } : Jvm.MethodName)) ∈ GT := GT_t 180 (by decide +kernel) rfl
theorem tw181 : (Jvm.Cond.instanceMethod ({ cls := "OneBack$Sight", name := "clear", desc := "()V" } : Jvm.MethodName)) ∈ GT := GT_t 181 (by decide +kernel) rfl
theorem tw182 : (Jvm.Cond.selects "OneBack$Sight" ({ cls := "OneBack$Sight", name := "clear", desc := "()V" } : Jvm.MethodName) ({ cls := "OneBack$Sight", name := "clear", desc := "()V" } : Jvm.MethodName)) ∈ GT := GT_t 182 (by decide +kernel) rfl
theorem tw183 : (Jvm.Cond.code ({ cls := "OneBack$Sight", name := "clear", desc := "()V" } : Jvm.MethodName) prog_6_method_2_code (1 : Nat) (Option.none : Option Jvm.ClassFile.FieldType)) ∈ GT := GT_t 183 (by decide +kernel) rfl
theorem tw185 : (Jvm.Cond.fieldLink "OneBack$Sight" (9 : Nat) "OneBack$Sight" "size" "I") ∈ GT := GT_t 185 (by decide +kernel) rfl
theorem tw186 : (Jvm.Cond.fieldLink "OneBack$Reader" (141 : Nat) "OneBack$Sight" "size" "I") ∈ GT := GT_t 186 (by decide +kernel) rfl
theorem tw187 : (Jvm.Cond.fieldLink "OneBack" (250 : Nat) "OneBack$Sight" "size" "I") ∈ GT := GT_t 187 (by decide +kernel) rfl
theorem tw188 : (Jvm.Cond.fieldLink "OneBack$Sight" (15 : Nat) "OneBack$Sight" "house" "[I") ∈ GT := GT_t 188 (by decide +kernel) rfl
theorem tw189 : (Jvm.Cond.fieldLink "OneBack" (253 : Nat) "OneBack$Sight" "house" "[I") ∈ GT := GT_t 189 (by decide +kernel) rfl
theorem tw190 : (Jvm.Cond.fieldLink "OneBack$Sight" (19 : Nat) "OneBack$Sight" "good" "[I") ∈ GT := GT_t 190 (by decide +kernel) rfl
theorem tw191 : (Jvm.Cond.fieldLink "OneBack" (256 : Nat) "OneBack$Sight" "good" "[I") ∈ GT := GT_t 191 (by decide +kernel) rfl
theorem tw192 : (Jvm.Cond.fieldLink "OneBack$Sight" (22 : Nat) "OneBack$Sight" "left" "[I") ∈ GT := GT_t 192 (by decide +kernel) rfl
theorem tw193 : (Jvm.Cond.fieldLink "OneBack$Reader" (214 : Nat) "OneBack$Sight" "left" "[I") ∈ GT := GT_t 193 (by decide +kernel) rfl
theorem tw194 : (Jvm.Cond.fieldLink "OneBack" (259 : Nat) "OneBack$Sight" "left" "[I") ∈ GT := GT_t 194 (by decide +kernel) rfl
theorem tw204 : (Jvm.Cond.fieldLink "OneBack$Told" (9 : Nat) "OneBack$Told" "tape" "[B") ∈ GT := GT_t 204 (by decide +kernel) rfl
theorem tw205 : (Jvm.Cond.fieldLink "OneBack" (78 : Nat) "OneBack$Told" "tape" "[B") ∈ GT := GT_t 205 (by decide +kernel) rfl
theorem tw206 : (Jvm.Cond.fieldLink "OneBack$Told" (15 : Nat) "OneBack$Told" "length" "I") ∈ GT := GT_t 206 (by decide +kernel) rfl
theorem tw207 : (Jvm.Cond.fieldLink "OneBack" (60 : Nat) "OneBack$Told" "length" "I") ∈ GT := GT_t 207 (by decide +kernel) rfl
theorem tw208 : (Jvm.Cond.fieldLink "OneBack$Told" (19 : Nat) "OneBack$Told" "fault" "I") ∈ GT := GT_t 208 (by decide +kernel) rfl
theorem tw209 : (Jvm.Cond.fieldLink "OneBack" (68 : Nat) "OneBack$Told" "fault" "I") ∈ GT := GT_t 209 (by decide +kernel) rfl
theorem tw210 : (Jvm.Cond.fieldLink "OneBack$Told" (22 : Nat) "OneBack$Told" "place" "I") ∈ GT := GT_t 210 (by decide +kernel) rfl
theorem tw211 : (Jvm.Cond.fieldLink "OneBack" (71 : Nat) "OneBack$Told" "place" "I") ∈ GT := GT_t 211 (by decide +kernel) rfl
theorem tw212 : (Jvm.Cond.fieldLink "OneBack$Told" (25 : Nat) "OneBack$Told" "counts" "[I") ∈ GT := GT_t 212 (by decide +kernel) rfl
theorem tw213 : (Jvm.Cond.fieldLink "OneBack" (331 : Nat) "OneBack$Told" "counts" "[I") ∈ GT := GT_t 213 (by decide +kernel) rfl
theorem tw214 : (Jvm.Cond.fieldLink "OneBack$Told" (31 : Nat) "OneBack$Told" "towns" "[LOneBack$Town;") ∈ GT := GT_t 214 (by decide +kernel) rfl
theorem tw215 : (Jvm.Cond.fieldLink "OneBack" (29 : Nat) "OneBack$Told" "towns" "[LOneBack$Town;") ∈ GT := GT_t 215 (by decide +kernel) rfl
theorem tw216 : (Jvm.Cond.fieldLink "OneBack$Told" (37 : Nat) "OneBack$Told" "laws" "[LOneBack$Law;") ∈ GT := GT_t 216 (by decide +kernel) rfl
theorem tw217 : (Jvm.Cond.fieldLink "OneBack" (33 : Nat) "OneBack$Told" "laws" "[LOneBack$Law;") ∈ GT := GT_t 217 (by decide +kernel) rfl
theorem tw218 : (Jvm.Cond.fieldLink "OneBack$Told" (43 : Nat) "OneBack$Told" "nights" "[LOneBack$Nights;") ∈ GT := GT_t 218 (by decide +kernel) rfl
theorem tw219 : (Jvm.Cond.fieldLink "OneBack$Told" (49 : Nat) "OneBack$Told" "sights" "[LOneBack$Sight;") ∈ GT := GT_t 219 (by decide +kernel) rfl
theorem tw240 : (Jvm.Cond.classLink "OneBack" (20 : Nat) "OneBack$Reader") ∈ GT := GT_t 240 (by decide +kernel) rfl
theorem tw241 : (Jvm.Cond.instantiable "OneBack$Reader" (16 : Nat)) ∈ GT := GT_t 241 (by decide +kernel) rfl
theorem tw243 : (Jvm.Cond.instanceMethod ({ cls := "OneBack$Reader", name := "<init>", desc := "()V" } : Jvm.MethodName)) ∈ GT := GT_t 243 (by decide +kernel) rfl
theorem tw244 : (Jvm.Cond.code ({ cls := "OneBack$Reader", name := "<init>", desc := "()V" } : Jvm.MethodName) prog_5_method_1_code (1 : Nat) (Option.none : Option Jvm.ClassFile.FieldType)) ∈ GT := GT_t 244 (by decide +kernel) rfl
theorem tw245 : (Jvm.Cond.methodLink "OneBack$Reader" (3 : Nat) ({ cls := "java/lang/Object", name := "<init>", desc := "()V" } : Jvm.MethodName)) ∈ GT := GT_t 245 (by decide +kernel) rfl
theorem tw246 : (Jvm.Cond.classLink "OneBack$Reader" (18 : Nat) "OneBack$Town") ∈ GT := GT_t 246 (by decide +kernel) rfl
theorem tw247 : (Jvm.Cond.methodLink "OneBack$Reader" (20 : Nat) ({ cls := "OneBack$Town", name := "<init>", desc := "()V" } : Jvm.MethodName)) ∈ GT := GT_t 247 (by decide +kernel) rfl
theorem tw248 : (Jvm.Cond.classLink "OneBack$Reader" (25 : Nat) "OneBack$Law") ∈ GT := GT_t 248 (by decide +kernel) rfl
theorem tw250 : (Jvm.Cond.classLink "OneBack$Reader" (32 : Nat) "OneBack$Nights") ∈ GT := GT_t 250 (by decide +kernel) rfl
theorem tw252 : (Jvm.Cond.classLink "OneBack$Reader" (39 : Nat) "OneBack$Sight") ∈ GT := GT_t 252 (by decide +kernel) rfl
theorem tw253 : (Jvm.Cond.methodLink "OneBack$Reader" (41 : Nat) ({ cls := "OneBack$Sight", name := "<init>", desc := "()V" } : Jvm.MethodName)) ∈ GT := GT_t 253 (by decide +kernel) rfl
theorem tw254 : (Jvm.Cond.fieldLink "OneBack$Reader" (9 : Nat) "OneBack$Reader" "fault" "I") ∈ GT := GT_t 254 (by decide +kernel) rfl
theorem tw255 : (Jvm.Cond.fieldLink "OneBack" (86 : Nat) "OneBack$Reader" "fault" "I") ∈ GT := GT_t 255 (by decide +kernel) rfl
theorem tw256 : (Jvm.Cond.fieldLink "OneBack$Reader" (15 : Nat) "OneBack$Reader" "place" "I") ∈ GT := GT_t 256 (by decide +kernel) rfl
theorem tw257 : (Jvm.Cond.fieldLink "OneBack" (87 : Nat) "OneBack$Reader" "place" "I") ∈ GT := GT_t 257 (by decide +kernel) rfl
theorem tw258 : (Jvm.Cond.fieldLink "OneBack$Reader" (21 : Nat) "OneBack$Reader" "town" "LOneBack$Town;") ∈ GT := GT_t 258 (by decide +kernel) rfl
theorem tw259 : (Jvm.Cond.fieldLink "OneBack$Told" (61 : Nat) "OneBack$Reader" "town" "LOneBack$Town;") ∈ GT := GT_t 259 (by decide +kernel) rfl
theorem tw260 : (Jvm.Cond.fieldLink "OneBack$Reader" (28 : Nat) "OneBack$Reader" "law" "LOneBack$Law;") ∈ GT := GT_t 260 (by decide +kernel) rfl
theorem tw261 : (Jvm.Cond.fieldLink "OneBack$Told" (71 : Nat) "OneBack$Reader" "law" "LOneBack$Law;") ∈ GT := GT_t 261 (by decide +kernel) rfl
theorem tw262 : (Jvm.Cond.fieldLink "OneBack$Reader" (35 : Nat) "OneBack$Reader" "nights" "LOneBack$Nights;") ∈ GT := GT_t 262 (by decide +kernel) rfl
theorem tw263 : (Jvm.Cond.fieldLink "OneBack$Told" (78 : Nat) "OneBack$Reader" "nights" "LOneBack$Nights;") ∈ GT := GT_t 263 (by decide +kernel) rfl
theorem tw264 : (Jvm.Cond.fieldLink "OneBack$Reader" (42 : Nat) "OneBack$Reader" "sight" "LOneBack$Sight;") ∈ GT := GT_t 264 (by decide +kernel) rfl
theorem tw265 : (Jvm.Cond.fieldLink "OneBack$Told" (84 : Nat) "OneBack$Reader" "sight" "LOneBack$Sight;") ∈ GT := GT_t 265 (by decide +kernel) rfl
theorem tw266 : (Jvm.Cond.fieldLink "OneBack$Reader" (46 : Nat) "OneBack$Reader" "tape" "[B") ∈ GT := GT_t 266 (by decide +kernel) rfl
theorem tw267 : (Jvm.Cond.fieldLink "OneBack$Reader" (50 : Nat) "OneBack$Reader" "length" "I") ∈ GT := GT_t 267 (by decide +kernel) rfl
theorem tw268 : (Jvm.Cond.fieldLink "OneBack$Reader" (53 : Nat) "OneBack$Reader" "next" "I") ∈ GT := GT_t 268 (by decide +kernel) rfl
theorem tw269 : (Jvm.Cond.fieldLink "OneBack$Reader" (56 : Nat) "OneBack$Reader" "token" "I") ∈ GT := GT_t 269 (by decide +kernel) rfl
theorem tw270 : (Jvm.Cond.fieldLink "OneBack$Reader" (59 : Nat) "OneBack$Reader" "start" "I") ∈ GT := GT_t 270 (by decide +kernel) rfl
theorem tw271 : (Jvm.Cond.fieldLink "OneBack$Reader" (62 : Nat) "OneBack$Reader" "value" "I") ∈ GT := GT_t 271 (by decide +kernel) rfl
theorem tw272 : (Jvm.Cond.fieldLink "OneBack$Reader" (65 : Nat) "OneBack$Reader" "numbers" "[I") ∈ GT := GT_t 272 (by decide +kernel) rfl
theorem tw273 : (Jvm.Cond.fieldLink "OneBack$Reader" (69 : Nat) "OneBack$Reader" "broken" "Z") ∈ GT := GT_t 273 (by decide +kernel) rfl
theorem tw274 : (Jvm.Cond.fieldLink "OneBack$Reader" (73 : Nat) "OneBack$Reader" "topHouse" "I") ∈ GT := GT_t 274 (by decide +kernel) rfl
theorem tw275 : (Jvm.Cond.fieldLink "OneBack$Reader" (76 : Nat) "OneBack$Reader" "topThief" "I") ∈ GT := GT_t 275 (by decide +kernel) rfl
theorem tw309 : (Jvm.Cond.classLink "OneBack" (27 : Nat) "OneBack$Walk") ∈ GT := GT_t 309 (by decide +kernel) rfl
theorem tw310 : (Jvm.Cond.instantiable "OneBack$Walk" (17 : Nat)) ∈ GT := GT_t 310 (by decide +kernel) rfl
theorem tw311 : (Jvm.Cond.methodLink "OneBack" (37 : Nat) ({ cls := "OneBack$Walk", name := "<init>", desc := "(LOneBack$Town;LOneBack$Law;)V" } : Jvm.MethodName)) ∈ GT := GT_t 311 (by decide +kernel) rfl
theorem tw312 : (Jvm.Cond.instanceMethod ({ cls := "OneBack$Walk", name := "<init>", desc := "(LOneBack$Town;LOneBack$Law;)V" } : Jvm.MethodName)) ∈ GT := GT_t 312 (by decide +kernel) rfl
theorem tw313 : (Jvm.Cond.code ({ cls := "OneBack$Walk", name := "<init>", desc := "(LOneBack$Town;LOneBack$Law;)V" } : Jvm.MethodName) prog_11_method_1_code (3 : Nat) (Option.none : Option Jvm.ClassFile.FieldType)) ∈ GT := GT_t 313 (by decide +kernel) rfl
theorem tw314 : (Jvm.Cond.methodLink "OneBack$Walk" (3 : Nat) ({ cls := "java/lang/Object", name := "<init>", desc := "()V" } : Jvm.MethodName)) ∈ GT := GT_t 314 (by decide +kernel) rfl
theorem tw315 : (Jvm.Cond.fieldLink "OneBack$Walk" (58 : Nat) "OneBack$Walk" "town" "LOneBack$Town;") ∈ GT := GT_t 315 (by decide +kernel) rfl
theorem tw316 : (Jvm.Cond.fieldLink "OneBack$Views" (28 : Nat) "OneBack$Walk" "town" "LOneBack$Town;") ∈ GT := GT_t 316 (by decide +kernel) rfl
theorem tw317 : (Jvm.Cond.fieldLink "OneBack" (206 : Nat) "OneBack$Walk" "town" "LOneBack$Town;") ∈ GT := GT_t 317 (by decide +kernel) rfl
theorem tw318 : (Jvm.Cond.fieldLink "OneBack$Walk" (62 : Nat) "OneBack$Walk" "law" "LOneBack$Law;") ∈ GT := GT_t 318 (by decide +kernel) rfl
theorem tw319 : (Jvm.Cond.fieldLink "OneBack$Views" (86 : Nat) "OneBack$Walk" "law" "LOneBack$Law;") ∈ GT := GT_t 319 (by decide +kernel) rfl
theorem tw320 : (Jvm.Cond.fieldLink "OneBack$Walk" (9 : Nat) "OneBack$Walk" "has" "[I") ∈ GT := GT_t 320 (by decide +kernel) rfl
theorem tw321 : (Jvm.Cond.fieldLink "OneBack" (210 : Nat) "OneBack$Walk" "has" "[I") ∈ GT := GT_t 321 (by decide +kernel) rfl
theorem tw322 : (Jvm.Cond.fieldLink "OneBack$Views" (146 : Nat) "OneBack$Walk" "has" "[I") ∈ GT := GT_t 322 (by decide +kernel) rfl
theorem tw323 : (Jvm.Cond.fieldLink "OneBack$Walk" (15 : Nat) "OneBack$Walk" "bag" "[I") ∈ GT := GT_t 323 (by decide +kernel) rfl
theorem tw324 : (Jvm.Cond.fieldLink "OneBack" (211 : Nat) "OneBack$Walk" "bag" "[I") ∈ GT := GT_t 324 (by decide +kernel) rfl
theorem tw325 : (Jvm.Cond.fieldLink "OneBack$Views" (143 : Nat) "OneBack$Walk" "bag" "[I") ∈ GT := GT_t 325 (by decide +kernel) rfl
theorem tw326 : (Jvm.Cond.fieldLink "OneBack$Walk" (18 : Nat) "OneBack$Walk" "took" "[I") ∈ GT := GT_t 326 (by decide +kernel) rfl
theorem tw327 : (Jvm.Cond.fieldLink "OneBack$Views" (72 : Nat) "OneBack$Walk" "took" "[I") ∈ GT := GT_t 327 (by decide +kernel) rfl
theorem tw328 : (Jvm.Cond.fieldLink "OneBack" (214 : Nat) "OneBack$Walk" "took" "[I") ∈ GT := GT_t 328 (by decide +kernel) rfl
theorem tw329 : (Jvm.Cond.fieldLink "OneBack$Walk" (21 : Nat) "OneBack$Walk" "gave" "[I") ∈ GT := GT_t 329 (by decide +kernel) rfl
theorem tw330 : (Jvm.Cond.fieldLink "OneBack$Sight" (44 : Nat) "OneBack$Walk" "gave" "[I") ∈ GT := GT_t 330 (by decide +kernel) rfl
theorem tw331 : (Jvm.Cond.fieldLink "OneBack$Walk" (24 : Nat) "OneBack$Walk" "taken" "[I") ∈ GT := GT_t 331 (by decide +kernel) rfl
theorem tw332 : (Jvm.Cond.fieldLink "OneBack$Views" (45 : Nat) "OneBack$Walk" "taken" "[I") ∈ GT := GT_t 332 (by decide +kernel) rfl
theorem tw333 : (Jvm.Cond.fieldLink "OneBack$Walk" (27 : Nat) "OneBack$Walk" "given" "[I") ∈ GT := GT_t 333 (by decide +kernel) rfl
theorem tw334 : (Jvm.Cond.fieldLink "OneBack$Views" (49 : Nat) "OneBack$Walk" "given" "[I") ∈ GT := GT_t 334 (by decide +kernel) rfl
theorem tw335 : (Jvm.Cond.fieldLink "OneBack$Walk" (30 : Nat) "OneBack$Walk" "trace" "[I") ∈ GT := GT_t 335 (by decide +kernel) rfl
theorem tw336 : (Jvm.Cond.fieldLink "OneBack$Views" (56 : Nat) "OneBack$Walk" "trace" "[I") ∈ GT := GT_t 336 (by decide +kernel) rfl
theorem tw337 : (Jvm.Cond.fieldLink "OneBack$Walk" (33 : Nat) "OneBack$Walk" "takenTonight" "[I") ∈ GT := GT_t 337 (by decide +kernel) rfl
theorem tw338 : (Jvm.Cond.fieldLink "OneBack$Walk" (36 : Nat) "OneBack$Walk" "seenTonight" "[I") ∈ GT := GT_t 338 (by decide +kernel) rfl
theorem tw339 : (Jvm.Cond.fieldLink "OneBack$Walk" (39 : Nat) "OneBack$Walk" "lastTake" "[I") ∈ GT := GT_t 339 (by decide +kernel) rfl
theorem tw340 : (Jvm.Cond.fieldLink "OneBack$Views" (95 : Nat) "OneBack$Walk" "lastTake" "[I") ∈ GT := GT_t 340 (by decide +kernel) rfl
theorem tw341 : (Jvm.Cond.fieldLink "OneBack$Walk" (42 : Nat) "OneBack$Walk" "takes" "I") ∈ GT := GT_t 341 (by decide +kernel) rfl
theorem tw342 : (Jvm.Cond.fieldLink "OneBack$Walk" (46 : Nat) "OneBack$Walk" "caught" "I") ∈ GT := GT_t 342 (by decide +kernel) rfl
theorem tw343 : (Jvm.Cond.fieldLink "OneBack$Views" (15 : Nat) "OneBack$Walk" "caught" "I") ∈ GT := GT_t 343 (by decide +kernel) rfl
theorem tw344 : (Jvm.Cond.fieldLink "OneBack$Walk" (49 : Nat) "OneBack$Walk" "night" "I") ∈ GT := GT_t 344 (by decide +kernel) rfl
theorem tw345 : (Jvm.Cond.fieldLink "OneBack" (194 : Nat) "OneBack$Walk" "night" "I") ∈ GT := GT_t 345 (by decide +kernel) rfl
theorem tw346 : (Jvm.Cond.fieldLink "OneBack$Walk" (52 : Nat) "OneBack$Walk" "done" "I") ∈ GT := GT_t 346 (by decide +kernel) rfl
theorem tw347 : (Jvm.Cond.fieldLink "OneBack" (188 : Nat) "OneBack$Walk" "done" "I") ∈ GT := GT_t 347 (by decide +kernel) rfl
theorem tw348 : (Jvm.Cond.fieldLink "OneBack$Walk" (55 : Nat) "OneBack$Walk" "seed" "I") ∈ GT := GT_t 348 (by decide +kernel) rfl
theorem tw384 : (Jvm.Cond.classLink "OneBack" (44 : Nat) "OneBack$Supply") ∈ GT := GT_t 384 (by decide +kernel) rfl
theorem tw385 : (Jvm.Cond.instantiable "OneBack$Supply" (2 : Nat)) ∈ GT := GT_t 385 (by decide +kernel) rfl
theorem tw387 : (Jvm.Cond.instanceMethod ({ cls := "OneBack$Supply", name := "<init>", desc := "()V" } : Jvm.MethodName)) ∈ GT := GT_t 387 (by decide +kernel) rfl
theorem tw388 : (Jvm.Cond.code ({ cls := "OneBack$Supply", name := "<init>", desc := "()V" } : Jvm.MethodName) prog_7_method_1_code (1 : Nat) (Option.none : Option Jvm.ClassFile.FieldType)) ∈ GT := GT_t 388 (by decide +kernel) rfl
theorem tw389 : (Jvm.Cond.methodLink "OneBack$Supply" (3 : Nat) ({ cls := "java/lang/Object", name := "<init>", desc := "()V" } : Jvm.MethodName)) ∈ GT := GT_t 389 (by decide +kernel) rfl
theorem tw390 : (Jvm.Cond.fieldLink "OneBack$Supply" (11 : Nat) "OneBack$Supply" "costs" "[I") ∈ GT := GT_t 390 (by decide +kernel) rfl
theorem tw391 : (Jvm.Cond.fieldLink "OneBack$Supply" (15 : Nat) "OneBack$Supply" "nextCosts" "[I") ∈ GT := GT_t 391 (by decide +kernel) rfl
theorem tw397 : (Jvm.Cond.classLink "OneBack" (51 : Nat) "OneBack$Porter") ∈ GT := GT_t 397 (by decide +kernel) rfl
theorem tw398 : (Jvm.Cond.instantiable "OneBack$Porter" (5 : Nat)) ∈ GT := GT_t 398 (by decide +kernel) rfl
theorem tw399 : (Jvm.Cond.methodLink "OneBack" (53 : Nat) ({ cls := "OneBack$Porter", name := "<init>", desc := "(LOneBack$Town;)V" } : Jvm.MethodName)) ∈ GT := GT_t 399 (by decide +kernel) rfl
theorem tw400 : (Jvm.Cond.instanceMethod ({ cls := "OneBack$Porter", name := "<init>", desc := "(LOneBack$Town;)V" } : Jvm.MethodName)) ∈ GT := GT_t 400 (by decide +kernel) rfl
theorem tw401 : (Jvm.Cond.code ({ cls := "OneBack$Porter", name := "<init>", desc := "(LOneBack$Town;)V" } : Jvm.MethodName) prog_4_method_1_code (2 : Nat) (Option.none : Option Jvm.ClassFile.FieldType)) ∈ GT := GT_t 401 (by decide +kernel) rfl
theorem tw402 : (Jvm.Cond.methodLink "OneBack$Porter" (3 : Nat) ({ cls := "java/lang/Object", name := "<init>", desc := "()V" } : Jvm.MethodName)) ∈ GT := GT_t 402 (by decide +kernel) rfl
theorem tw403 : (Jvm.Cond.fieldLink "OneBack$Porter" (9 : Nat) "OneBack$Porter" "best" "[I") ∈ GT := GT_t 403 (by decide +kernel) rfl
theorem tw404 : (Jvm.Cond.fieldLink "OneBack" (317 : Nat) "OneBack$Porter" "best" "[I") ∈ GT := GT_t 404 (by decide +kernel) rfl
theorem tw405 : (Jvm.Cond.fieldLink "OneBack$Porter" (15 : Nat) "OneBack$Porter" "bestWorth" "I") ∈ GT := GT_t 405 (by decide +kernel) rfl
theorem tw406 : (Jvm.Cond.fieldLink "OneBack" (314 : Nat) "OneBack$Porter" "bestWorth" "I") ∈ GT := GT_t 406 (by decide +kernel) rfl
theorem tw407 : (Jvm.Cond.fieldLink "OneBack$Porter" (19 : Nat) "OneBack$Porter" "picked" "[I") ∈ GT := GT_t 407 (by decide +kernel) rfl
theorem tw408 : (Jvm.Cond.fieldLink "OneBack$Porter" (25 : Nat) "OneBack$Porter" "town" "LOneBack$Town;") ∈ GT := GT_t 408 (by decide +kernel) rfl
theorem tw409 : (Jvm.Cond.fieldLink "OneBack$Porter" (22 : Nat) "OneBack$Porter" "house" "I") ∈ GT := GT_t 409 (by decide +kernel) rfl
theorem tw421 : (Jvm.Cond.fieldLink "OneBack" (12 : Nat) "OneBack" "told" "LOneBack$Told;") ∈ GT := GT_t 421 (by decide +kernel) rfl
theorem tw422 : (Jvm.Cond.fieldLink "OneBack" (16 : Nat) "OneBack" "images" "[LOneBack$Told;") ∈ GT := GT_t 422 (by decide +kernel) rfl
theorem tw423 : (Jvm.Cond.fieldLink "OneBack" (23 : Nat) "OneBack" "reader" "LOneBack$Reader;") ∈ GT := GT_t 423 (by decide +kernel) rfl
theorem tw424 : (Jvm.Cond.fieldLink "OneBack" (40 : Nat) "OneBack" "walk" "LOneBack$Walk;") ∈ GT := GT_t 424 (by decide +kernel) rfl
theorem tw425 : (Jvm.Cond.fieldLink "OneBack" (47 : Nat) "OneBack" "supply" "LOneBack$Supply;") ∈ GT := GT_t 425 (by decide +kernel) rfl
theorem tw426 : (Jvm.Cond.fieldLink "OneBack" (56 : Nat) "OneBack" "porter" "LOneBack$Porter;") ∈ GT := GT_t 426 (by decide +kernel) rfl
theorem tw440 : (Jvm.Cond.methodLink "OneBackLaw" (13 : Nat) ({ cls := "OneBack", name := "feed", desc := "(IIIII)I" } : Jvm.MethodName)) ∈ GT := GT_t 440 (by decide +kernel) rfl
theorem tw441 : (Jvm.Cond.instanceMethod ({ cls := "OneBack", name := "feed", desc := "(IIIII)I" } : Jvm.MethodName)) ∈ GT := GT_t 441 (by decide +kernel) rfl
theorem tw442 : (Jvm.Cond.selects "OneBack" ({ cls := "OneBack", name := "feed", desc := "(IIIII)I" } : Jvm.MethodName) ({ cls := "OneBack", name := "feed", desc := "(IIIII)I" } : Jvm.MethodName)) ∈ GT := GT_t 442 (by decide +kernel) rfl
theorem tw443 : (Jvm.Cond.code ({ cls := "OneBack", name := "feed", desc := "(IIIII)I" } : Jvm.MethodName) prog_1_method_2_code (6 : Nat) (Option.some Jvm.ClassFile.FieldType.int)) ∈ GT := GT_t 443 (by decide +kernel) rfl
theorem tw444 : (Jvm.Cond.methodLink "OneBack" (64 : Nat) ({ cls := "OneBack$Told", name := "put", desc := "(I)V" } : Jvm.MethodName)) ∈ GT := GT_t 444 (by decide +kernel) rfl
theorem tw445 : (Jvm.Cond.instanceMethod ({ cls := "OneBack$Told", name := "put", desc := "(I)V" } : Jvm.MethodName)) ∈ GT := GT_t 445 (by decide +kernel) rfl
theorem tw446 : (Jvm.Cond.selects "OneBack$Told" ({ cls := "OneBack$Told", name := "put", desc := "(I)V" } : Jvm.MethodName) ({ cls := "OneBack$Told", name := "put", desc := "(I)V" } : Jvm.MethodName)) ∈ GT := GT_t 446 (by decide +kernel) rfl
theorem tw447 : (Jvm.Cond.code ({ cls := "OneBack$Told", name := "put", desc := "(I)V" } : Jvm.MethodName) prog_8_method_2_code (3 : Nat) (Option.none : Option Jvm.ClassFile.FieldType)) ∈ GT := GT_t 447 (by decide +kernel) rfl
theorem tw448 : (Jvm.Cond.methodLink "OneBackLaw" (18 : Nat) ({ cls := "OneBack", name := "end", desc := "(I)I" } : Jvm.MethodName)) ∈ GT := GT_t 448 (by decide +kernel) rfl
theorem tw449 : (Jvm.Cond.instanceMethod ({ cls := "OneBack", name := "end", desc := "(I)I" } : Jvm.MethodName)) ∈ GT := GT_t 449 (by decide +kernel) rfl
theorem tw450 : (Jvm.Cond.selects "OneBack" ({ cls := "OneBack", name := "end", desc := "(I)I" } : Jvm.MethodName) ({ cls := "OneBack", name := "end", desc := "(I)I" } : Jvm.MethodName)) ∈ GT := GT_t 450 (by decide +kernel) rfl
theorem tw451 : (Jvm.Cond.code ({ cls := "OneBack", name := "end", desc := "(I)I" } : Jvm.MethodName) prog_1_method_3_code (2 : Nat) (Option.some Jvm.ClassFile.FieldType.int)) ∈ GT := GT_t 451 (by decide +kernel) rfl
theorem tw452 : (Jvm.Cond.methodLink "OneBackLaw" (23 : Nat) ({ cls := "OneBack", name := "text", desc := "(II)I" } : Jvm.MethodName)) ∈ GT := GT_t 452 (by decide +kernel) rfl
theorem tw453 : (Jvm.Cond.instanceMethod ({ cls := "OneBack", name := "text", desc := "(II)I" } : Jvm.MethodName)) ∈ GT := GT_t 453 (by decide +kernel) rfl
theorem tw454 : (Jvm.Cond.selects "OneBack" ({ cls := "OneBack", name := "text", desc := "(II)I" } : Jvm.MethodName) ({ cls := "OneBack", name := "text", desc := "(II)I" } : Jvm.MethodName)) ∈ GT := GT_t 454 (by decide +kernel) rfl
theorem tw455 : (Jvm.Cond.code ({ cls := "OneBack", name := "text", desc := "(II)I" } : Jvm.MethodName) prog_1_method_4_code (5 : Nat) (Option.some Jvm.ClassFile.FieldType.int)) ∈ GT := GT_t 455 (by decide +kernel) rfl
theorem tw456 : (Jvm.Cond.methodLink "OneBack" (74 : Nat) ({ cls := "OneBack$Told", name := "slot", desc := "(II)I" } : Jvm.MethodName)) ∈ GT := GT_t 456 (by decide +kernel) rfl
theorem tw457 : (Jvm.Cond.instanceMethod ({ cls := "OneBack$Told", name := "slot", desc := "(II)I" } : Jvm.MethodName)) ∈ GT := GT_t 457 (by decide +kernel) rfl
theorem tw458 : (Jvm.Cond.selects "OneBack$Told" ({ cls := "OneBack$Told", name := "slot", desc := "(II)I" } : Jvm.MethodName) ({ cls := "OneBack$Told", name := "slot", desc := "(II)I" } : Jvm.MethodName)) ∈ GT := GT_t 458 (by decide +kernel) rfl
theorem tw459 : (Jvm.Cond.code ({ cls := "OneBack$Told", name := "slot", desc := "(II)I" } : Jvm.MethodName) prog_8_method_8_code (3 : Nat) (Option.some Jvm.ClassFile.FieldType.int)) ∈ GT := GT_t 459 (by decide +kernel) rfl
theorem tw460 : (Jvm.Cond.methodLink "OneBack$Told" (57 : Nat) ({ cls := "OneBack$Told", name := "isThere", desc := "(II)Z" } : Jvm.MethodName)) ∈ GT := GT_t 460 (by decide +kernel) rfl
theorem tw461 : (Jvm.Cond.instanceMethod ({ cls := "OneBack$Told", name := "isThere", desc := "(II)Z" } : Jvm.MethodName)) ∈ GT := GT_t 461 (by decide +kernel) rfl
theorem tw462 : (Jvm.Cond.selects "OneBack$Told" ({ cls := "OneBack$Told", name := "isThere", desc := "(II)Z" } : Jvm.MethodName) ({ cls := "OneBack$Told", name := "isThere", desc := "(II)Z" } : Jvm.MethodName)) ∈ GT := GT_t 462 (by decide +kernel) rfl
theorem tw463 : (Jvm.Cond.code ({ cls := "OneBack$Told", name := "isThere", desc := "(II)Z" } : Jvm.MethodName) prog_8_method_3_code (3 : Nat) (Option.some Jvm.ClassFile.FieldType.boolean)) ∈ GT := GT_t 463 (by decide +kernel) rfl
theorem tw464 : (Jvm.Cond.methodLink "OneBack" (82 : Nat) ({ cls := "OneBack$Reader", name := "read", desc := "([BII)V" } : Jvm.MethodName)) ∈ GT := GT_t 464 (by decide +kernel) rfl
theorem tw465 : (Jvm.Cond.instanceMethod ({ cls := "OneBack$Reader", name := "read", desc := "([BII)V" } : Jvm.MethodName)) ∈ GT := GT_t 465 (by decide +kernel) rfl
theorem tw466 : (Jvm.Cond.selects "OneBack$Reader" ({ cls := "OneBack$Reader", name := "read", desc := "([BII)V" } : Jvm.MethodName) ({ cls := "OneBack$Reader", name := "read", desc := "([BII)V" } : Jvm.MethodName)) ∈ GT := GT_t 466 (by decide +kernel) rfl
theorem tw467 : (Jvm.Cond.code ({ cls := "OneBack$Reader", name := "read", desc := "([BII)V" } : Jvm.MethodName) prog_5_method_2_code (5 : Nat) (Option.none : Option Jvm.ClassFile.FieldType)) ∈ GT := GT_t 467 (by decide +kernel) rfl
theorem tw468 : (Jvm.Cond.methodLink "OneBack$Reader" (79 : Nat) ({ cls := "java/lang/Math", name := "min", desc := "(II)I" } : Jvm.MethodName)) ∈ GT := GT_t 468 (by decide +kernel) rfl
theorem tw469 : (Jvm.Cond.static ({ cls := "java/lang/Math", name := "min", desc := "(II)I" } : Jvm.MethodName)) ∈ GT := GT_t 469 (by decide +kernel) rfl
theorem tw470 : (Jvm.Cond.code ({ cls := "java/lang/Math", name := "min", desc := "(II)I" } : Jvm.MethodName) prog_15_method_69_code (2 : Nat) (Option.some Jvm.ClassFile.FieldType.int)) ∈ GT := GT_t 470 (by decide +kernel) rfl
theorem tw471 : (Jvm.Cond.methodLink "OneBack$Reader" (85 : Nat) ({ cls := "OneBack$Reader", name := "begin", desc := "([BI)V" } : Jvm.MethodName)) ∈ GT := GT_t 471 (by decide +kernel) rfl
theorem tw473 : (Jvm.Cond.instanceMethod ({ cls := "OneBack$Reader", name := "begin", desc := "([BI)V" } : Jvm.MethodName)) ∈ GT := GT_t 473 (by decide +kernel) rfl
theorem tw474 : (Jvm.Cond.code ({ cls := "OneBack$Reader", name := "begin", desc := "([BI)V" } : Jvm.MethodName) prog_5_method_3_code (3 : Nat) (Option.none : Option Jvm.ClassFile.FieldType)) ∈ GT := GT_t 474 (by decide +kernel) rfl
theorem tw475 : (Jvm.Cond.methodLink "OneBack$Reader" (106 : Nat) ({ cls := "OneBack$Town", name := "clear", desc := "()V" } : Jvm.MethodName)) ∈ GT := GT_t 475 (by decide +kernel) rfl
theorem tw476 : (Jvm.Cond.methodLink "OneBack$Reader" (109 : Nat) ({ cls := "OneBack$Law", name := "clear", desc := "()V" } : Jvm.MethodName)) ∈ GT := GT_t 476 (by decide +kernel) rfl
theorem tw477 : (Jvm.Cond.instanceMethod ({ cls := "OneBack$Law", name := "clear", desc := "()V" } : Jvm.MethodName)) ∈ GT := GT_t 477 (by decide +kernel) rfl
theorem tw478 : (Jvm.Cond.selects "OneBack$Law" ({ cls := "OneBack$Law", name := "clear", desc := "()V" } : Jvm.MethodName) ({ cls := "OneBack$Law", name := "clear", desc := "()V" } : Jvm.MethodName)) ∈ GT := GT_t 478 (by decide +kernel) rfl
theorem tw479 : (Jvm.Cond.code ({ cls := "OneBack$Law", name := "clear", desc := "()V" } : Jvm.MethodName) prog_2_method_2_code (1 : Nat) (Option.none : Option Jvm.ClassFile.FieldType)) ∈ GT := GT_t 479 (by decide +kernel) rfl
theorem tw480 : (Jvm.Cond.methodLink "OneBack$Reader" (110 : Nat) ({ cls := "OneBack$Nights", name := "clear", desc := "()V" } : Jvm.MethodName)) ∈ GT := GT_t 480 (by decide +kernel) rfl
theorem tw481 : (Jvm.Cond.instanceMethod ({ cls := "OneBack$Nights", name := "clear", desc := "()V" } : Jvm.MethodName)) ∈ GT := GT_t 481 (by decide +kernel) rfl
theorem tw482 : (Jvm.Cond.selects "OneBack$Nights" ({ cls := "OneBack$Nights", name := "clear", desc := "()V" } : Jvm.MethodName) ({ cls := "OneBack$Nights", name := "clear", desc := "()V" } : Jvm.MethodName)) ∈ GT := GT_t 482 (by decide +kernel) rfl
theorem tw483 : (Jvm.Cond.code ({ cls := "OneBack$Nights", name := "clear", desc := "()V" } : Jvm.MethodName) prog_3_method_2_code (1 : Nat) (Option.none : Option Jvm.ClassFile.FieldType)) ∈ GT := GT_t 483 (by decide +kernel) rfl
theorem tw484 : (Jvm.Cond.methodLink "OneBack$Reader" (111 : Nat) ({ cls := "OneBack$Sight", name := "clear", desc := "()V" } : Jvm.MethodName)) ∈ GT := GT_t 484 (by decide +kernel) rfl
theorem tw485 : (Jvm.Cond.methodLink "OneBack$Reader" (89 : Nat) ({ cls := "OneBack$Reader", name := "step", desc := "()V" } : Jvm.MethodName)) ∈ GT := GT_t 485 (by decide +kernel) rfl
theorem tw487 : (Jvm.Cond.instanceMethod ({ cls := "OneBack$Reader", name := "step", desc := "()V" } : Jvm.MethodName)) ∈ GT := GT_t 487 (by decide +kernel) rfl
theorem tw488 : (Jvm.Cond.code ({ cls := "OneBack$Reader", name := "step", desc := "()V" } : Jvm.MethodName) prog_5_method_15_code (2 : Nat) (Option.none : Option Jvm.ClassFile.FieldType)) ∈ GT := GT_t 488 (by decide +kernel) rfl
theorem tw489 : (Jvm.Cond.methodLink "OneBack$Reader" (195 : Nat) ({ cls := "OneBack$Reader", name := "byteAt", desc := "(I)I" } : Jvm.MethodName)) ∈ GT := GT_t 489 (by decide +kernel) rfl
theorem tw491 : (Jvm.Cond.instanceMethod ({ cls := "OneBack$Reader", name := "byteAt", desc := "(I)I" } : Jvm.MethodName)) ∈ GT := GT_t 491 (by decide +kernel) rfl
theorem tw492 : (Jvm.Cond.code ({ cls := "OneBack$Reader", name := "byteAt", desc := "(I)I" } : Jvm.MethodName) prog_5_method_17_code (2 : Nat) (Option.some Jvm.ClassFile.FieldType.int)) ∈ GT := GT_t 492 (by decide +kernel) rfl
theorem tw493 : (Jvm.Cond.methodLink "OneBack$Reader" (248 : Nat) ({ cls := "OneBack$Reader", name := "isBlank", desc := "(I)Z" } : Jvm.MethodName)) ∈ GT := GT_t 493 (by decide +kernel) rfl
theorem tw494 : (Jvm.Cond.static ({ cls := "OneBack$Reader", name := "isBlank", desc := "(I)Z" } : Jvm.MethodName)) ∈ GT := GT_t 494 (by decide +kernel) rfl
theorem tw495 : (Jvm.Cond.code ({ cls := "OneBack$Reader", name := "isBlank", desc := "(I)Z" } : Jvm.MethodName) prog_5_method_18_code (1 : Nat) (Option.some Jvm.ClassFile.FieldType.boolean)) ∈ GT := GT_t 495 (by decide +kernel) rfl
theorem tw496 : (Jvm.Cond.methodLink "OneBack$Reader" (251 : Nat) ({ cls := "OneBack$Reader", name := "isLetter", desc := "(I)Z" } : Jvm.MethodName)) ∈ GT := GT_t 496 (by decide +kernel) rfl
theorem tw497 : (Jvm.Cond.static ({ cls := "OneBack$Reader", name := "isLetter", desc := "(I)Z" } : Jvm.MethodName)) ∈ GT := GT_t 497 (by decide +kernel) rfl
theorem tw498 : (Jvm.Cond.code ({ cls := "OneBack$Reader", name := "isLetter", desc := "(I)Z" } : Jvm.MethodName) prog_5_method_19_code (1 : Nat) (Option.some Jvm.ClassFile.FieldType.boolean)) ∈ GT := GT_t 498 (by decide +kernel) rfl
theorem tw499 : (Jvm.Cond.methodLink "OneBack$Reader" (254 : Nat) ({ cls := "OneBack$Reader", name := "isDigit", desc := "(I)Z" } : Jvm.MethodName)) ∈ GT := GT_t 499 (by decide +kernel) rfl
theorem tw500 : (Jvm.Cond.static ({ cls := "OneBack$Reader", name := "isDigit", desc := "(I)Z" } : Jvm.MethodName)) ∈ GT := GT_t 500 (by decide +kernel) rfl
theorem tw501 : (Jvm.Cond.code ({ cls := "OneBack$Reader", name := "isDigit", desc := "(I)Z" } : Jvm.MethodName) prog_5_method_20_code (1 : Nat) (Option.some Jvm.ClassFile.FieldType.boolean)) ∈ GT := GT_t 501 (by decide +kernel) rfl
theorem tw502 : (Jvm.Cond.methodLink "OneBack$Reader" (257 : Nat) ({ cls := "OneBack$Reader", name := "stepNumber", desc := "()V" } : Jvm.MethodName)) ∈ GT := GT_t 502 (by decide +kernel) rfl
theorem tw504 : (Jvm.Cond.instanceMethod ({ cls := "OneBack$Reader", name := "stepNumber", desc := "()V" } : Jvm.MethodName)) ∈ GT := GT_t 504 (by decide +kernel) rfl
theorem tw505 : (Jvm.Cond.code ({ cls := "OneBack$Reader", name := "stepNumber", desc := "()V" } : Jvm.MethodName) prog_5_method_16_code (1 : Nat) (Option.none : Option Jvm.ClassFile.FieldType)) ∈ GT := GT_t 505 (by decide +kernel) rfl
theorem tw506 : (Jvm.Cond.methodLink "OneBack$Reader" (92 : Nat) ({ cls := "OneBack$Reader", name := "readLine", desc := "(I)V" } : Jvm.MethodName)) ∈ GT := GT_t 506 (by decide +kernel) rfl
theorem tw508 : (Jvm.Cond.instanceMethod ({ cls := "OneBack$Reader", name := "readLine", desc := "(I)V" } : Jvm.MethodName)) ∈ GT := GT_t 508 (by decide +kernel) rfl
theorem tw509 : (Jvm.Cond.code ({ cls := "OneBack$Reader", name := "readLine", desc := "(I)V" } : Jvm.MethodName) prog_5_method_6_code (4 : Nat) (Option.none : Option Jvm.ClassFile.FieldType)) ∈ GT := GT_t 509 (by decide +kernel) rfl
theorem tw510 : (Jvm.Cond.methodLink "OneBack$Reader" (112 : Nat) ({ cls := "OneBack$Reader", name := "lineOf", desc := "(I)I" } : Jvm.MethodName)) ∈ GT := GT_t 510 (by decide +kernel) rfl
theorem tw512 : (Jvm.Cond.instanceMethod ({ cls := "OneBack$Reader", name := "lineOf", desc := "(I)I" } : Jvm.MethodName)) ∈ GT := GT_t 512 (by decide +kernel) rfl
theorem tw513 : (Jvm.Cond.code ({ cls := "OneBack$Reader", name := "lineOf", desc := "(I)I" } : Jvm.MethodName) prog_5_method_9_code (3 : Nat) (Option.some Jvm.ClassFile.FieldType.int)) ∈ GT := GT_t 513 (by decide +kernel) rfl
theorem tw514 : (Jvm.Cond.fieldLink "OneBack$Reader" (142 : Nat) "OneBack$Reader" "FIRST_LINE" "[I") ∈ GT := GT_t 514 (by decide +kernel) rfl
theorem tw516 : (Jvm.Cond.methodLink "OneBack$Reader" (145 : Nat) ({ cls := "OneBack$Reader", name := "wordOf", desc := "(I)Ljava/lang/String;" } : Jvm.MethodName)) ∈ GT := GT_t 516 (by decide +kernel) rfl
theorem tw517 : (Jvm.Cond.static ({ cls := "OneBack$Reader", name := "wordOf", desc := "(I)Ljava/lang/String;" } : Jvm.MethodName)) ∈ GT := GT_t 517 (by decide +kernel) rfl
theorem tw518 : (Jvm.Cond.code ({ cls := "OneBack$Reader", name := "wordOf", desc := "(I)Ljava/lang/String;" } : Jvm.MethodName) prog_5_method_10_code (1 : Nat) (Option.some (Jvm.ClassFile.FieldType.object "java/lang/String"))) ∈ GT := GT_t 518 (by decide +kernel) rfl
theorem tw538 : (Jvm.Cond.methodLink "OneBack$Reader" (149 : Nat) ({ cls := "OneBack$Reader", name := "isWord", desc := "(Ljava/lang/String;)Z" } : Jvm.MethodName)) ∈ GT := GT_t 538 (by decide +kernel) rfl
theorem tw540 : (Jvm.Cond.instanceMethod ({ cls := "OneBack$Reader", name := "isWord", desc := "(Ljava/lang/String;)Z" } : Jvm.MethodName)) ∈ GT := GT_t 540 (by decide +kernel) rfl
theorem tw541 : (Jvm.Cond.code ({ cls := "OneBack$Reader", name := "isWord", desc := "(Ljava/lang/String;)Z" } : Jvm.MethodName) prog_5_method_11_code (3 : Nat) (Option.some Jvm.ClassFile.FieldType.boolean)) ∈ GT := GT_t 541 (by decide +kernel) rfl
theorem tw542 : (Jvm.Cond.methodLink "OneBack$Reader" (190 : Nat) ({ cls := "java/lang/String", name := "length", desc := "()I" } : Jvm.MethodName)) ∈ GT := GT_t 542 (by decide +kernel) rfl
theorem tw543 : (Jvm.Cond.instanceMethod ({ cls := "java/lang/String", name := "length", desc := "()I" } : Jvm.MethodName)) ∈ GT := GT_t 543 (by decide +kernel) rfl
theorem tw544 : (Jvm.Cond.selects "java/lang/String" ({ cls := "java/lang/String", name := "length", desc := "()I" } : Jvm.MethodName) ({ cls := "java/lang/String", name := "length", desc := "()I" } : Jvm.MethodName)) ∈ GT := GT_t 544 (by decide +kernel) rfl
theorem tw545 : (Jvm.Cond.code ({ cls := "java/lang/String", name := "length", desc := "()I" } : Jvm.MethodName) prog_16_method_54_code (1 : Nat) (Option.some Jvm.ClassFile.FieldType.int)) ∈ GT := GT_t 545 (by decide +kernel) rfl
theorem tw546 : (Jvm.Cond.methodLink "java/lang/String" (335 : Nat) ({ cls := "java/lang/String", name := "coder", desc := "()B" } : Jvm.MethodName)) ∈ GT := GT_t 546 (by decide +kernel) rfl
theorem tw547 : (Jvm.Cond.instanceMethod ({ cls := "java/lang/String", name := "coder", desc := "()B" } : Jvm.MethodName)) ∈ GT := GT_t 547 (by decide +kernel) rfl
theorem tw548 : (Jvm.Cond.selects "java/lang/String" ({ cls := "java/lang/String", name := "coder", desc := "()B" } : Jvm.MethodName) ({ cls := "java/lang/String", name := "coder", desc := "()B" } : Jvm.MethodName)) ∈ GT := GT_t 548 (by decide +kernel) rfl
theorem tw549 : (Jvm.Cond.code ({ cls := "java/lang/String", name := "coder", desc := "()B" } : Jvm.MethodName) prog_16_method_152_code (1 : Nat) (Option.some Jvm.ClassFile.FieldType.byte)) ∈ GT := GT_t 549 (by decide +kernel) rfl
theorem tw550 : (Jvm.Cond.fieldLink "java/lang/String" (38 : Nat) "java/lang/String" "COMPACT_STRINGS" "Z") ∈ GT := GT_t 550 (by decide +kernel) rfl
theorem tw552 : (Jvm.Cond.methodLink "OneBack$Reader" (198 : Nat) ({ cls := "java/lang/String", name := "charAt", desc := "(I)C" } : Jvm.MethodName)) ∈ GT := GT_t 552 (by decide +kernel) rfl
theorem tw553 : (Jvm.Cond.instanceMethod ({ cls := "java/lang/String", name := "charAt", desc := "(I)C" } : Jvm.MethodName)) ∈ GT := GT_t 553 (by decide +kernel) rfl
theorem tw554 : (Jvm.Cond.selects "java/lang/String" ({ cls := "java/lang/String", name := "charAt", desc := "(I)C" } : Jvm.MethodName) ({ cls := "java/lang/String", name := "charAt", desc := "(I)C" } : Jvm.MethodName)) ∈ GT := GT_t 554 (by decide +kernel) rfl
theorem tw555 : (Jvm.Cond.code ({ cls := "java/lang/String", name := "charAt", desc := "(I)C" } : Jvm.MethodName) prog_16_method_56_code (2 : Nat) (Option.some Jvm.ClassFile.FieldType.char)) ∈ GT := GT_t 555 (by decide +kernel) rfl
theorem tw556 : (Jvm.Cond.methodLink "java/lang/String" (492 : Nat) ({ cls := "java/lang/String", name := "isLatin1", desc := "()Z" } : Jvm.MethodName)) ∈ GT := GT_t 556 (by decide +kernel) rfl
theorem tw557 : (Jvm.Cond.instanceMethod ({ cls := "java/lang/String", name := "isLatin1", desc := "()Z" } : Jvm.MethodName)) ∈ GT := GT_t 557 (by decide +kernel) rfl
theorem tw558 : (Jvm.Cond.selects "java/lang/String" ({ cls := "java/lang/String", name := "isLatin1", desc := "()Z" } : Jvm.MethodName) ({ cls := "java/lang/String", name := "isLatin1", desc := "()Z" } : Jvm.MethodName)) ∈ GT := GT_t 558 (by decide +kernel) rfl
theorem tw559 : (Jvm.Cond.code ({ cls := "java/lang/String", name := "isLatin1", desc := "()Z" } : Jvm.MethodName) prog_16_method_154_code (1 : Nat) (Option.some Jvm.ClassFile.FieldType.boolean)) ∈ GT := GT_t 559 (by decide +kernel) rfl
theorem tw560 : (Jvm.Cond.methodLink "java/lang/String" (495 : Nat) ({ cls := "java/lang/StringLatin1", name := "charAt", desc := "([BI)C" } : Jvm.MethodName)) ∈ GT := GT_t 560 (by decide +kernel) rfl
theorem tw561 : (Jvm.Cond.static ({ cls := "java/lang/StringLatin1", name := "charAt", desc := "([BI)C" } : Jvm.MethodName)) ∈ GT := GT_t 561 (by decide +kernel) rfl
theorem tw562 : (Jvm.Cond.code ({ cls := "java/lang/StringLatin1", name := "charAt", desc := "([BI)C" } : Jvm.MethodName) prog_17_method_2_code (2 : Nat) (Option.some Jvm.ClassFile.FieldType.char)) ∈ GT := GT_t 562 (by decide +kernel) rfl
theorem tw563 : (Jvm.Cond.methodLink "java/lang/StringLatin1" (9 : Nat) ({ cls := "java/lang/String", name := "checkIndex", desc := "(II)V" } : Jvm.MethodName)) ∈ GT := GT_t 563 (by decide +kernel) rfl
theorem tw564 : (Jvm.Cond.static ({ cls := "java/lang/String", name := "checkIndex", desc := "(II)V" } : Jvm.MethodName)) ∈ GT := GT_t 564 (by decide +kernel) rfl
theorem tw565 : (Jvm.Cond.code ({ cls := "java/lang/String", name := "checkIndex", desc := "(II)V" } : Jvm.MethodName) prog_16_method_155_code (2 : Nat) (Option.none : Option Jvm.ClassFile.FieldType)) ∈ GT := GT_t 565 (by decide +kernel) rfl
theorem tw566 : (Jvm.Cond.fieldLink "java/lang/String" (1053 : Nat) "jdk/internal/util/Preconditions" "SIOOBE_FORMATTER" "Ljava/util/function/BiFunction;") ∈ GT := GT_t 566 (by decide +kernel) rfl
theorem tw568 : (Jvm.Cond.methodLink "java/lang/String" (1059 : Nat) ({ cls := "jdk/internal/util/Preconditions", name := "checkIndex", desc := "(IILjava/util/function/BiFunction;)I" } : Jvm.MethodName)) ∈ GT := GT_t 568 (by decide +kernel) rfl
theorem tw569 : (Jvm.Cond.static ({ cls := "jdk/internal/util/Preconditions", name := "checkIndex", desc := "(IILjava/util/function/BiFunction;)I" } : Jvm.MethodName)) ∈ GT := GT_t 569 (by decide +kernel) rfl
theorem tw570 : (Jvm.Cond.code ({ cls := "jdk/internal/util/Preconditions", name := "checkIndex", desc := "(IILjava/util/function/BiFunction;)I" } : Jvm.MethodName) prog_20_method_11_code (3 : Nat) (Option.some Jvm.ClassFile.FieldType.int)) ∈ GT := GT_t 570 (by decide +kernel) rfl
theorem tw571 : (Jvm.Cond.methodLink "java/lang/String" (498 : Nat) ({ cls := "java/lang/StringUTF16", name := "charAt", desc := "([BI)C" } : Jvm.MethodName)) ∈ GT := GT_t 571 (by decide +kernel) rfl
theorem tw572 : (Jvm.Cond.static ({ cls := "java/lang/StringUTF16", name := "charAt", desc := "([BI)C" } : Jvm.MethodName)) ∈ GT := GT_t 572 (by decide +kernel) rfl
theorem tw573 : (Jvm.Cond.code ({ cls := "java/lang/StringUTF16", name := "charAt", desc := "([BI)C" } : Jvm.MethodName) prog_18_method_83_code (2 : Nat) (Option.some Jvm.ClassFile.FieldType.char)) ∈ GT := GT_t 573 (by decide +kernel) rfl
theorem tw574 : (Jvm.Cond.methodLink "java/lang/StringUTF16" (67 : Nat) ({ cls := "java/lang/StringUTF16", name := "checkIndex", desc := "(I[B)V" } : Jvm.MethodName)) ∈ GT := GT_t 574 (by decide +kernel) rfl
theorem tw575 : (Jvm.Cond.static ({ cls := "java/lang/StringUTF16", name := "checkIndex", desc := "(I[B)V" } : Jvm.MethodName)) ∈ GT := GT_t 575 (by decide +kernel) rfl
theorem tw576 : (Jvm.Cond.code ({ cls := "java/lang/StringUTF16", name := "checkIndex", desc := "(I[B)V" } : Jvm.MethodName) prog_18_method_91_code (2 : Nat) (Option.none : Option Jvm.ClassFile.FieldType)) ∈ GT := GT_t 576 (by decide +kernel) rfl
theorem tw577 : (Jvm.Cond.methodLink "java/lang/StringUTF16" (48 : Nat) ({ cls := "java/lang/StringUTF16", name := "length", desc := "([B)I" } : Jvm.MethodName)) ∈ GT := GT_t 577 (by decide +kernel) rfl
theorem tw578 : (Jvm.Cond.static ({ cls := "java/lang/StringUTF16", name := "length", desc := "([B)I" } : Jvm.MethodName)) ∈ GT := GT_t 578 (by decide +kernel) rfl
theorem tw579 : (Jvm.Cond.code ({ cls := "java/lang/StringUTF16", name := "length", desc := "([B)I" } : Jvm.MethodName) prog_18_method_6_code (1 : Nat) (Option.some Jvm.ClassFile.FieldType.int)) ∈ GT := GT_t 579 (by decide +kernel) rfl
theorem tw580 : (Jvm.Cond.methodLink "java/lang/StringUTF16" (414 : Nat) ({ cls := "java/lang/String", name := "checkIndex", desc := "(II)V" } : Jvm.MethodName)) ∈ GT := GT_t 580 (by decide +kernel) rfl
theorem tw581 : (Jvm.Cond.methodLink "java/lang/StringUTF16" (71 : Nat) ({ cls := "java/lang/StringUTF16", name := "getChar", desc := "([BI)C" } : Jvm.MethodName)) ∈ GT := GT_t 581 (by decide +kernel) rfl
theorem tw582 : (Jvm.Cond.static ({ cls := "java/lang/StringUTF16", name := "getChar", desc := "([BI)C" } : Jvm.MethodName)) ∈ GT := GT_t 582 (by decide +kernel) rfl
theorem tw583 : (Jvm.Cond.code ({ cls := "java/lang/StringUTF16", name := "getChar", desc := "([BI)C" } : Jvm.MethodName) prog_18_method_5_code (2 : Nat) (Option.some Jvm.ClassFile.FieldType.char)) ∈ GT := GT_t 583 (by decide +kernel) rfl
theorem tw584 : (Jvm.Cond.fieldLink "java/lang/StringUTF16" (44 : Nat) "java/lang/StringUTF16" "$assertionsDisabled" "Z") ∈ GT := GT_t 584 (by decide +kernel) rfl
theorem tw586 : (Jvm.Cond.fieldLink "java/lang/StringUTF16" (59 : Nat) "java/lang/StringUTF16" "HI_BYTE_SHIFT" "I") ∈ GT := GT_t 586 (by decide +kernel) rfl
theorem tw588 : (Jvm.Cond.fieldLink "java/lang/StringUTF16" (63 : Nat) "java/lang/StringUTF16" "LO_BYTE_SHIFT" "I") ∈ GT := GT_t 588 (by decide +kernel) rfl
theorem tw590 : (Jvm.Cond.methodLink "OneBack$Reader" (116 : Nat) ({ cls := "OneBack$Reader", name := "breakOff", desc := "()V" } : Jvm.MethodName)) ∈ GT := GT_t 590 (by decide +kernel) rfl
theorem tw592 : (Jvm.Cond.instanceMethod ({ cls := "OneBack$Reader", name := "breakOff", desc := "()V" } : Jvm.MethodName)) ∈ GT := GT_t 592 (by decide +kernel) rfl
theorem tw593 : (Jvm.Cond.code ({ cls := "OneBack$Reader", name := "breakOff", desc := "()V" } : Jvm.MethodName) prog_5_method_5_code (1 : Nat) (Option.none : Option Jvm.ClassFile.FieldType)) ∈ GT := GT_t 593 (by decide +kernel) rfl
theorem tw594 : (Jvm.Cond.methodLink "OneBack$Reader" (119 : Nat) ({ cls := "OneBack$Reader", name := "isFull", desc := "(I)Z" } : Jvm.MethodName)) ∈ GT := GT_t 594 (by decide +kernel) rfl
theorem tw596 : (Jvm.Cond.instanceMethod ({ cls := "OneBack$Reader", name := "isFull", desc := "(I)Z" } : Jvm.MethodName)) ∈ GT := GT_t 596 (by decide +kernel) rfl
theorem tw597 : (Jvm.Cond.code ({ cls := "OneBack$Reader", name := "isFull", desc := "(I)Z" } : Jvm.MethodName) prog_5_method_8_code (2 : Nat) (Option.some Jvm.ClassFile.FieldType.boolean)) ∈ GT := GT_t 597 (by decide +kernel) rfl
theorem tw598 : (Jvm.Cond.methodLink "OneBack$Reader" (102 : Nat) ({ cls := "OneBack$Reader", name := "note", desc := "(II)V" } : Jvm.MethodName)) ∈ GT := GT_t 598 (by decide +kernel) rfl
theorem tw600 : (Jvm.Cond.instanceMethod ({ cls := "OneBack$Reader", name := "note", desc := "(II)V" } : Jvm.MethodName)) ∈ GT := GT_t 600 (by decide +kernel) rfl
theorem tw601 : (Jvm.Cond.code ({ cls := "OneBack$Reader", name := "note", desc := "(II)V" } : Jvm.MethodName) prog_5_method_4_code (3 : Nat) (Option.none : Option Jvm.ClassFile.FieldType)) ∈ GT := GT_t 601 (by decide +kernel) rfl
theorem tw602 : (Jvm.Cond.fieldLink "OneBack$Reader" (123 : Nat) "OneBack$Reader" "NUMBERS" "[I") ∈ GT := GT_t 602 (by decide +kernel) rfl
theorem tw604 : (Jvm.Cond.methodLink "OneBack$Reader" (126 : Nat) ({ cls := "OneBack$Reader", name := "readNumber", desc := "(II)V" } : Jvm.MethodName)) ∈ GT := GT_t 604 (by decide +kernel) rfl
theorem tw606 : (Jvm.Cond.instanceMethod ({ cls := "OneBack$Reader", name := "readNumber", desc := "(II)V" } : Jvm.MethodName)) ∈ GT := GT_t 606 (by decide +kernel) rfl
theorem tw607 : (Jvm.Cond.code ({ cls := "OneBack$Reader", name := "readNumber", desc := "(II)V" } : Jvm.MethodName) prog_5_method_7_code (5 : Nat) (Option.none : Option Jvm.ClassFile.FieldType)) ∈ GT := GT_t 607 (by decide +kernel) rfl
theorem tw608 : (Jvm.Cond.fieldLink "OneBack$Reader" (132 : Nat) "OneBack$Reader" "LEAST" "[I") ∈ GT := GT_t 608 (by decide +kernel) rfl
theorem tw610 : (Jvm.Cond.fieldLink "OneBack$Reader" (135 : Nat) "OneBack$Reader" "MOST" "[I") ∈ GT := GT_t 610 (by decide +kernel) rfl
theorem tw612 : (Jvm.Cond.methodLink "OneBack$Reader" (129 : Nat) ({ cls := "OneBack$Reader", name := "keepLine", desc := "(I)V" } : Jvm.MethodName)) ∈ GT := GT_t 612 (by decide +kernel) rfl
theorem tw614 : (Jvm.Cond.instanceMethod ({ cls := "OneBack$Reader", name := "keepLine", desc := "(I)V" } : Jvm.MethodName)) ∈ GT := GT_t 614 (by decide +kernel) rfl
theorem tw615 : (Jvm.Cond.code ({ cls := "OneBack$Reader", name := "keepLine", desc := "(I)V" } : Jvm.MethodName) prog_5_method_12_code (2 : Nat) (Option.none : Option Jvm.ClassFile.FieldType)) ∈ GT := GT_t 615 (by decide +kernel) rfl
theorem tw616 : (Jvm.Cond.methodLink "OneBack$Reader" (202 : Nat) ({ cls := "OneBack$Reader", name := "keepTown", desc := "(I)V" } : Jvm.MethodName)) ∈ GT := GT_t 616 (by decide +kernel) rfl
theorem tw618 : (Jvm.Cond.instanceMethod ({ cls := "OneBack$Reader", name := "keepTown", desc := "(I)V" } : Jvm.MethodName)) ∈ GT := GT_t 618 (by decide +kernel) rfl
theorem tw619 : (Jvm.Cond.code ({ cls := "OneBack$Reader", name := "keepTown", desc := "(I)V" } : Jvm.MethodName) prog_5_method_13_code (4 : Nat) (Option.none : Option Jvm.ClassFile.FieldType)) ∈ GT := GT_t 619 (by decide +kernel) rfl
theorem tw621 : (Jvm.Cond.static ({ cls := "OneBack", name := "cell", desc := "(II)I" } : Jvm.MethodName)) ∈ GT := GT_t 621 (by decide +kernel) rfl
theorem tw622 : (Jvm.Cond.code ({ cls := "OneBack", name := "cell", desc := "(II)I" } : Jvm.MethodName) prog_1_method_37_code (2 : Nat) (Option.some Jvm.ClassFile.FieldType.int)) ∈ GT := GT_t 622 (by decide +kernel) rfl
theorem tw623 : (Jvm.Cond.methodLink "OneBack$Reader" (227 : Nat) ({ cls := "java/lang/Math", name := "max", desc := "(II)I" } : Jvm.MethodName)) ∈ GT := GT_t 623 (by decide +kernel) rfl
theorem tw624 : (Jvm.Cond.static ({ cls := "java/lang/Math", name := "max", desc := "(II)I" } : Jvm.MethodName)) ∈ GT := GT_t 624 (by decide +kernel) rfl
theorem tw625 : (Jvm.Cond.code ({ cls := "java/lang/Math", name := "max", desc := "(II)I" } : Jvm.MethodName) prog_15_method_65_code (2 : Nat) (Option.some Jvm.ClassFile.FieldType.int)) ∈ GT := GT_t 625 (by decide +kernel) rfl
theorem tw626 : (Jvm.Cond.methodLink "OneBack$Reader" (237 : Nat) ({ cls := "OneBack$Town", name := "addThief", desc := "(I)V" } : Jvm.MethodName)) ∈ GT := GT_t 626 (by decide +kernel) rfl
theorem tw627 : (Jvm.Cond.instanceMethod ({ cls := "OneBack$Town", name := "addThief", desc := "(I)V" } : Jvm.MethodName)) ∈ GT := GT_t 627 (by decide +kernel) rfl
theorem tw628 : (Jvm.Cond.selects "OneBack$Town" ({ cls := "OneBack$Town", name := "addThief", desc := "(I)V" } : Jvm.MethodName) ({ cls := "OneBack$Town", name := "addThief", desc := "(I)V" } : Jvm.MethodName)) ∈ GT := GT_t 628 (by decide +kernel) rfl
theorem tw629 : (Jvm.Cond.code ({ cls := "OneBack$Town", name := "addThief", desc := "(I)V" } : Jvm.MethodName) prog_9_method_6_code (2 : Nat) (Option.none : Option Jvm.ClassFile.FieldType)) ∈ GT := GT_t 629 (by decide +kernel) rfl
theorem tw630 : (Jvm.Cond.methodLink "OneBack$Reader" (205 : Nat) ({ cls := "OneBack$Reader", name := "keepLaw", desc := "(I)V" } : Jvm.MethodName)) ∈ GT := GT_t 630 (by decide +kernel) rfl
theorem tw632 : (Jvm.Cond.instanceMethod ({ cls := "OneBack$Reader", name := "keepLaw", desc := "(I)V" } : Jvm.MethodName)) ∈ GT := GT_t 632 (by decide +kernel) rfl
theorem tw633 : (Jvm.Cond.code ({ cls := "OneBack$Reader", name := "keepLaw", desc := "(I)V" } : Jvm.MethodName) prog_5_method_14_code (2 : Nat) (Option.none : Option Jvm.ClassFile.FieldType)) ∈ GT := GT_t 633 (by decide +kernel) rfl
theorem tw634 : (Jvm.Cond.methodLink "OneBack$Reader" (208 : Nat) ({ cls := "OneBack$Nights", name := "add", desc := "(IIII)V" } : Jvm.MethodName)) ∈ GT := GT_t 634 (by decide +kernel) rfl
theorem tw635 : (Jvm.Cond.instanceMethod ({ cls := "OneBack$Nights", name := "add", desc := "(IIII)V" } : Jvm.MethodName)) ∈ GT := GT_t 635 (by decide +kernel) rfl
theorem tw636 : (Jvm.Cond.selects "OneBack$Nights" ({ cls := "OneBack$Nights", name := "add", desc := "(IIII)V" } : Jvm.MethodName) ({ cls := "OneBack$Nights", name := "add", desc := "(IIII)V" } : Jvm.MethodName)) ∈ GT := GT_t 636 (by decide +kernel) rfl
theorem tw637 : (Jvm.Cond.code ({ cls := "OneBack$Nights", name := "add", desc := "(IIII)V" } : Jvm.MethodName) prog_3_method_3_code (5 : Nat) (Option.none : Option Jvm.ClassFile.FieldType)) ∈ GT := GT_t 637 (by decide +kernel) rfl
theorem tw638 : (Jvm.Cond.methodLink "OneBack$Reader" (212 : Nat) ({ cls := "OneBack$Sight", name := "add", desc := "(II)V" } : Jvm.MethodName)) ∈ GT := GT_t 638 (by decide +kernel) rfl
theorem tw639 : (Jvm.Cond.instanceMethod ({ cls := "OneBack$Sight", name := "add", desc := "(II)V" } : Jvm.MethodName)) ∈ GT := GT_t 639 (by decide +kernel) rfl
theorem tw640 : (Jvm.Cond.selects "OneBack$Sight" ({ cls := "OneBack$Sight", name := "add", desc := "(II)V" } : Jvm.MethodName) ({ cls := "OneBack$Sight", name := "add", desc := "(II)V" } : Jvm.MethodName)) ∈ GT := GT_t 640 (by decide +kernel) rfl
theorem tw641 : (Jvm.Cond.code ({ cls := "OneBack$Sight", name := "add", desc := "(II)V" } : Jvm.MethodName) prog_6_method_3_code (3 : Nat) (Option.none : Option Jvm.ClassFile.FieldType)) ∈ GT := GT_t 641 (by decide +kernel) rfl
theorem tw642 : (Jvm.Cond.methodLink "OneBack" (88 : Nat) ({ cls := "OneBack$Told", name := "keep", desc := "(LOneBack$Reader;II)V" } : Jvm.MethodName)) ∈ GT := GT_t 642 (by decide +kernel) rfl
theorem tw643 : (Jvm.Cond.instanceMethod ({ cls := "OneBack$Told", name := "keep", desc := "(LOneBack$Reader;II)V" } : Jvm.MethodName)) ∈ GT := GT_t 643 (by decide +kernel) rfl
theorem tw644 : (Jvm.Cond.selects "OneBack$Told" ({ cls := "OneBack$Told", name := "keep", desc := "(LOneBack$Reader;II)V" } : Jvm.MethodName) ({ cls := "OneBack$Told", name := "keep", desc := "(LOneBack$Reader;II)V" } : Jvm.MethodName)) ∈ GT := GT_t 644 (by decide +kernel) rfl
theorem tw645 : (Jvm.Cond.code ({ cls := "OneBack$Told", name := "keep", desc := "(LOneBack$Reader;II)V" } : Jvm.MethodName) prog_8_method_9_code (4 : Nat) (Option.none : Option Jvm.ClassFile.FieldType)) ∈ GT := GT_t 645 (by decide +kernel) rfl
theorem tw646 : (Jvm.Cond.methodLink "OneBack$Told" (67 : Nat) ({ cls := "OneBack$Town", name := "copy", desc := "(LOneBack$Town;)V" } : Jvm.MethodName)) ∈ GT := GT_t 646 (by decide +kernel) rfl
theorem tw647 : (Jvm.Cond.instanceMethod ({ cls := "OneBack$Town", name := "copy", desc := "(LOneBack$Town;)V" } : Jvm.MethodName)) ∈ GT := GT_t 647 (by decide +kernel) rfl
theorem tw648 : (Jvm.Cond.selects "OneBack$Town" ({ cls := "OneBack$Town", name := "copy", desc := "(LOneBack$Town;)V" } : Jvm.MethodName) ({ cls := "OneBack$Town", name := "copy", desc := "(LOneBack$Town;)V" } : Jvm.MethodName)) ∈ GT := GT_t 648 (by decide +kernel) rfl
theorem tw649 : (Jvm.Cond.code ({ cls := "OneBack$Town", name := "copy", desc := "(LOneBack$Town;)V" } : Jvm.MethodName) prog_9_method_3_code (2 : Nat) (Option.none : Option Jvm.ClassFile.FieldType)) ∈ GT := GT_t 649 (by decide +kernel) rfl
theorem tw651 : (Jvm.Cond.static ({ cls := "OneBack", name := "copyRow", desc := "([I[I)V" } : Jvm.MethodName)) ∈ GT := GT_t 651 (by decide +kernel) rfl
theorem tw652 : (Jvm.Cond.code ({ cls := "OneBack", name := "copyRow", desc := "([I[I)V" } : Jvm.MethodName) prog_1_method_42_code (2 : Nat) (Option.none : Option Jvm.ClassFile.FieldType)) ∈ GT := GT_t 652 (by decide +kernel) rfl
theorem tw653 : (Jvm.Cond.methodLink "OneBack" (344 : Nat) ({ cls := "java/lang/Math", name := "min", desc := "(II)I" } : Jvm.MethodName)) ∈ GT := GT_t 653 (by decide +kernel) rfl
theorem tw654 : (Jvm.Cond.methodLink "OneBack" (349 : Nat) ({ cls := "java/lang/System", name := "arraycopy", desc := "(Ljava/lang/Object;ILjava/lang/Object;II)V" } : Jvm.MethodName)) ∈ GT := GT_t 654 (by decide +kernel) rfl
theorem tw655 : (Jvm.Cond.static ({ cls := "java/lang/System", name := "arraycopy", desc := "(Ljava/lang/Object;ILjava/lang/Object;II)V" } : Jvm.MethodName)) ∈ GT := GT_t 655 (by decide +kernel) rfl
theorem tw656 : (Jvm.Cond.native ({ cls := "java/lang/System", name := "arraycopy", desc := "(Ljava/lang/Object;ILjava/lang/Object;II)V" } : Jvm.MethodName)) ∈ GT := GT_t 656 (by decide +kernel) rfl
theorem tw657 : (Jvm.Cond.methodLink "OneBack$Told" (75 : Nat) ({ cls := "OneBack$Law", name := "copy", desc := "(LOneBack$Law;)V" } : Jvm.MethodName)) ∈ GT := GT_t 657 (by decide +kernel) rfl
theorem tw658 : (Jvm.Cond.instanceMethod ({ cls := "OneBack$Law", name := "copy", desc := "(LOneBack$Law;)V" } : Jvm.MethodName)) ∈ GT := GT_t 658 (by decide +kernel) rfl
theorem tw659 : (Jvm.Cond.selects "OneBack$Law" ({ cls := "OneBack$Law", name := "copy", desc := "(LOneBack$Law;)V" } : Jvm.MethodName) ({ cls := "OneBack$Law", name := "copy", desc := "(LOneBack$Law;)V" } : Jvm.MethodName)) ∈ GT := GT_t 659 (by decide +kernel) rfl
theorem tw660 : (Jvm.Cond.code ({ cls := "OneBack$Law", name := "copy", desc := "(LOneBack$Law;)V" } : Jvm.MethodName) prog_2_method_3_code (2 : Nat) (Option.none : Option Jvm.ClassFile.FieldType)) ∈ GT := GT_t 660 (by decide +kernel) rfl
theorem tw661 : (Jvm.Cond.methodLink "OneBack$Told" (81 : Nat) ({ cls := "OneBack$Nights", name := "copy", desc := "(LOneBack$Nights;)V" } : Jvm.MethodName)) ∈ GT := GT_t 661 (by decide +kernel) rfl
theorem tw662 : (Jvm.Cond.instanceMethod ({ cls := "OneBack$Nights", name := "copy", desc := "(LOneBack$Nights;)V" } : Jvm.MethodName)) ∈ GT := GT_t 662 (by decide +kernel) rfl
theorem tw663 : (Jvm.Cond.selects "OneBack$Nights" ({ cls := "OneBack$Nights", name := "copy", desc := "(LOneBack$Nights;)V" } : Jvm.MethodName) ({ cls := "OneBack$Nights", name := "copy", desc := "(LOneBack$Nights;)V" } : Jvm.MethodName)) ∈ GT := GT_t 663 (by decide +kernel) rfl
theorem tw664 : (Jvm.Cond.code ({ cls := "OneBack$Nights", name := "copy", desc := "(LOneBack$Nights;)V" } : Jvm.MethodName) prog_3_method_4_code (2 : Nat) (Option.none : Option Jvm.ClassFile.FieldType)) ∈ GT := GT_t 664 (by decide +kernel) rfl
theorem tw666 : (Jvm.Cond.methodLink "OneBack$Told" (88 : Nat) ({ cls := "OneBack$Sight", name := "copy", desc := "(LOneBack$Sight;)V" } : Jvm.MethodName)) ∈ GT := GT_t 666 (by decide +kernel) rfl
theorem tw667 : (Jvm.Cond.instanceMethod ({ cls := "OneBack$Sight", name := "copy", desc := "(LOneBack$Sight;)V" } : Jvm.MethodName)) ∈ GT := GT_t 667 (by decide +kernel) rfl
theorem tw668 : (Jvm.Cond.selects "OneBack$Sight" ({ cls := "OneBack$Sight", name := "copy", desc := "(LOneBack$Sight;)V" } : Jvm.MethodName) ({ cls := "OneBack$Sight", name := "copy", desc := "(LOneBack$Sight;)V" } : Jvm.MethodName)) ∈ GT := GT_t 668 (by decide +kernel) rfl
theorem tw669 : (Jvm.Cond.code ({ cls := "OneBack$Sight", name := "copy", desc := "(LOneBack$Sight;)V" } : Jvm.MethodName) prog_6_method_4_code (2 : Nat) (Option.none : Option Jvm.ClassFile.FieldType)) ∈ GT := GT_t 669 (by decide +kernel) rfl
theorem tw671 : (Jvm.Cond.methodLink "OneBack$Told" (91 : Nat) ({ cls := "java/lang/Math", name := "max", desc := "(II)I" } : Jvm.MethodName)) ∈ GT := GT_t 671 (by decide +kernel) rfl
theorem tw672 : (Jvm.Cond.methodLink "OneBackLaw" (28 : Nat) ({ cls := "OneBack", name := "fault", desc := "(I)I" } : Jvm.MethodName)) ∈ GT := GT_t 672 (by decide +kernel) rfl
theorem tw673 : (Jvm.Cond.instanceMethod ({ cls := "OneBack", name := "fault", desc := "(I)I" } : Jvm.MethodName)) ∈ GT := GT_t 673 (by decide +kernel) rfl
theorem tw674 : (Jvm.Cond.selects "OneBack" ({ cls := "OneBack", name := "fault", desc := "(I)I" } : Jvm.MethodName) ({ cls := "OneBack", name := "fault", desc := "(I)I" } : Jvm.MethodName)) ∈ GT := GT_t 674 (by decide +kernel) rfl
theorem tw675 : (Jvm.Cond.code ({ cls := "OneBack", name := "fault", desc := "(I)I" } : Jvm.MethodName) prog_1_method_5_code (2 : Nat) (Option.some Jvm.ClassFile.FieldType.int)) ∈ GT := GT_t 675 (by decide +kernel) rfl
theorem tw676 : (Jvm.Cond.methodLink "OneBackLaw" (32 : Nat) ({ cls := "OneBack", name := "town", desc := "(II)I" } : Jvm.MethodName)) ∈ GT := GT_t 676 (by decide +kernel) rfl
theorem tw677 : (Jvm.Cond.instanceMethod ({ cls := "OneBack", name := "town", desc := "(II)I" } : Jvm.MethodName)) ∈ GT := GT_t 677 (by decide +kernel) rfl
theorem tw678 : (Jvm.Cond.selects "OneBack" ({ cls := "OneBack", name := "town", desc := "(II)I" } : Jvm.MethodName) ({ cls := "OneBack", name := "town", desc := "(II)I" } : Jvm.MethodName)) ∈ GT := GT_t 678 (by decide +kernel) rfl
theorem tw679 : (Jvm.Cond.code ({ cls := "OneBack", name := "town", desc := "(II)I" } : Jvm.MethodName) prog_1_method_6_code (5 : Nat) (Option.some Jvm.ClassFile.FieldType.int)) ∈ GT := GT_t 679 (by decide +kernel) rfl
theorem tw680 : (Jvm.Cond.methodLink "OneBack" (92 : Nat) ({ cls := "OneBack$Told", name := "townAt", desc := "(I)LOneBack$Town;" } : Jvm.MethodName)) ∈ GT := GT_t 680 (by decide +kernel) rfl
theorem tw681 : (Jvm.Cond.instanceMethod ({ cls := "OneBack$Told", name := "townAt", desc := "(I)LOneBack$Town;" } : Jvm.MethodName)) ∈ GT := GT_t 681 (by decide +kernel) rfl
theorem tw682 : (Jvm.Cond.selects "OneBack$Told" ({ cls := "OneBack$Told", name := "townAt", desc := "(I)LOneBack$Town;" } : Jvm.MethodName) ({ cls := "OneBack$Told", name := "townAt", desc := "(I)LOneBack$Town;" } : Jvm.MethodName)) ∈ GT := GT_t 682 (by decide +kernel) rfl
theorem tw683 : (Jvm.Cond.code ({ cls := "OneBack$Told", name := "townAt", desc := "(I)LOneBack$Town;" } : Jvm.MethodName) prog_8_method_4_code (2 : Nat) (Option.some (Jvm.ClassFile.FieldType.object "OneBack$Town"))) ∈ GT := GT_t 683 (by decide +kernel) rfl
theorem tw684 : (Jvm.Cond.methodLink "OneBack" (104 : Nat) ({ cls := "OneBack$Town", name := "isHouse", desc := "(I)Z" } : Jvm.MethodName)) ∈ GT := GT_t 684 (by decide +kernel) rfl
theorem tw685 : (Jvm.Cond.instanceMethod ({ cls := "OneBack$Town", name := "isHouse", desc := "(I)Z" } : Jvm.MethodName)) ∈ GT := GT_t 685 (by decide +kernel) rfl
theorem tw686 : (Jvm.Cond.selects "OneBack$Town" ({ cls := "OneBack$Town", name := "isHouse", desc := "(I)Z" } : Jvm.MethodName) ({ cls := "OneBack$Town", name := "isHouse", desc := "(I)Z" } : Jvm.MethodName)) ∈ GT := GT_t 686 (by decide +kernel) rfl
theorem tw687 : (Jvm.Cond.code ({ cls := "OneBack$Town", name := "isHouse", desc := "(I)Z" } : Jvm.MethodName) prog_9_method_4_code (2 : Nat) (Option.some Jvm.ClassFile.FieldType.boolean)) ∈ GT := GT_t 687 (by decide +kernel) rfl
theorem tw688 : (Jvm.Cond.methodLink "OneBack" (115 : Nat) ({ cls := "OneBack", name := "isGood", desc := "(I)Z" } : Jvm.MethodName)) ∈ GT := GT_t 688 (by decide +kernel) rfl
theorem tw689 : (Jvm.Cond.static ({ cls := "OneBack", name := "isGood", desc := "(I)Z" } : Jvm.MethodName)) ∈ GT := GT_t 689 (by decide +kernel) rfl
theorem tw690 : (Jvm.Cond.code ({ cls := "OneBack", name := "isGood", desc := "(I)Z" } : Jvm.MethodName) prog_1_method_36_code (1 : Nat) (Option.some Jvm.ClassFile.FieldType.boolean)) ∈ GT := GT_t 690 (by decide +kernel) rfl
theorem tw691 : (Jvm.Cond.methodLink "OneBack" (124 : Nat) ({ cls := "OneBack$Town", name := "isThief", desc := "(I)Z" } : Jvm.MethodName)) ∈ GT := GT_t 691 (by decide +kernel) rfl
theorem tw692 : (Jvm.Cond.instanceMethod ({ cls := "OneBack$Town", name := "isThief", desc := "(I)Z" } : Jvm.MethodName)) ∈ GT := GT_t 692 (by decide +kernel) rfl
theorem tw693 : (Jvm.Cond.selects "OneBack$Town" ({ cls := "OneBack$Town", name := "isThief", desc := "(I)Z" } : Jvm.MethodName) ({ cls := "OneBack$Town", name := "isThief", desc := "(I)Z" } : Jvm.MethodName)) ∈ GT := GT_t 693 (by decide +kernel) rfl
theorem tw694 : (Jvm.Cond.code ({ cls := "OneBack$Town", name := "isThief", desc := "(I)Z" } : Jvm.MethodName) prog_9_method_5_code (2 : Nat) (Option.some Jvm.ClassFile.FieldType.boolean)) ∈ GT := GT_t 694 (by decide +kernel) rfl
theorem tw695 : (Jvm.Cond.methodLink "OneBackLaw" (36 : Nat) ({ cls := "OneBack", name := "house", desc := "(IIII)I" } : Jvm.MethodName)) ∈ GT := GT_t 695 (by decide +kernel) rfl
theorem tw696 : (Jvm.Cond.instanceMethod ({ cls := "OneBack", name := "house", desc := "(IIII)I" } : Jvm.MethodName)) ∈ GT := GT_t 696 (by decide +kernel) rfl
theorem tw697 : (Jvm.Cond.selects "OneBack" ({ cls := "OneBack", name := "house", desc := "(IIII)I" } : Jvm.MethodName) ({ cls := "OneBack", name := "house", desc := "(IIII)I" } : Jvm.MethodName)) ∈ GT := GT_t 697 (by decide +kernel) rfl
theorem tw698 : (Jvm.Cond.code ({ cls := "OneBack", name := "house", desc := "(IIII)I" } : Jvm.MethodName) prog_1_method_7_code (6 : Nat) (Option.some Jvm.ClassFile.FieldType.int)) ∈ GT := GT_t 698 (by decide +kernel) rfl
theorem tw699 : (Jvm.Cond.methodLink "OneBack" (136 : Nat) ({ cls := "OneBack", name := "cell", desc := "(II)I" } : Jvm.MethodName)) ∈ GT := GT_t 699 (by decide +kernel) rfl
theorem tw700 : (Jvm.Cond.methodLink "OneBack" (142 : Nat) ({ cls := "OneBack$Town", name := "spareOf", desc := "(II)I" } : Jvm.MethodName)) ∈ GT := GT_t 700 (by decide +kernel) rfl
theorem tw701 : (Jvm.Cond.instanceMethod ({ cls := "OneBack$Town", name := "spareOf", desc := "(II)I" } : Jvm.MethodName)) ∈ GT := GT_t 701 (by decide +kernel) rfl
theorem tw702 : (Jvm.Cond.selects "OneBack$Town" ({ cls := "OneBack$Town", name := "spareOf", desc := "(II)I" } : Jvm.MethodName) ({ cls := "OneBack$Town", name := "spareOf", desc := "(II)I" } : Jvm.MethodName)) ∈ GT := GT_t 702 (by decide +kernel) rfl
theorem tw703 : (Jvm.Cond.code ({ cls := "OneBack$Town", name := "spareOf", desc := "(II)I" } : Jvm.MethodName) prog_9_method_8_code (3 : Nat) (Option.some Jvm.ClassFile.FieldType.int)) ∈ GT := GT_t 703 (by decide +kernel) rfl
theorem tw705 : (Jvm.Cond.methodLink "OneBack$Town" (58 : Nat) ({ cls := "java/lang/Math", name := "max", desc := "(II)I" } : Jvm.MethodName)) ∈ GT := GT_t 705 (by decide +kernel) rfl
theorem tw706 : (Jvm.Cond.methodLink "OneBack" (145 : Nat) ({ cls := "OneBack$Town", name := "lackOf", desc := "(II)I" } : Jvm.MethodName)) ∈ GT := GT_t 706 (by decide +kernel) rfl
theorem tw707 : (Jvm.Cond.instanceMethod ({ cls := "OneBack$Town", name := "lackOf", desc := "(II)I" } : Jvm.MethodName)) ∈ GT := GT_t 707 (by decide +kernel) rfl
theorem tw708 : (Jvm.Cond.selects "OneBack$Town" ({ cls := "OneBack$Town", name := "lackOf", desc := "(II)I" } : Jvm.MethodName) ({ cls := "OneBack$Town", name := "lackOf", desc := "(II)I" } : Jvm.MethodName)) ∈ GT := GT_t 708 (by decide +kernel) rfl
theorem tw709 : (Jvm.Cond.code ({ cls := "OneBack$Town", name := "lackOf", desc := "(II)I" } : Jvm.MethodName) prog_9_method_9_code (3 : Nat) (Option.some Jvm.ClassFile.FieldType.int)) ∈ GT := GT_t 709 (by decide +kernel) rfl
theorem tw710 : (Jvm.Cond.methodLink "OneBackLaw" (41 : Nat) ({ cls := "OneBack", name := "law", desc := "(II)I" } : Jvm.MethodName)) ∈ GT := GT_t 710 (by decide +kernel) rfl
theorem tw711 : (Jvm.Cond.instanceMethod ({ cls := "OneBack", name := "law", desc := "(II)I" } : Jvm.MethodName)) ∈ GT := GT_t 711 (by decide +kernel) rfl
theorem tw712 : (Jvm.Cond.selects "OneBack" ({ cls := "OneBack", name := "law", desc := "(II)I" } : Jvm.MethodName) ({ cls := "OneBack", name := "law", desc := "(II)I" } : Jvm.MethodName)) ∈ GT := GT_t 712 (by decide +kernel) rfl
theorem tw713 : (Jvm.Cond.code ({ cls := "OneBack", name := "law", desc := "(II)I" } : Jvm.MethodName) prog_1_method_8_code (4 : Nat) (Option.some Jvm.ClassFile.FieldType.int)) ∈ GT := GT_t 713 (by decide +kernel) rfl
theorem tw714 : (Jvm.Cond.methodLink "OneBack" (148 : Nat) ({ cls := "OneBack$Told", name := "lawAt", desc := "(I)LOneBack$Law;" } : Jvm.MethodName)) ∈ GT := GT_t 714 (by decide +kernel) rfl
theorem tw715 : (Jvm.Cond.instanceMethod ({ cls := "OneBack$Told", name := "lawAt", desc := "(I)LOneBack$Law;" } : Jvm.MethodName)) ∈ GT := GT_t 715 (by decide +kernel) rfl
theorem tw716 : (Jvm.Cond.selects "OneBack$Told" ({ cls := "OneBack$Told", name := "lawAt", desc := "(I)LOneBack$Law;" } : Jvm.MethodName) ({ cls := "OneBack$Told", name := "lawAt", desc := "(I)LOneBack$Law;" } : Jvm.MethodName)) ∈ GT := GT_t 716 (by decide +kernel) rfl
theorem tw717 : (Jvm.Cond.code ({ cls := "OneBack$Told", name := "lawAt", desc := "(I)LOneBack$Law;" } : Jvm.MethodName) prog_8_method_5_code (2 : Nat) (Option.some (Jvm.ClassFile.FieldType.object "OneBack$Law"))) ∈ GT := GT_t 717 (by decide +kernel) rfl
theorem tw718 : (Jvm.Cond.methodLink "OneBack" (159 : Nat) ({ cls := "OneBack$Law", name := "counts", desc := "(I)I" } : Jvm.MethodName)) ∈ GT := GT_t 718 (by decide +kernel) rfl
theorem tw719 : (Jvm.Cond.instanceMethod ({ cls := "OneBack$Law", name := "counts", desc := "(I)I" } : Jvm.MethodName)) ∈ GT := GT_t 719 (by decide +kernel) rfl
theorem tw720 : (Jvm.Cond.selects "OneBack$Law" ({ cls := "OneBack$Law", name := "counts", desc := "(I)I" } : Jvm.MethodName) ({ cls := "OneBack$Law", name := "counts", desc := "(I)I" } : Jvm.MethodName)) ∈ GT := GT_t 720 (by decide +kernel) rfl
theorem tw721 : (Jvm.Cond.code ({ cls := "OneBack$Law", name := "counts", desc := "(I)I" } : Jvm.MethodName) prog_2_method_4_code (2 : Nat) (Option.some Jvm.ClassFile.FieldType.int)) ∈ GT := GT_t 721 (by decide +kernel) rfl
theorem tw722 : (Jvm.Cond.methodLink "OneBackLaw" (45 : Nat) ({ cls := "OneBack", name := "deed", desc := "(III)I" } : Jvm.MethodName)) ∈ GT := GT_t 722 (by decide +kernel) rfl
theorem tw723 : (Jvm.Cond.instanceMethod ({ cls := "OneBack", name := "deed", desc := "(III)I" } : Jvm.MethodName)) ∈ GT := GT_t 723 (by decide +kernel) rfl
theorem tw724 : (Jvm.Cond.selects "OneBack" ({ cls := "OneBack", name := "deed", desc := "(III)I" } : Jvm.MethodName) ({ cls := "OneBack", name := "deed", desc := "(III)I" } : Jvm.MethodName)) ∈ GT := GT_t 724 (by decide +kernel) rfl
theorem tw725 : (Jvm.Cond.code ({ cls := "OneBack", name := "deed", desc := "(III)I" } : Jvm.MethodName) prog_1_method_9_code (5 : Nat) (Option.some Jvm.ClassFile.FieldType.int)) ∈ GT := GT_t 725 (by decide +kernel) rfl
theorem tw726 : (Jvm.Cond.methodLink "OneBack" (163 : Nat) ({ cls := "OneBack$Told", name := "nightsAt", desc := "(I)LOneBack$Nights;" } : Jvm.MethodName)) ∈ GT := GT_t 726 (by decide +kernel) rfl
theorem tw727 : (Jvm.Cond.instanceMethod ({ cls := "OneBack$Told", name := "nightsAt", desc := "(I)LOneBack$Nights;" } : Jvm.MethodName)) ∈ GT := GT_t 727 (by decide +kernel) rfl
theorem tw728 : (Jvm.Cond.selects "OneBack$Told" ({ cls := "OneBack$Told", name := "nightsAt", desc := "(I)LOneBack$Nights;" } : Jvm.MethodName) ({ cls := "OneBack$Told", name := "nightsAt", desc := "(I)LOneBack$Nights;" } : Jvm.MethodName)) ∈ GT := GT_t 728 (by decide +kernel) rfl
theorem tw729 : (Jvm.Cond.code ({ cls := "OneBack$Told", name := "nightsAt", desc := "(I)LOneBack$Nights;" } : Jvm.MethodName) prog_8_method_6_code (2 : Nat) (Option.some (Jvm.ClassFile.FieldType.object "OneBack$Nights"))) ∈ GT := GT_t 729 (by decide +kernel) rfl
theorem tw730 : (Jvm.Cond.methodLink "OneBackLaw" (50 : Nat) ({ cls := "OneBack", name := "stop", desc := "(III)I" } : Jvm.MethodName)) ∈ GT := GT_t 730 (by decide +kernel) rfl
theorem tw731 : (Jvm.Cond.instanceMethod ({ cls := "OneBack", name := "stop", desc := "(III)I" } : Jvm.MethodName)) ∈ GT := GT_t 731 (by decide +kernel) rfl
theorem tw732 : (Jvm.Cond.selects "OneBack" ({ cls := "OneBack", name := "stop", desc := "(III)I" } : Jvm.MethodName) ({ cls := "OneBack", name := "stop", desc := "(III)I" } : Jvm.MethodName)) ∈ GT := GT_t 732 (by decide +kernel) rfl
theorem tw733 : (Jvm.Cond.code ({ cls := "OneBack", name := "stop", desc := "(III)I" } : Jvm.MethodName) prog_1_method_10_code (4 : Nat) (Option.some Jvm.ClassFile.FieldType.int)) ∈ GT := GT_t 733 (by decide +kernel) rfl
theorem tw734 : (Jvm.Cond.methodLink "OneBack" (184 : Nat) ({ cls := "OneBack", name := "walkTo", desc := "(IIII)Z" } : Jvm.MethodName)) ∈ GT := GT_t 734 (by decide +kernel) rfl
theorem tw736 : (Jvm.Cond.instanceMethod ({ cls := "OneBack", name := "walkTo", desc := "(IIII)Z" } : Jvm.MethodName)) ∈ GT := GT_t 736 (by decide +kernel) rfl
theorem tw737 : (Jvm.Cond.code ({ cls := "OneBack", name := "walkTo", desc := "(IIII)Z" } : Jvm.MethodName) prog_1_method_34_code (8 : Nat) (Option.some Jvm.ClassFile.FieldType.boolean)) ∈ GT := GT_t 737 (by decide +kernel) rfl
theorem tw738 : (Jvm.Cond.methodLink "OneBack" (300 : Nat) ({ cls := "OneBack$Walk", name := "begin", desc := "(LOneBack$Town;LOneBack$Law;)V" } : Jvm.MethodName)) ∈ GT := GT_t 738 (by decide +kernel) rfl
theorem tw739 : (Jvm.Cond.instanceMethod ({ cls := "OneBack$Walk", name := "begin", desc := "(LOneBack$Town;LOneBack$Law;)V" } : Jvm.MethodName)) ∈ GT := GT_t 739 (by decide +kernel) rfl
theorem tw740 : (Jvm.Cond.selects "OneBack$Walk" ({ cls := "OneBack$Walk", name := "begin", desc := "(LOneBack$Town;LOneBack$Law;)V" } : Jvm.MethodName) ({ cls := "OneBack$Walk", name := "begin", desc := "(LOneBack$Town;LOneBack$Law;)V" } : Jvm.MethodName)) ∈ GT := GT_t 740 (by decide +kernel) rfl
theorem tw741 : (Jvm.Cond.code ({ cls := "OneBack$Walk", name := "begin", desc := "(LOneBack$Town;LOneBack$Law;)V" } : Jvm.MethodName) prog_11_method_2_code (3 : Nat) (Option.none : Option Jvm.ClassFile.FieldType)) ∈ GT := GT_t 741 (by decide +kernel) rfl
theorem tw744 : (Jvm.Cond.methodLink "OneBack" (337 : Nat) ({ cls := "OneBack$Walk", name := "follow", desc := "(LOneBack$Nights;I)V" } : Jvm.MethodName)) ∈ GT := GT_t 744 (by decide +kernel) rfl
theorem tw745 : (Jvm.Cond.instanceMethod ({ cls := "OneBack$Walk", name := "follow", desc := "(LOneBack$Nights;I)V" } : Jvm.MethodName)) ∈ GT := GT_t 745 (by decide +kernel) rfl
theorem tw746 : (Jvm.Cond.selects "OneBack$Walk" ({ cls := "OneBack$Walk", name := "follow", desc := "(LOneBack$Nights;I)V" } : Jvm.MethodName) ({ cls := "OneBack$Walk", name := "follow", desc := "(LOneBack$Nights;I)V" } : Jvm.MethodName)) ∈ GT := GT_t 746 (by decide +kernel) rfl
theorem tw747 : (Jvm.Cond.code ({ cls := "OneBack$Walk", name := "follow", desc := "(LOneBack$Nights;I)V" } : Jvm.MethodName) prog_11_method_3_code (4 : Nat) (Option.none : Option Jvm.ClassFile.FieldType)) ∈ GT := GT_t 747 (by decide +kernel) rfl
theorem tw748 : (Jvm.Cond.methodLink "OneBack$Walk" (82 : Nat) ({ cls := "java/lang/Math", name := "min", desc := "(II)I" } : Jvm.MethodName)) ∈ GT := GT_t 748 (by decide +kernel) rfl
theorem tw749 : (Jvm.Cond.methodLink "OneBack$Walk" (88 : Nat) ({ cls := "OneBack$Walk", name := "act", desc := "(LOneBack$Nights;I)Z" } : Jvm.MethodName)) ∈ GT := GT_t 749 (by decide +kernel) rfl
theorem tw751 : (Jvm.Cond.instanceMethod ({ cls := "OneBack$Walk", name := "act", desc := "(LOneBack$Nights;I)Z" } : Jvm.MethodName)) ∈ GT := GT_t 751 (by decide +kernel) rfl
theorem tw752 : (Jvm.Cond.code ({ cls := "OneBack$Walk", name := "act", desc := "(LOneBack$Nights;I)Z" } : Jvm.MethodName) prog_11_method_4_code (6 : Nat) (Option.some Jvm.ClassFile.FieldType.boolean)) ∈ GT := GT_t 752 (by decide +kernel) rfl
theorem tw753 : (Jvm.Cond.methodLink "OneBack$Walk" (104 : Nat) ({ cls := "OneBack$Walk", name := "takeOne", desc := "(III)Z" } : Jvm.MethodName)) ∈ GT := GT_t 753 (by decide +kernel) rfl
theorem tw754 : (Jvm.Cond.instanceMethod ({ cls := "OneBack$Walk", name := "takeOne", desc := "(III)Z" } : Jvm.MethodName)) ∈ GT := GT_t 754 (by decide +kernel) rfl
theorem tw755 : (Jvm.Cond.selects "OneBack$Walk" ({ cls := "OneBack$Walk", name := "takeOne", desc := "(III)Z" } : Jvm.MethodName) ({ cls := "OneBack$Walk", name := "takeOne", desc := "(III)Z" } : Jvm.MethodName)) ∈ GT := GT_t 755 (by decide +kernel) rfl
theorem tw756 : (Jvm.Cond.code ({ cls := "OneBack$Walk", name := "takeOne", desc := "(III)Z" } : Jvm.MethodName) prog_11_method_9_code (4 : Nat) (Option.some Jvm.ClassFile.FieldType.boolean)) ∈ GT := GT_t 756 (by decide +kernel) rfl
theorem tw757 : (Jvm.Cond.methodLink "OneBack$Walk" (139 : Nat) ({ cls := "OneBack$Walk", name := "isFree", desc := "(I)Z" } : Jvm.MethodName)) ∈ GT := GT_t 757 (by decide +kernel) rfl
theorem tw758 : (Jvm.Cond.instanceMethod ({ cls := "OneBack$Walk", name := "isFree", desc := "(I)Z" } : Jvm.MethodName)) ∈ GT := GT_t 758 (by decide +kernel) rfl
theorem tw759 : (Jvm.Cond.selects "OneBack$Walk" ({ cls := "OneBack$Walk", name := "isFree", desc := "(I)Z" } : Jvm.MethodName) ({ cls := "OneBack$Walk", name := "isFree", desc := "(I)Z" } : Jvm.MethodName)) ∈ GT := GT_t 759 (by decide +kernel) rfl
theorem tw760 : (Jvm.Cond.code ({ cls := "OneBack$Walk", name := "isFree", desc := "(I)Z" } : Jvm.MethodName) prog_11_method_5_code (2 : Nat) (Option.some Jvm.ClassFile.FieldType.boolean)) ∈ GT := GT_t 760 (by decide +kernel) rfl
theorem tw761 : (Jvm.Cond.methodLink "OneBack$Walk" (117 : Nat) ({ cls := "OneBack$Town", name := "isThief", desc := "(I)Z" } : Jvm.MethodName)) ∈ GT := GT_t 761 (by decide +kernel) rfl
theorem tw762 : (Jvm.Cond.methodLink "OneBack$Walk" (142 : Nat) ({ cls := "OneBack$Town", name := "isHouse", desc := "(I)Z" } : Jvm.MethodName)) ∈ GT := GT_t 762 (by decide +kernel) rfl
theorem tw766 : (Jvm.Cond.static ({ cls := "OneBack", name := "cell", desc := "(III)I" } : Jvm.MethodName)) ∈ GT := GT_t 766 (by decide +kernel) rfl
theorem tw767 : (Jvm.Cond.code ({ cls := "OneBack", name := "cell", desc := "(III)I" } : Jvm.MethodName) prog_1_method_38_code (3 : Nat) (Option.some Jvm.ClassFile.FieldType.int)) ∈ GT := GT_t 767 (by decide +kernel) rfl
theorem tw768 : (Jvm.Cond.methodLink "OneBack$Walk" (108 : Nat) ({ cls := "OneBack$Walk", name := "giveOne", desc := "(III)Z" } : Jvm.MethodName)) ∈ GT := GT_t 768 (by decide +kernel) rfl
theorem tw769 : (Jvm.Cond.instanceMethod ({ cls := "OneBack$Walk", name := "giveOne", desc := "(III)Z" } : Jvm.MethodName)) ∈ GT := GT_t 769 (by decide +kernel) rfl
theorem tw770 : (Jvm.Cond.selects "OneBack$Walk" ({ cls := "OneBack$Walk", name := "giveOne", desc := "(III)Z" } : Jvm.MethodName) ({ cls := "OneBack$Walk", name := "giveOne", desc := "(III)Z" } : Jvm.MethodName)) ∈ GT := GT_t 770 (by decide +kernel) rfl
theorem tw771 : (Jvm.Cond.code ({ cls := "OneBack$Walk", name := "giveOne", desc := "(III)Z" } : Jvm.MethodName) prog_11_method_10_code (4 : Nat) (Option.some Jvm.ClassFile.FieldType.boolean)) ∈ GT := GT_t 771 (by decide +kernel) rfl
theorem tw772 : (Jvm.Cond.methodLink "OneBack$Walk" (151 : Nat) ({ cls := "OneBack$Walk", name := "takesGift", desc := "(III)Z" } : Jvm.MethodName)) ∈ GT := GT_t 772 (by decide +kernel) rfl
theorem tw773 : (Jvm.Cond.instanceMethod ({ cls := "OneBack$Walk", name := "takesGift", desc := "(III)Z" } : Jvm.MethodName)) ∈ GT := GT_t 773 (by decide +kernel) rfl
theorem tw774 : (Jvm.Cond.selects "OneBack$Walk" ({ cls := "OneBack$Walk", name := "takesGift", desc := "(III)Z" } : Jvm.MethodName) ({ cls := "OneBack$Walk", name := "takesGift", desc := "(III)Z" } : Jvm.MethodName)) ∈ GT := GT_t 774 (by decide +kernel) rfl
theorem tw775 : (Jvm.Cond.code ({ cls := "OneBack$Walk", name := "takesGift", desc := "(III)Z" } : Jvm.MethodName) prog_11_method_8_code (5 : Nat) (Option.some Jvm.ClassFile.FieldType.boolean)) ∈ GT := GT_t 775 (by decide +kernel) rfl
theorem tw776 : (Jvm.Cond.methodLink "OneBack$Walk" (154 : Nat) ({ cls := "OneBack$Law", name := "counts", desc := "(I)I" } : Jvm.MethodName)) ∈ GT := GT_t 776 (by decide +kernel) rfl
theorem tw777 : (Jvm.Cond.methodLink "OneBack$Walk" (111 : Nat) ({ cls := "OneBack$Walk", name := "setOff", desc := "(III)Z" } : Jvm.MethodName)) ∈ GT := GT_t 777 (by decide +kernel) rfl
theorem tw778 : (Jvm.Cond.instanceMethod ({ cls := "OneBack$Walk", name := "setOff", desc := "(III)Z" } : Jvm.MethodName)) ∈ GT := GT_t 778 (by decide +kernel) rfl
theorem tw779 : (Jvm.Cond.selects "OneBack$Walk" ({ cls := "OneBack$Walk", name := "setOff", desc := "(III)Z" } : Jvm.MethodName) ({ cls := "OneBack$Walk", name := "setOff", desc := "(III)Z" } : Jvm.MethodName)) ∈ GT := GT_t 779 (by decide +kernel) rfl
theorem tw780 : (Jvm.Cond.code ({ cls := "OneBack$Walk", name := "setOff", desc := "(III)Z" } : Jvm.MethodName) prog_11_method_11_code (4 : Nat) (Option.some Jvm.ClassFile.FieldType.boolean)) ∈ GT := GT_t 780 (by decide +kernel) rfl
theorem tw781 : (Jvm.Cond.methodLink "OneBack$Walk" (160 : Nat) ({ cls := "OneBack$Town", name := "areKin", desc := "(II)Z" } : Jvm.MethodName)) ∈ GT := GT_t 781 (by decide +kernel) rfl
theorem tw782 : (Jvm.Cond.instanceMethod ({ cls := "OneBack$Town", name := "areKin", desc := "(II)Z" } : Jvm.MethodName)) ∈ GT := GT_t 782 (by decide +kernel) rfl
theorem tw783 : (Jvm.Cond.selects "OneBack$Town" ({ cls := "OneBack$Town", name := "areKin", desc := "(II)Z" } : Jvm.MethodName) ({ cls := "OneBack$Town", name := "areKin", desc := "(II)Z" } : Jvm.MethodName)) ∈ GT := GT_t 783 (by decide +kernel) rfl
theorem tw784 : (Jvm.Cond.code ({ cls := "OneBack$Town", name := "areKin", desc := "(II)Z" } : Jvm.MethodName) prog_9_method_7_code (3 : Nat) (Option.some Jvm.ClassFile.FieldType.boolean)) ∈ GT := GT_t 784 (by decide +kernel) rfl
theorem tw785 : (Jvm.Cond.methodLink "OneBack$Walk" (164 : Nat) ({ cls := "OneBack$Walk", name := "owesOf", desc := "(I)I" } : Jvm.MethodName)) ∈ GT := GT_t 785 (by decide +kernel) rfl
theorem tw786 : (Jvm.Cond.instanceMethod ({ cls := "OneBack$Walk", name := "owesOf", desc := "(I)I" } : Jvm.MethodName)) ∈ GT := GT_t 786 (by decide +kernel) rfl
theorem tw787 : (Jvm.Cond.selects "OneBack$Walk" ({ cls := "OneBack$Walk", name := "owesOf", desc := "(I)I" } : Jvm.MethodName) ({ cls := "OneBack$Walk", name := "owesOf", desc := "(I)I" } : Jvm.MethodName)) ∈ GT := GT_t 787 (by decide +kernel) rfl
theorem tw788 : (Jvm.Cond.code ({ cls := "OneBack$Walk", name := "owesOf", desc := "(I)I" } : Jvm.MethodName) prog_11_method_6_code (2 : Nat) (Option.some Jvm.ClassFile.FieldType.int)) ∈ GT := GT_t 788 (by decide +kernel) rfl
theorem tw789 : (Jvm.Cond.methodLink "OneBack$Walk" (121 : Nat) ({ cls := "OneBack$Law", name := "dueOf", desc := "(I)I" } : Jvm.MethodName)) ∈ GT := GT_t 789 (by decide +kernel) rfl
theorem tw790 : (Jvm.Cond.instanceMethod ({ cls := "OneBack$Law", name := "dueOf", desc := "(I)I" } : Jvm.MethodName)) ∈ GT := GT_t 790 (by decide +kernel) rfl
theorem tw791 : (Jvm.Cond.selects "OneBack$Law" ({ cls := "OneBack$Law", name := "dueOf", desc := "(I)I" } : Jvm.MethodName) ({ cls := "OneBack$Law", name := "dueOf", desc := "(I)I" } : Jvm.MethodName)) ∈ GT := GT_t 791 (by decide +kernel) rfl
theorem tw792 : (Jvm.Cond.code ({ cls := "OneBack$Law", name := "dueOf", desc := "(I)I" } : Jvm.MethodName) prog_2_method_5_code (2 : Nat) (Option.some Jvm.ClassFile.FieldType.int)) ∈ GT := GT_t 792 (by decide +kernel) rfl
theorem tw793 : (Jvm.Cond.methodLink "OneBack$Walk" (114 : Nat) ({ cls := "OneBack$Walk", name := "nightEnds", desc := "()V" } : Jvm.MethodName)) ∈ GT := GT_t 793 (by decide +kernel) rfl
theorem tw794 : (Jvm.Cond.instanceMethod ({ cls := "OneBack$Walk", name := "nightEnds", desc := "()V" } : Jvm.MethodName)) ∈ GT := GT_t 794 (by decide +kernel) rfl
theorem tw795 : (Jvm.Cond.selects "OneBack$Walk" ({ cls := "OneBack$Walk", name := "nightEnds", desc := "()V" } : Jvm.MethodName) ({ cls := "OneBack$Walk", name := "nightEnds", desc := "()V" } : Jvm.MethodName)) ∈ GT := GT_t 795 (by decide +kernel) rfl
theorem tw796 : (Jvm.Cond.code ({ cls := "OneBack$Walk", name := "nightEnds", desc := "()V" } : Jvm.MethodName) prog_11_method_12_code (2 : Nat) (Option.none : Option Jvm.ClassFile.FieldType)) ∈ GT := GT_t 796 (by decide +kernel) rfl
theorem tw797 : (Jvm.Cond.methodLink "OneBackLaw" (54 : Nat) ({ cls := "OneBack", name := "state", desc := "(IIIII)I" } : Jvm.MethodName)) ∈ GT := GT_t 797 (by decide +kernel) rfl
theorem tw798 : (Jvm.Cond.instanceMethod ({ cls := "OneBack", name := "state", desc := "(IIIII)I" } : Jvm.MethodName)) ∈ GT := GT_t 798 (by decide +kernel) rfl
theorem tw799 : (Jvm.Cond.selects "OneBack" ({ cls := "OneBack", name := "state", desc := "(IIIII)I" } : Jvm.MethodName) ({ cls := "OneBack", name := "state", desc := "(IIIII)I" } : Jvm.MethodName)) ∈ GT := GT_t 799 (by decide +kernel) rfl
theorem tw800 : (Jvm.Cond.code ({ cls := "OneBack", name := "state", desc := "(IIIII)I" } : Jvm.MethodName) prog_1_method_11_code (6 : Nat) (Option.some Jvm.ClassFile.FieldType.int)) ∈ GT := GT_t 800 (by decide +kernel) rfl
theorem tw801 : (Jvm.Cond.methodLink "OneBack" (191 : Nat) ({ cls := "OneBack", name := "walkJust", desc := "(IIII)Z" } : Jvm.MethodName)) ∈ GT := GT_t 801 (by decide +kernel) rfl
theorem tw803 : (Jvm.Cond.instanceMethod ({ cls := "OneBack", name := "walkJust", desc := "(IIII)Z" } : Jvm.MethodName)) ∈ GT := GT_t 803 (by decide +kernel) rfl
theorem tw804 : (Jvm.Cond.code ({ cls := "OneBack", name := "walkJust", desc := "(IIII)Z" } : Jvm.MethodName) prog_1_method_35_code (5 : Nat) (Option.some Jvm.ClassFile.FieldType.boolean)) ∈ GT := GT_t 804 (by decide +kernel) rfl
theorem tw805 : (Jvm.Cond.methodLink "OneBack" (197 : Nat) ({ cls := "OneBack$Views", name := "queued", desc := "(LOneBack$Walk;I)I" } : Jvm.MethodName)) ∈ GT := GT_t 805 (by decide +kernel) rfl
theorem tw806 : (Jvm.Cond.static ({ cls := "OneBack$Views", name := "queued", desc := "(LOneBack$Walk;I)I" } : Jvm.MethodName)) ∈ GT := GT_t 806 (by decide +kernel) rfl
theorem tw807 : (Jvm.Cond.code ({ cls := "OneBack$Views", name := "queued", desc := "(LOneBack$Walk;I)I" } : Jvm.MethodName) prog_10_method_8_code (3 : Nat) (Option.some Jvm.ClassFile.FieldType.int)) ∈ GT := GT_t 807 (by decide +kernel) rfl
theorem tw808 : (Jvm.Cond.methodLink "OneBack$Views" (79 : Nat) ({ cls := "OneBack$Views", name := "isOdd", desc := "(LOneBack$Walk;I)Z" } : Jvm.MethodName)) ∈ GT := GT_t 808 (by decide +kernel) rfl
theorem tw809 : (Jvm.Cond.static ({ cls := "OneBack$Views", name := "isOdd", desc := "(LOneBack$Walk;I)Z" } : Jvm.MethodName)) ∈ GT := GT_t 809 (by decide +kernel) rfl
theorem tw810 : (Jvm.Cond.code ({ cls := "OneBack$Views", name := "isOdd", desc := "(LOneBack$Walk;I)Z" } : Jvm.MethodName) prog_10_method_9_code (2 : Nat) (Option.some Jvm.ClassFile.FieldType.boolean)) ∈ GT := GT_t 810 (by decide +kernel) rfl
theorem tw811 : (Jvm.Cond.methodLink "OneBack$Views" (90 : Nat) ({ cls := "OneBack$Law", name := "oddOf", desc := "(I)I" } : Jvm.MethodName)) ∈ GT := GT_t 811 (by decide +kernel) rfl
theorem tw812 : (Jvm.Cond.instanceMethod ({ cls := "OneBack$Law", name := "oddOf", desc := "(I)I" } : Jvm.MethodName)) ∈ GT := GT_t 812 (by decide +kernel) rfl
theorem tw813 : (Jvm.Cond.selects "OneBack$Law" ({ cls := "OneBack$Law", name := "oddOf", desc := "(I)I" } : Jvm.MethodName) ({ cls := "OneBack$Law", name := "oddOf", desc := "(I)I" } : Jvm.MethodName)) ∈ GT := GT_t 813 (by decide +kernel) rfl
theorem tw814 : (Jvm.Cond.code ({ cls := "OneBack$Law", name := "oddOf", desc := "(I)I" } : Jvm.MethodName) prog_2_method_6_code (2 : Nat) (Option.some Jvm.ClassFile.FieldType.int)) ∈ GT := GT_t 814 (by decide +kernel) rfl
theorem tw815 : (Jvm.Cond.methodLink "OneBack$Views" (83 : Nat) ({ cls := "OneBack$Views", name := "placeInQueue", desc := "(LOneBack$Walk;I)I" } : Jvm.MethodName)) ∈ GT := GT_t 815 (by decide +kernel) rfl
theorem tw816 : (Jvm.Cond.static ({ cls := "OneBack$Views", name := "placeInQueue", desc := "(LOneBack$Walk;I)I" } : Jvm.MethodName)) ∈ GT := GT_t 816 (by decide +kernel) rfl
theorem tw817 : (Jvm.Cond.code ({ cls := "OneBack$Views", name := "placeInQueue", desc := "(LOneBack$Walk;I)I" } : Jvm.MethodName) prog_10_method_10_code (4 : Nat) (Option.some Jvm.ClassFile.FieldType.int)) ∈ GT := GT_t 817 (by decide +kernel) rfl
theorem tw818 : (Jvm.Cond.methodLink "OneBack" (203 : Nat) ({ cls := "OneBack$Views", name := "seen", desc := "(LOneBack$Walk;I)I" } : Jvm.MethodName)) ∈ GT := GT_t 818 (by decide +kernel) rfl
theorem tw819 : (Jvm.Cond.static ({ cls := "OneBack$Views", name := "seen", desc := "(LOneBack$Walk;I)I" } : Jvm.MethodName)) ∈ GT := GT_t 819 (by decide +kernel) rfl
theorem tw820 : (Jvm.Cond.code ({ cls := "OneBack$Views", name := "seen", desc := "(LOneBack$Walk;I)I" } : Jvm.MethodName) prog_10_method_2_code (2 : Nat) (Option.some Jvm.ClassFile.FieldType.int)) ∈ GT := GT_t 820 (by decide +kernel) rfl
theorem tw821 : (Jvm.Cond.methodLink "OneBack$Views" (9 : Nat) ({ cls := "OneBack$Views", name := "want", desc := "(LOneBack$Walk;)I" } : Jvm.MethodName)) ∈ GT := GT_t 821 (by decide +kernel) rfl
theorem tw822 : (Jvm.Cond.static ({ cls := "OneBack$Views", name := "want", desc := "(LOneBack$Walk;)I" } : Jvm.MethodName)) ∈ GT := GT_t 822 (by decide +kernel) rfl
theorem tw823 : (Jvm.Cond.code ({ cls := "OneBack$Views", name := "want", desc := "(LOneBack$Walk;)I" } : Jvm.MethodName) prog_10_method_4_code (4 : Nat) (Option.some Jvm.ClassFile.FieldType.int)) ∈ GT := GT_t 823 (by decide +kernel) rfl
theorem tw824 : (Jvm.Cond.methodLink "OneBack$Views" (62 : Nat) ({ cls := "OneBack$Walk", name := "lackOf", desc := "(II)I" } : Jvm.MethodName)) ∈ GT := GT_t 824 (by decide +kernel) rfl
theorem tw825 : (Jvm.Cond.instanceMethod ({ cls := "OneBack$Walk", name := "lackOf", desc := "(II)I" } : Jvm.MethodName)) ∈ GT := GT_t 825 (by decide +kernel) rfl
theorem tw826 : (Jvm.Cond.selects "OneBack$Walk" ({ cls := "OneBack$Walk", name := "lackOf", desc := "(II)I" } : Jvm.MethodName) ({ cls := "OneBack$Walk", name := "lackOf", desc := "(II)I" } : Jvm.MethodName)) ∈ GT := GT_t 826 (by decide +kernel) rfl
theorem tw827 : (Jvm.Cond.code ({ cls := "OneBack$Walk", name := "lackOf", desc := "(II)I" } : Jvm.MethodName) prog_11_method_7_code (3 : Nat) (Option.some Jvm.ClassFile.FieldType.int)) ∈ GT := GT_t 827 (by decide +kernel) rfl
theorem tw828 : (Jvm.Cond.methodLink "OneBack$Walk" (133 : Nat) ({ cls := "java/lang/Math", name := "max", desc := "(II)I" } : Jvm.MethodName)) ∈ GT := GT_t 828 (by decide +kernel) rfl
theorem tw829 : (Jvm.Cond.methodLink "OneBack$Views" (21 : Nat) ({ cls := "OneBack$Views", name := "pious", desc := "(LOneBack$Walk;)I" } : Jvm.MethodName)) ∈ GT := GT_t 829 (by decide +kernel) rfl
theorem tw830 : (Jvm.Cond.static ({ cls := "OneBack$Views", name := "pious", desc := "(LOneBack$Walk;)I" } : Jvm.MethodName)) ∈ GT := GT_t 830 (by decide +kernel) rfl
theorem tw831 : (Jvm.Cond.code ({ cls := "OneBack$Views", name := "pious", desc := "(LOneBack$Walk;)I" } : Jvm.MethodName) prog_10_method_5_code (3 : Nat) (Option.some Jvm.ClassFile.FieldType.int)) ∈ GT := GT_t 831 (by decide +kernel) rfl
theorem tw832 : (Jvm.Cond.methodLink "OneBack$Views" (52 : Nat) ({ cls := "OneBack$Walk", name := "owesOf", desc := "(I)I" } : Jvm.MethodName)) ∈ GT := GT_t 832 (by decide +kernel) rfl
theorem tw833 : (Jvm.Cond.methodLink "OneBack$Views" (24 : Nat) ({ cls := "OneBack$Views", name := "seenOf", desc := "(LOneBack$Walk;II)I" } : Jvm.MethodName)) ∈ GT := GT_t 833 (by decide +kernel) rfl
theorem tw834 : (Jvm.Cond.static ({ cls := "OneBack$Views", name := "seenOf", desc := "(LOneBack$Walk;II)I" } : Jvm.MethodName)) ∈ GT := GT_t 834 (by decide +kernel) rfl
theorem tw835 : (Jvm.Cond.code ({ cls := "OneBack$Views", name := "seenOf", desc := "(LOneBack$Walk;II)I" } : Jvm.MethodName) prog_10_method_3_code (3 : Nat) (Option.some Jvm.ClassFile.FieldType.int)) ∈ GT := GT_t 835 (by decide +kernel) rfl
theorem tw836 : (Jvm.Cond.methodLink "OneBack$Views" (32 : Nat) ({ cls := "OneBack$Town", name := "isHouse", desc := "(I)Z" } : Jvm.MethodName)) ∈ GT := GT_t 836 (by decide +kernel) rfl
theorem tw837 : (Jvm.Cond.methodLink "OneBack$Views" (38 : Nat) ({ cls := "OneBack$Views", name := "lost", desc := "(LOneBack$Walk;I)I" } : Jvm.MethodName)) ∈ GT := GT_t 837 (by decide +kernel) rfl
theorem tw838 : (Jvm.Cond.static ({ cls := "OneBack$Views", name := "lost", desc := "(LOneBack$Walk;I)I" } : Jvm.MethodName)) ∈ GT := GT_t 838 (by decide +kernel) rfl
theorem tw839 : (Jvm.Cond.code ({ cls := "OneBack$Views", name := "lost", desc := "(LOneBack$Walk;I)I" } : Jvm.MethodName) prog_10_method_6_code (4 : Nat) (Option.some Jvm.ClassFile.FieldType.int)) ∈ GT := GT_t 839 (by decide +kernel) rfl
theorem tw840 : (Jvm.Cond.methodLink "OneBack$Views" (69 : Nat) ({ cls := "OneBack$Views", name := "tookFrom", desc := "(LOneBack$Walk;II)I" } : Jvm.MethodName)) ∈ GT := GT_t 840 (by decide +kernel) rfl
theorem tw841 : (Jvm.Cond.static ({ cls := "OneBack$Views", name := "tookFrom", desc := "(LOneBack$Walk;II)I" } : Jvm.MethodName)) ∈ GT := GT_t 841 (by decide +kernel) rfl
theorem tw842 : (Jvm.Cond.code ({ cls := "OneBack$Views", name := "tookFrom", desc := "(LOneBack$Walk;II)I" } : Jvm.MethodName) prog_10_method_7_code (5 : Nat) (Option.some Jvm.ClassFile.FieldType.int)) ∈ GT := GT_t 842 (by decide +kernel) rfl
theorem tw844 : (Jvm.Cond.methodLink "OneBack$Views" (42 : Nat) ({ cls := "OneBack$Town", name := "isThief", desc := "(I)Z" } : Jvm.MethodName)) ∈ GT := GT_t 844 (by decide +kernel) rfl
theorem tw845 : (Jvm.Cond.methodLink "OneBackLaw" (58 : Nat) ({ cls := "OneBack", name := "goods", desc := "(IIIIIII)I" } : Jvm.MethodName)) ∈ GT := GT_t 845 (by decide +kernel) rfl
theorem tw846 : (Jvm.Cond.instanceMethod ({ cls := "OneBack", name := "goods", desc := "(IIIIIII)I" } : Jvm.MethodName)) ∈ GT := GT_t 846 (by decide +kernel) rfl
theorem tw847 : (Jvm.Cond.selects "OneBack" ({ cls := "OneBack", name := "goods", desc := "(IIIIIII)I" } : Jvm.MethodName) ({ cls := "OneBack", name := "goods", desc := "(IIIIIII)I" } : Jvm.MethodName)) ∈ GT := GT_t 847 (by decide +kernel) rfl
theorem tw848 : (Jvm.Cond.code ({ cls := "OneBack", name := "goods", desc := "(IIIIIII)I" } : Jvm.MethodName) prog_1_method_12_code (10 : Nat) (Option.some Jvm.ClassFile.FieldType.int)) ∈ GT := GT_t 848 (by decide +kernel) rfl
theorem tw849 : (Jvm.Cond.methodLink "OneBack" (217 : Nat) ({ cls := "OneBack", name := "cell", desc := "(III)I" } : Jvm.MethodName)) ∈ GT := GT_t 849 (by decide +kernel) rfl
theorem tw850 : (Jvm.Cond.methodLink "OneBackLaw" (63 : Nat) ({ cls := "OneBack", name := "aid", desc := "(II)I" } : Jvm.MethodName)) ∈ GT := GT_t 850 (by decide +kernel) rfl
theorem tw851 : (Jvm.Cond.instanceMethod ({ cls := "OneBack", name := "aid", desc := "(II)I" } : Jvm.MethodName)) ∈ GT := GT_t 851 (by decide +kernel) rfl
theorem tw852 : (Jvm.Cond.selects "OneBack" ({ cls := "OneBack", name := "aid", desc := "(II)I" } : Jvm.MethodName) ({ cls := "OneBack", name := "aid", desc := "(II)I" } : Jvm.MethodName)) ∈ GT := GT_t 852 (by decide +kernel) rfl
theorem tw853 : (Jvm.Cond.code ({ cls := "OneBack", name := "aid", desc := "(II)I" } : Jvm.MethodName) prog_1_method_13_code (4 : Nat) (Option.some Jvm.ClassFile.FieldType.int)) ∈ GT := GT_t 853 (by decide +kernel) rfl
theorem tw854 : (Jvm.Cond.methodLink "OneBack" (220 : Nat) ({ cls := "OneBack$Supply", name := "isAsked", desc := "(LOneBack$Town;I)Z" } : Jvm.MethodName)) ∈ GT := GT_t 854 (by decide +kernel) rfl
theorem tw855 : (Jvm.Cond.static ({ cls := "OneBack$Supply", name := "isAsked", desc := "(LOneBack$Town;I)Z" } : Jvm.MethodName)) ∈ GT := GT_t 855 (by decide +kernel) rfl
theorem tw856 : (Jvm.Cond.code ({ cls := "OneBack$Supply", name := "isAsked", desc := "(LOneBack$Town;I)Z" } : Jvm.MethodName) prog_7_method_2_code (2 : Nat) (Option.some Jvm.ClassFile.FieldType.boolean)) ∈ GT := GT_t 856 (by decide +kernel) rfl
theorem tw857 : (Jvm.Cond.methodLink "OneBack" (224 : Nat) ({ cls := "OneBack$Supply", name := "isEnough", desc := "(LOneBack$Town;)Z" } : Jvm.MethodName)) ∈ GT := GT_t 857 (by decide +kernel) rfl
theorem tw858 : (Jvm.Cond.static ({ cls := "OneBack$Supply", name := "isEnough", desc := "(LOneBack$Town;)Z" } : Jvm.MethodName)) ∈ GT := GT_t 858 (by decide +kernel) rfl
theorem tw859 : (Jvm.Cond.code ({ cls := "OneBack$Supply", name := "isEnough", desc := "(LOneBack$Town;)Z" } : Jvm.MethodName) prog_7_method_3_code (2 : Nat) (Option.some Jvm.ClassFile.FieldType.boolean)) ∈ GT := GT_t 859 (by decide +kernel) rfl
theorem tw860 : (Jvm.Cond.methodLink "OneBack$Supply" (24 : Nat) ({ cls := "OneBack$Town", name := "spareOfAll", desc := "(I)I" } : Jvm.MethodName)) ∈ GT := GT_t 860 (by decide +kernel) rfl
theorem tw861 : (Jvm.Cond.instanceMethod ({ cls := "OneBack$Town", name := "spareOfAll", desc := "(I)I" } : Jvm.MethodName)) ∈ GT := GT_t 861 (by decide +kernel) rfl
theorem tw862 : (Jvm.Cond.selects "OneBack$Town" ({ cls := "OneBack$Town", name := "spareOfAll", desc := "(I)I" } : Jvm.MethodName) ({ cls := "OneBack$Town", name := "spareOfAll", desc := "(I)I" } : Jvm.MethodName)) ∈ GT := GT_t 862 (by decide +kernel) rfl
theorem tw863 : (Jvm.Cond.code ({ cls := "OneBack$Town", name := "spareOfAll", desc := "(I)I" } : Jvm.MethodName) prog_9_method_10_code (4 : Nat) (Option.some Jvm.ClassFile.FieldType.int)) ∈ GT := GT_t 863 (by decide +kernel) rfl
theorem tw864 : (Jvm.Cond.methodLink "OneBack$Town" (63 : Nat) ({ cls := "OneBack$Town", name := "spareOf", desc := "(II)I" } : Jvm.MethodName)) ∈ GT := GT_t 864 (by decide +kernel) rfl
theorem tw865 : (Jvm.Cond.methodLink "OneBack$Supply" (28 : Nat) ({ cls := "OneBack$Town", name := "lackOfAll", desc := "(I)I" } : Jvm.MethodName)) ∈ GT := GT_t 865 (by decide +kernel) rfl
theorem tw866 : (Jvm.Cond.instanceMethod ({ cls := "OneBack$Town", name := "lackOfAll", desc := "(I)I" } : Jvm.MethodName)) ∈ GT := GT_t 866 (by decide +kernel) rfl
theorem tw867 : (Jvm.Cond.selects "OneBack$Town" ({ cls := "OneBack$Town", name := "lackOfAll", desc := "(I)I" } : Jvm.MethodName) ({ cls := "OneBack$Town", name := "lackOfAll", desc := "(I)I" } : Jvm.MethodName)) ∈ GT := GT_t 867 (by decide +kernel) rfl
theorem tw868 : (Jvm.Cond.code ({ cls := "OneBack$Town", name := "lackOfAll", desc := "(I)I" } : Jvm.MethodName) prog_9_method_11_code (4 : Nat) (Option.some Jvm.ClassFile.FieldType.int)) ∈ GT := GT_t 868 (by decide +kernel) rfl
theorem tw869 : (Jvm.Cond.methodLink "OneBack$Town" (66 : Nat) ({ cls := "OneBack$Town", name := "lackOf", desc := "(II)I" } : Jvm.MethodName)) ∈ GT := GT_t 869 (by decide +kernel) rfl
theorem tw870 : (Jvm.Cond.methodLink "OneBack" (228 : Nat) ({ cls := "OneBack$Supply", name := "answer", desc := "(LOneBack$Town;I)I" } : Jvm.MethodName)) ∈ GT := GT_t 870 (by decide +kernel) rfl
theorem tw871 : (Jvm.Cond.static ({ cls := "OneBack$Supply", name := "answer", desc := "(LOneBack$Town;I)I" } : Jvm.MethodName)) ∈ GT := GT_t 871 (by decide +kernel) rfl
theorem tw872 : (Jvm.Cond.code ({ cls := "OneBack$Supply", name := "answer", desc := "(LOneBack$Town;I)I" } : Jvm.MethodName) prog_7_method_4_code (7 : Nat) (Option.some Jvm.ClassFile.FieldType.int)) ∈ GT := GT_t 872 (by decide +kernel) rfl
theorem tw873 : (Jvm.Cond.methodLink "OneBack$Supply" (31 : Nat) ({ cls := "OneBack$Supply", name := "takenFrom", desc := "(LOneBack$Town;II)I" } : Jvm.MethodName)) ∈ GT := GT_t 873 (by decide +kernel) rfl
theorem tw874 : (Jvm.Cond.static ({ cls := "OneBack$Supply", name := "takenFrom", desc := "(LOneBack$Town;II)I" } : Jvm.MethodName)) ∈ GT := GT_t 874 (by decide +kernel) rfl
theorem tw875 : (Jvm.Cond.code ({ cls := "OneBack$Supply", name := "takenFrom", desc := "(LOneBack$Town;II)I" } : Jvm.MethodName) prog_7_method_5_code (6 : Nat) (Option.some Jvm.ClassFile.FieldType.int)) ∈ GT := GT_t 875 (by decide +kernel) rfl
theorem tw876 : (Jvm.Cond.methodLink "OneBack$Supply" (46 : Nat) ({ cls := "OneBack$Town", name := "spareOf", desc := "(II)I" } : Jvm.MethodName)) ∈ GT := GT_t 876 (by decide +kernel) rfl
theorem tw877 : (Jvm.Cond.methodLink "OneBack$Supply" (49 : Nat) ({ cls := "java/lang/Math", name := "min", desc := "(II)I" } : Jvm.MethodName)) ∈ GT := GT_t 877 (by decide +kernel) rfl
theorem tw878 : (Jvm.Cond.methodLink "OneBack$Supply" (54 : Nat) ({ cls := "java/lang/Math", name := "max", desc := "(II)I" } : Jvm.MethodName)) ∈ GT := GT_t 878 (by decide +kernel) rfl
theorem tw879 : (Jvm.Cond.methodLink "OneBack$Supply" (38 : Nat) ({ cls := "OneBack$Town", name := "limitOfAll", desc := "()I" } : Jvm.MethodName)) ∈ GT := GT_t 879 (by decide +kernel) rfl
theorem tw880 : (Jvm.Cond.instanceMethod ({ cls := "OneBack$Town", name := "limitOfAll", desc := "()I" } : Jvm.MethodName)) ∈ GT := GT_t 880 (by decide +kernel) rfl
theorem tw881 : (Jvm.Cond.selects "OneBack$Town" ({ cls := "OneBack$Town", name := "limitOfAll", desc := "()I" } : Jvm.MethodName) ({ cls := "OneBack$Town", name := "limitOfAll", desc := "()I" } : Jvm.MethodName)) ∈ GT := GT_t 881 (by decide +kernel) rfl
theorem tw882 : (Jvm.Cond.code ({ cls := "OneBack$Town", name := "limitOfAll", desc := "()I" } : Jvm.MethodName) prog_9_method_12_code (3 : Nat) (Option.some Jvm.ClassFile.FieldType.int)) ∈ GT := GT_t 882 (by decide +kernel) rfl
theorem tw883 : (Jvm.Cond.methodLink "OneBack$Supply" (42 : Nat) ({ cls := "OneBack$Supply", name := "nightsFor", desc := "(II)I" } : Jvm.MethodName)) ∈ GT := GT_t 883 (by decide +kernel) rfl
theorem tw884 : (Jvm.Cond.static ({ cls := "OneBack$Supply", name := "nightsFor", desc := "(II)I" } : Jvm.MethodName)) ∈ GT := GT_t 884 (by decide +kernel) rfl
theorem tw885 : (Jvm.Cond.code ({ cls := "OneBack$Supply", name := "nightsFor", desc := "(II)I" } : Jvm.MethodName) prog_7_method_6_code (2 : Nat) (Option.some Jvm.ClassFile.FieldType.int)) ∈ GT := GT_t 885 (by decide +kernel) rfl
theorem tw886 : (Jvm.Cond.methodLink "OneBackLaw" (67 : Nat) ({ cls := "OneBack", name := "carry", desc := "(I)I" } : Jvm.MethodName)) ∈ GT := GT_t 886 (by decide +kernel) rfl
theorem tw887 : (Jvm.Cond.instanceMethod ({ cls := "OneBack", name := "carry", desc := "(I)I" } : Jvm.MethodName)) ∈ GT := GT_t 887 (by decide +kernel) rfl
theorem tw888 : (Jvm.Cond.selects "OneBack" ({ cls := "OneBack", name := "carry", desc := "(I)I" } : Jvm.MethodName) ({ cls := "OneBack", name := "carry", desc := "(I)I" } : Jvm.MethodName)) ∈ GT := GT_t 888 (by decide +kernel) rfl
theorem tw889 : (Jvm.Cond.code ({ cls := "OneBack", name := "carry", desc := "(I)I" } : Jvm.MethodName) prog_1_method_14_code (3 : Nat) (Option.some Jvm.ClassFile.FieldType.int)) ∈ GT := GT_t 889 (by decide +kernel) rfl
theorem tw890 : (Jvm.Cond.methodLink "OneBack" (232 : Nat) ({ cls := "OneBack$Supply", name := "carryAll", desc := "(LOneBack$Town;)I" } : Jvm.MethodName)) ∈ GT := GT_t 890 (by decide +kernel) rfl
theorem tw891 : (Jvm.Cond.instanceMethod ({ cls := "OneBack$Supply", name := "carryAll", desc := "(LOneBack$Town;)I" } : Jvm.MethodName)) ∈ GT := GT_t 891 (by decide +kernel) rfl
theorem tw892 : (Jvm.Cond.selects "OneBack$Supply" ({ cls := "OneBack$Supply", name := "carryAll", desc := "(LOneBack$Town;)I" } : Jvm.MethodName) ({ cls := "OneBack$Supply", name := "carryAll", desc := "(LOneBack$Town;)I" } : Jvm.MethodName)) ∈ GT := GT_t 892 (by decide +kernel) rfl
theorem tw893 : (Jvm.Cond.code ({ cls := "OneBack$Supply", name := "carryAll", desc := "(LOneBack$Town;)I" } : Jvm.MethodName) prog_7_method_7_code (4 : Nat) (Option.some Jvm.ClassFile.FieldType.int)) ∈ GT := GT_t 893 (by decide +kernel) rfl
theorem tw894 : (Jvm.Cond.methodLink "OneBack$Supply" (57 : Nat) ({ cls := "OneBack$Supply", name := "isEnough", desc := "(LOneBack$Town;)Z" } : Jvm.MethodName)) ∈ GT := GT_t 894 (by decide +kernel) rfl
theorem tw895 : (Jvm.Cond.methodLink "OneBack$Supply" (64 : Nat) ({ cls := "OneBack$Supply", name := "carryGood", desc := "(LOneBack$Town;I)I" } : Jvm.MethodName)) ∈ GT := GT_t 895 (by decide +kernel) rfl
theorem tw897 : (Jvm.Cond.instanceMethod ({ cls := "OneBack$Supply", name := "carryGood", desc := "(LOneBack$Town;I)I" } : Jvm.MethodName)) ∈ GT := GT_t 897 (by decide +kernel) rfl
theorem tw898 : (Jvm.Cond.code ({ cls := "OneBack$Supply", name := "carryGood", desc := "(LOneBack$Town;I)I" } : Jvm.MethodName) prog_7_method_8_code (8 : Nat) (Option.some Jvm.ClassFile.FieldType.int)) ∈ GT := GT_t 898 (by decide +kernel) rfl
theorem tw899 : (Jvm.Cond.constant "OneBack$Supply" (68 : Nat) (1000000 : Int32)) ∈ GT := GT_t 899 (by decide +kernel) rfl
theorem tw901 : (Jvm.Cond.methodLink "OneBack$Supply" (73 : Nat) ({ cls := "OneBack$Town", name := "lackOf", desc := "(II)I" } : Jvm.MethodName)) ∈ GT := GT_t 901 (by decide +kernel) rfl
theorem tw902 : (Jvm.Cond.methodLink "OneBack$Supply" (76 : Nat) ({ cls := "OneBack$Supply", name := "leastOf", desc := "(II)I" } : Jvm.MethodName)) ∈ GT := GT_t 902 (by decide +kernel) rfl
theorem tw904 : (Jvm.Cond.instanceMethod ({ cls := "OneBack$Supply", name := "leastOf", desc := "(II)I" } : Jvm.MethodName)) ∈ GT := GT_t 904 (by decide +kernel) rfl
theorem tw905 : (Jvm.Cond.code ({ cls := "OneBack$Supply", name := "leastOf", desc := "(II)I" } : Jvm.MethodName) prog_7_method_9_code (5 : Nat) (Option.some Jvm.ClassFile.FieldType.int)) ∈ GT := GT_t 905 (by decide +kernel) rfl
theorem tw906 : (Jvm.Cond.methodLink "OneBack$Supply" (79 : Nat) ({ cls := "java/lang/Math", name := "abs", desc := "(I)I" } : Jvm.MethodName)) ∈ GT := GT_t 906 (by decide +kernel) rfl
theorem tw907 : (Jvm.Cond.static ({ cls := "java/lang/Math", name := "abs", desc := "(I)I" } : Jvm.MethodName)) ∈ GT := GT_t 907 (by decide +kernel) rfl
theorem tw908 : (Jvm.Cond.code ({ cls := "java/lang/Math", name := "abs", desc := "(I)I" } : Jvm.MethodName) prog_15_method_59_code (1 : Nat) (Option.some Jvm.ClassFile.FieldType.int)) ∈ GT := GT_t 908 (by decide +kernel) rfl
theorem tw909 : (Jvm.Cond.methodLink "OneBackLaw" (71 : Nat) ({ cls := "OneBack", name := "round", desc := "(II)I" } : Jvm.MethodName)) ∈ GT := GT_t 909 (by decide +kernel) rfl
theorem tw910 : (Jvm.Cond.instanceMethod ({ cls := "OneBack", name := "round", desc := "(II)I" } : Jvm.MethodName)) ∈ GT := GT_t 910 (by decide +kernel) rfl
theorem tw911 : (Jvm.Cond.selects "OneBack" ({ cls := "OneBack", name := "round", desc := "(II)I" } : Jvm.MethodName) ({ cls := "OneBack", name := "round", desc := "(II)I" } : Jvm.MethodName)) ∈ GT := GT_t 911 (by decide +kernel) rfl
theorem tw912 : (Jvm.Cond.code ({ cls := "OneBack", name := "round", desc := "(II)I" } : Jvm.MethodName) prog_1_method_15_code (4 : Nat) (Option.some Jvm.ClassFile.FieldType.int)) ∈ GT := GT_t 912 (by decide +kernel) rfl
theorem tw913 : (Jvm.Cond.methodLink "OneBack" (236 : Nat) ({ cls := "OneBack$Town", name := "allHome", desc := "()I" } : Jvm.MethodName)) ∈ GT := GT_t 913 (by decide +kernel) rfl
theorem tw914 : (Jvm.Cond.instanceMethod ({ cls := "OneBack$Town", name := "allHome", desc := "()I" } : Jvm.MethodName)) ∈ GT := GT_t 914 (by decide +kernel) rfl
theorem tw915 : (Jvm.Cond.selects "OneBack$Town" ({ cls := "OneBack$Town", name := "allHome", desc := "()I" } : Jvm.MethodName) ({ cls := "OneBack$Town", name := "allHome", desc := "()I" } : Jvm.MethodName)) ∈ GT := GT_t 915 (by decide +kernel) rfl
theorem tw916 : (Jvm.Cond.code ({ cls := "OneBack$Town", name := "allHome", desc := "()I" } : Jvm.MethodName) prog_9_method_20_code (5 : Nat) (Option.some Jvm.ClassFile.FieldType.int)) ∈ GT := GT_t 916 (by decide +kernel) rfl
theorem tw917 : (Jvm.Cond.methodLink "OneBack$Town" (85 : Nat) ({ cls := "OneBack$Town", name := "homeAgain", desc := "(I)I" } : Jvm.MethodName)) ∈ GT := GT_t 917 (by decide +kernel) rfl
theorem tw918 : (Jvm.Cond.instanceMethod ({ cls := "OneBack$Town", name := "homeAgain", desc := "(I)I" } : Jvm.MethodName)) ∈ GT := GT_t 918 (by decide +kernel) rfl
theorem tw919 : (Jvm.Cond.selects "OneBack$Town" ({ cls := "OneBack$Town", name := "homeAgain", desc := "(I)I" } : Jvm.MethodName) ({ cls := "OneBack$Town", name := "homeAgain", desc := "(I)I" } : Jvm.MethodName)) ∈ GT := GT_t 919 (by decide +kernel) rfl
theorem tw920 : (Jvm.Cond.code ({ cls := "OneBack$Town", name := "homeAgain", desc := "(I)I" } : Jvm.MethodName) prog_9_method_19_code (4 : Nat) (Option.some Jvm.ClassFile.FieldType.int)) ∈ GT := GT_t 920 (by decide +kernel) rfl
theorem tw922 : (Jvm.Cond.static ({ cls := "OneBack", name := "commonDivisor", desc := "(II)I" } : Jvm.MethodName)) ∈ GT := GT_t 922 (by decide +kernel) rfl
theorem tw923 : (Jvm.Cond.code ({ cls := "OneBack", name := "commonDivisor", desc := "(II)I" } : Jvm.MethodName) prog_1_method_41_code (6 : Nat) (Option.some Jvm.ClassFile.FieldType.int)) ∈ GT := GT_t 923 (by decide +kernel) rfl
theorem tw924 : (Jvm.Cond.methodLink "OneBack" (240 : Nat) ({ cls := "OneBack$Town", name := "homeAgain", desc := "(I)I" } : Jvm.MethodName)) ∈ GT := GT_t 924 (by decide +kernel) rfl
theorem tw925 : (Jvm.Cond.methodLink "OneBackLaw" (75 : Nat) ({ cls := "OneBack", name := "meets", desc := "(III)I" } : Jvm.MethodName)) ∈ GT := GT_t 925 (by decide +kernel) rfl
theorem tw926 : (Jvm.Cond.instanceMethod ({ cls := "OneBack", name := "meets", desc := "(III)I" } : Jvm.MethodName)) ∈ GT := GT_t 926 (by decide +kernel) rfl
theorem tw927 : (Jvm.Cond.selects "OneBack" ({ cls := "OneBack", name := "meets", desc := "(III)I" } : Jvm.MethodName) ({ cls := "OneBack", name := "meets", desc := "(III)I" } : Jvm.MethodName)) ∈ GT := GT_t 927 (by decide +kernel) rfl
theorem tw928 : (Jvm.Cond.code ({ cls := "OneBack", name := "meets", desc := "(III)I" } : Jvm.MethodName) prog_1_method_16_code (5 : Nat) (Option.some Jvm.ClassFile.FieldType.int)) ∈ GT := GT_t 928 (by decide +kernel) rfl
theorem tw929 : (Jvm.Cond.methodLink "OneBack" (243 : Nat) ({ cls := "OneBack$Town", name := "meeting", desc := "(II)I" } : Jvm.MethodName)) ∈ GT := GT_t 929 (by decide +kernel) rfl
theorem tw930 : (Jvm.Cond.instanceMethod ({ cls := "OneBack$Town", name := "meeting", desc := "(II)I" } : Jvm.MethodName)) ∈ GT := GT_t 930 (by decide +kernel) rfl
theorem tw931 : (Jvm.Cond.selects "OneBack$Town" ({ cls := "OneBack$Town", name := "meeting", desc := "(II)I" } : Jvm.MethodName) ({ cls := "OneBack$Town", name := "meeting", desc := "(II)I" } : Jvm.MethodName)) ∈ GT := GT_t 931 (by decide +kernel) rfl
theorem tw932 : (Jvm.Cond.code ({ cls := "OneBack$Town", name := "meeting", desc := "(II)I" } : Jvm.MethodName) prog_9_method_21_code (6 : Nat) (Option.some Jvm.ClassFile.FieldType.int)) ∈ GT := GT_t 932 (by decide +kernel) rfl
theorem tw933 : (Jvm.Cond.methodLink "OneBackLaw" (79 : Nat) ({ cls := "OneBack", name := "sight", desc := "(II)I" } : Jvm.MethodName)) ∈ GT := GT_t 933 (by decide +kernel) rfl
theorem tw934 : (Jvm.Cond.instanceMethod ({ cls := "OneBack", name := "sight", desc := "(II)I" } : Jvm.MethodName)) ∈ GT := GT_t 934 (by decide +kernel) rfl
theorem tw935 : (Jvm.Cond.selects "OneBack" ({ cls := "OneBack", name := "sight", desc := "(II)I" } : Jvm.MethodName) ({ cls := "OneBack", name := "sight", desc := "(II)I" } : Jvm.MethodName)) ∈ GT := GT_t 935 (by decide +kernel) rfl
theorem tw936 : (Jvm.Cond.code ({ cls := "OneBack", name := "sight", desc := "(II)I" } : Jvm.MethodName) prog_1_method_17_code (4 : Nat) (Option.some Jvm.ClassFile.FieldType.int)) ∈ GT := GT_t 936 (by decide +kernel) rfl
theorem tw937 : (Jvm.Cond.methodLink "OneBack" (246 : Nat) ({ cls := "OneBack$Told", name := "sightAt", desc := "(I)LOneBack$Sight;" } : Jvm.MethodName)) ∈ GT := GT_t 937 (by decide +kernel) rfl
theorem tw938 : (Jvm.Cond.instanceMethod ({ cls := "OneBack$Told", name := "sightAt", desc := "(I)LOneBack$Sight;" } : Jvm.MethodName)) ∈ GT := GT_t 938 (by decide +kernel) rfl
theorem tw939 : (Jvm.Cond.selects "OneBack$Told" ({ cls := "OneBack$Told", name := "sightAt", desc := "(I)LOneBack$Sight;" } : Jvm.MethodName) ({ cls := "OneBack$Told", name := "sightAt", desc := "(I)LOneBack$Sight;" } : Jvm.MethodName)) ∈ GT := GT_t 939 (by decide +kernel) rfl
theorem tw940 : (Jvm.Cond.code ({ cls := "OneBack$Told", name := "sightAt", desc := "(I)LOneBack$Sight;" } : Jvm.MethodName) prog_8_method_7_code (2 : Nat) (Option.some (Jvm.ClassFile.FieldType.object "OneBack$Sight"))) ∈ GT := GT_t 940 (by decide +kernel) rfl
theorem tw941 : (Jvm.Cond.methodLink "OneBackLaw" (83 : Nat) ({ cls := "OneBack", name := "hands", desc := "(IIIII)I" } : Jvm.MethodName)) ∈ GT := GT_t 941 (by decide +kernel) rfl
theorem tw942 : (Jvm.Cond.instanceMethod ({ cls := "OneBack", name := "hands", desc := "(IIIII)I" } : Jvm.MethodName)) ∈ GT := GT_t 942 (by decide +kernel) rfl
theorem tw943 : (Jvm.Cond.selects "OneBack" ({ cls := "OneBack", name := "hands", desc := "(IIIII)I" } : Jvm.MethodName) ({ cls := "OneBack", name := "hands", desc := "(IIIII)I" } : Jvm.MethodName)) ∈ GT := GT_t 943 (by decide +kernel) rfl
theorem tw944 : (Jvm.Cond.code ({ cls := "OneBack", name := "hands", desc := "(IIIII)I" } : Jvm.MethodName) prog_1_method_18_code (7 : Nat) (Option.some Jvm.ClassFile.FieldType.int)) ∈ GT := GT_t 944 (by decide +kernel) rfl
theorem tw945 : (Jvm.Cond.methodLink "OneBack" (262 : Nat) ({ cls := "OneBack$Sight", name := "ways", desc := "(LOneBack$Walk;)I" } : Jvm.MethodName)) ∈ GT := GT_t 945 (by decide +kernel) rfl
theorem tw946 : (Jvm.Cond.instanceMethod ({ cls := "OneBack$Sight", name := "ways", desc := "(LOneBack$Walk;)I" } : Jvm.MethodName)) ∈ GT := GT_t 946 (by decide +kernel) rfl
theorem tw947 : (Jvm.Cond.selects "OneBack$Sight" ({ cls := "OneBack$Sight", name := "ways", desc := "(LOneBack$Walk;)I" } : Jvm.MethodName) ({ cls := "OneBack$Sight", name := "ways", desc := "(LOneBack$Walk;)I" } : Jvm.MethodName)) ∈ GT := GT_t 947 (by decide +kernel) rfl
theorem tw948 : (Jvm.Cond.code ({ cls := "OneBack$Sight", name := "ways", desc := "(LOneBack$Walk;)I" } : Jvm.MethodName) prog_6_method_5_code (4 : Nat) (Option.some Jvm.ClassFile.FieldType.int)) ∈ GT := GT_t 948 (by decide +kernel) rfl
theorem tw949 : (Jvm.Cond.methodLink "OneBack$Sight" (36 : Nat) ({ cls := "OneBack$Sight", name := "alike", desc := "(III)I" } : Jvm.MethodName)) ∈ GT := GT_t 949 (by decide +kernel) rfl
theorem tw951 : (Jvm.Cond.instanceMethod ({ cls := "OneBack$Sight", name := "alike", desc := "(III)I" } : Jvm.MethodName)) ∈ GT := GT_t 951 (by decide +kernel) rfl
theorem tw952 : (Jvm.Cond.code ({ cls := "OneBack$Sight", name := "alike", desc := "(III)I" } : Jvm.MethodName) prog_6_method_6_code (6 : Nat) (Option.some Jvm.ClassFile.FieldType.int)) ∈ GT := GT_t 952 (by decide +kernel) rfl
theorem tw953 : (Jvm.Cond.methodLink "OneBack$Sight" (40 : Nat) ({ cls := "OneBack$Sight", name := "waysOf", desc := "(LOneBack$Walk;III)I" } : Jvm.MethodName)) ∈ GT := GT_t 953 (by decide +kernel) rfl
theorem tw955 : (Jvm.Cond.instanceMethod ({ cls := "OneBack$Sight", name := "waysOf", desc := "(LOneBack$Walk;III)I" } : Jvm.MethodName)) ∈ GT := GT_t 955 (by decide +kernel) rfl
theorem tw956 : (Jvm.Cond.code ({ cls := "OneBack$Sight", name := "waysOf", desc := "(LOneBack$Walk;III)I" } : Jvm.MethodName) prog_6_method_7_code (8 : Nat) (Option.some Jvm.ClassFile.FieldType.int)) ∈ GT := GT_t 956 (by decide +kernel) rfl
theorem tw958 : (Jvm.Cond.methodLink "OneBack$Sight" (52 : Nat) ({ cls := "java/lang/Math", name := "min", desc := "(II)I" } : Jvm.MethodName)) ∈ GT := GT_t 958 (by decide +kernel) rfl
theorem tw959 : (Jvm.Cond.methodLink "OneBack$Sight" (58 : Nat) ({ cls := "OneBack$Sight", name := "choices", desc := "(II)I" } : Jvm.MethodName)) ∈ GT := GT_t 959 (by decide +kernel) rfl
theorem tw960 : (Jvm.Cond.static ({ cls := "OneBack$Sight", name := "choices", desc := "(II)I" } : Jvm.MethodName)) ∈ GT := GT_t 960 (by decide +kernel) rfl
theorem tw961 : (Jvm.Cond.code ({ cls := "OneBack$Sight", name := "choices", desc := "(II)I" } : Jvm.MethodName) prog_6_method_8_code (4 : Nat) (Option.some Jvm.ClassFile.FieldType.int)) ∈ GT := GT_t 961 (by decide +kernel) rfl
theorem tw962 : (Jvm.Cond.methodLink "OneBack" (266 : Nat) ({ cls := "OneBack$Sight", name := "mayBe", desc := "(LOneBack$Walk;I)I" } : Jvm.MethodName)) ∈ GT := GT_t 962 (by decide +kernel) rfl
theorem tw963 : (Jvm.Cond.instanceMethod ({ cls := "OneBack$Sight", name := "mayBe", desc := "(LOneBack$Walk;I)I" } : Jvm.MethodName)) ∈ GT := GT_t 963 (by decide +kernel) rfl
theorem tw964 : (Jvm.Cond.selects "OneBack$Sight" ({ cls := "OneBack$Sight", name := "mayBe", desc := "(LOneBack$Walk;I)I" } : Jvm.MethodName) ({ cls := "OneBack$Sight", name := "mayBe", desc := "(LOneBack$Walk;I)I" } : Jvm.MethodName)) ∈ GT := GT_t 964 (by decide +kernel) rfl
theorem tw965 : (Jvm.Cond.code ({ cls := "OneBack$Sight", name := "mayBe", desc := "(LOneBack$Walk;I)I" } : Jvm.MethodName) prog_6_method_9_code (5 : Nat) (Option.some Jvm.ClassFile.FieldType.int)) ∈ GT := GT_t 965 (by decide +kernel) rfl
theorem tw966 : (Jvm.Cond.methodLink "OneBack$Sight" (61 : Nat) ({ cls := "OneBack$Sight", name := "ways", desc := "(LOneBack$Walk;)I" } : Jvm.MethodName)) ∈ GT := GT_t 966 (by decide +kernel) rfl
theorem tw967 : (Jvm.Cond.methodLink "OneBackLaw" (87 : Nat) ({ cls := "OneBack", name := "moved", desc := "(IIZ)I" } : Jvm.MethodName)) ∈ GT := GT_t 967 (by decide +kernel) rfl
theorem tw968 : (Jvm.Cond.instanceMethod ({ cls := "OneBack", name := "moved", desc := "(IIZ)I" } : Jvm.MethodName)) ∈ GT := GT_t 968 (by decide +kernel) rfl
theorem tw969 : (Jvm.Cond.selects "OneBack" ({ cls := "OneBack", name := "moved", desc := "(IIZ)I" } : Jvm.MethodName) ({ cls := "OneBack", name := "moved", desc := "(IIZ)I" } : Jvm.MethodName)) ∈ GT := GT_t 969 (by decide +kernel) rfl
theorem tw970 : (Jvm.Cond.code ({ cls := "OneBack", name := "moved", desc := "(IIZ)I" } : Jvm.MethodName) prog_1_method_19_code (6 : Nat) (Option.some Jvm.ClassFile.FieldType.int)) ∈ GT := GT_t 970 (by decide +kernel) rfl
theorem tw971 : (Jvm.Cond.methodLink "OneBack" (269 : Nat) ({ cls := "OneBack$Sight", name := "movedFrom", desc := "(LOneBack$Town;Z)I" } : Jvm.MethodName)) ∈ GT := GT_t 971 (by decide +kernel) rfl
theorem tw972 : (Jvm.Cond.instanceMethod ({ cls := "OneBack$Sight", name := "movedFrom", desc := "(LOneBack$Town;Z)I" } : Jvm.MethodName)) ∈ GT := GT_t 972 (by decide +kernel) rfl
theorem tw973 : (Jvm.Cond.selects "OneBack$Sight" ({ cls := "OneBack$Sight", name := "movedFrom", desc := "(LOneBack$Town;Z)I" } : Jvm.MethodName) ({ cls := "OneBack$Sight", name := "movedFrom", desc := "(LOneBack$Town;Z)I" } : Jvm.MethodName)) ∈ GT := GT_t 973 (by decide +kernel) rfl
theorem tw974 : (Jvm.Cond.code ({ cls := "OneBack$Sight", name := "movedFrom", desc := "(LOneBack$Town;Z)I" } : Jvm.MethodName) prog_6_method_10_code (6 : Nat) (Option.some Jvm.ClassFile.FieldType.int)) ∈ GT := GT_t 974 (by decide +kernel) rfl
theorem tw975 : (Jvm.Cond.methodLink "OneBack$Sight" (65 : Nat) ({ cls := "OneBack$Sight", name := "isTold", desc := "(LOneBack$Town;I)Z" } : Jvm.MethodName)) ∈ GT := GT_t 975 (by decide +kernel) rfl
theorem tw977 : (Jvm.Cond.instanceMethod ({ cls := "OneBack$Sight", name := "isTold", desc := "(LOneBack$Town;I)Z" } : Jvm.MethodName)) ∈ GT := GT_t 977 (by decide +kernel) rfl
theorem tw978 : (Jvm.Cond.code ({ cls := "OneBack$Sight", name := "isTold", desc := "(LOneBack$Town;I)Z" } : Jvm.MethodName) prog_6_method_11_code (4 : Nat) (Option.some Jvm.ClassFile.FieldType.boolean)) ∈ GT := GT_t 978 (by decide +kernel) rfl
theorem tw980 : (Jvm.Cond.methodLink "OneBack$Sight" (69 : Nat) ({ cls := "OneBack$Sight", name := "movedOf", desc := "(LOneBack$Town;IZ)I" } : Jvm.MethodName)) ∈ GT := GT_t 980 (by decide +kernel) rfl
theorem tw982 : (Jvm.Cond.instanceMethod ({ cls := "OneBack$Sight", name := "movedOf", desc := "(LOneBack$Town;IZ)I" } : Jvm.MethodName)) ∈ GT := GT_t 982 (by decide +kernel) rfl
theorem tw983 : (Jvm.Cond.code ({ cls := "OneBack$Sight", name := "movedOf", desc := "(LOneBack$Town;IZ)I" } : Jvm.MethodName) prog_6_method_12_code (9 : Nat) (Option.some Jvm.ClassFile.FieldType.int)) ∈ GT := GT_t 983 (by decide +kernel) rfl
theorem tw984 : (Jvm.Cond.methodLink "OneBack$Sight" (83 : Nat) ({ cls := "java/lang/Math", name := "max", desc := "(II)I" } : Jvm.MethodName)) ∈ GT := GT_t 984 (by decide +kernel) rfl
theorem tw985 : (Jvm.Cond.methodLink "OneBack$Sight" (86 : Nat) ({ cls := "java/lang/Math", name := "abs", desc := "(I)I" } : Jvm.MethodName)) ∈ GT := GT_t 985 (by decide +kernel) rfl
theorem tw986 : (Jvm.Cond.methodLink "OneBackLaw" (92 : Nat) ({ cls := "OneBack", name := "quit", desc := "(IIIII)I" } : Jvm.MethodName)) ∈ GT := GT_t 986 (by decide +kernel) rfl
theorem tw987 : (Jvm.Cond.instanceMethod ({ cls := "OneBack", name := "quit", desc := "(IIIII)I" } : Jvm.MethodName)) ∈ GT := GT_t 987 (by decide +kernel) rfl
theorem tw988 : (Jvm.Cond.selects "OneBack" ({ cls := "OneBack", name := "quit", desc := "(IIIII)I" } : Jvm.MethodName) ({ cls := "OneBack", name := "quit", desc := "(IIIII)I" } : Jvm.MethodName)) ∈ GT := GT_t 988 (by decide +kernel) rfl
theorem tw989 : (Jvm.Cond.code ({ cls := "OneBack", name := "quit", desc := "(IIIII)I" } : Jvm.MethodName) prog_1_method_20_code (7 : Nat) (Option.some Jvm.ClassFile.FieldType.int)) ∈ GT := GT_t 989 (by decide +kernel) rfl
theorem tw990 : (Jvm.Cond.methodLink "OneBack" (273 : Nat) ({ cls := "OneBack$Law", name := "firstQuit", desc := "(III)I" } : Jvm.MethodName)) ∈ GT := GT_t 990 (by decide +kernel) rfl
theorem tw991 : (Jvm.Cond.instanceMethod ({ cls := "OneBack$Law", name := "firstQuit", desc := "(III)I" } : Jvm.MethodName)) ∈ GT := GT_t 991 (by decide +kernel) rfl
theorem tw992 : (Jvm.Cond.selects "OneBack$Law" ({ cls := "OneBack$Law", name := "firstQuit", desc := "(III)I" } : Jvm.MethodName) ({ cls := "OneBack$Law", name := "firstQuit", desc := "(III)I" } : Jvm.MethodName)) ∈ GT := GT_t 992 (by decide +kernel) rfl
theorem tw993 : (Jvm.Cond.code ({ cls := "OneBack$Law", name := "firstQuit", desc := "(III)I" } : Jvm.MethodName) prog_2_method_7_code (6 : Nat) (Option.some Jvm.ClassFile.FieldType.int)) ∈ GT := GT_t 993 (by decide +kernel) rfl
theorem tw994 : (Jvm.Cond.methodLink "OneBack$Law" (21 : Nat) ({ cls := "OneBack$Law", name := "counts", desc := "(I)I" } : Jvm.MethodName)) ∈ GT := GT_t 994 (by decide +kernel) rfl
theorem tw995 : (Jvm.Cond.methodLink "OneBack" (276 : Nat) ({ cls := "OneBack$Law", name := "fewestGifts", desc := "(IIII)I" } : Jvm.MethodName)) ∈ GT := GT_t 995 (by decide +kernel) rfl
theorem tw996 : (Jvm.Cond.instanceMethod ({ cls := "OneBack$Law", name := "fewestGifts", desc := "(IIII)I" } : Jvm.MethodName)) ∈ GT := GT_t 996 (by decide +kernel) rfl
theorem tw997 : (Jvm.Cond.selects "OneBack$Law" ({ cls := "OneBack$Law", name := "fewestGifts", desc := "(IIII)I" } : Jvm.MethodName) ({ cls := "OneBack$Law", name := "fewestGifts", desc := "(IIII)I" } : Jvm.MethodName)) ∈ GT := GT_t 997 (by decide +kernel) rfl
theorem tw998 : (Jvm.Cond.code ({ cls := "OneBack$Law", name := "fewestGifts", desc := "(IIII)I" } : Jvm.MethodName) prog_2_method_8_code (9 : Nat) (Option.some Jvm.ClassFile.FieldType.int)) ∈ GT := GT_t 998 (by decide +kernel) rfl
theorem tw999 : (Jvm.Cond.methodLink "OneBack$Law" (25 : Nat) ({ cls := "java/lang/Math", name := "min", desc := "(II)I" } : Jvm.MethodName)) ∈ GT := GT_t 999 (by decide +kernel) rfl
theorem tw1000 : (Jvm.Cond.methodLink "OneBack$Law" (31 : Nat) ({ cls := "java/lang/Math", name := "max", desc := "(II)I" } : Jvm.MethodName)) ∈ GT := GT_t 1000 (by decide +kernel) rfl
theorem tw1001 : (Jvm.Cond.methodLink "OneBackLaw" (96 : Nat) ({ cls := "OneBack", name := "alms", desc := "(IZ)I" } : Jvm.MethodName)) ∈ GT := GT_t 1001 (by decide +kernel) rfl
theorem tw1002 : (Jvm.Cond.instanceMethod ({ cls := "OneBack", name := "alms", desc := "(IZ)I" } : Jvm.MethodName)) ∈ GT := GT_t 1002 (by decide +kernel) rfl
theorem tw1003 : (Jvm.Cond.selects "OneBack" ({ cls := "OneBack", name := "alms", desc := "(IZ)I" } : Jvm.MethodName) ({ cls := "OneBack", name := "alms", desc := "(IZ)I" } : Jvm.MethodName)) ∈ GT := GT_t 1003 (by decide +kernel) rfl
theorem tw1004 : (Jvm.Cond.code ({ cls := "OneBack", name := "alms", desc := "(IZ)I" } : Jvm.MethodName) prog_1_method_21_code (3 : Nat) (Option.some Jvm.ClassFile.FieldType.int)) ∈ GT := GT_t 1004 (by decide +kernel) rfl
theorem tw1005 : (Jvm.Cond.methodLink "OneBack" (280 : Nat) ({ cls := "OneBack", name := "weighings", desc := "(I)I" } : Jvm.MethodName)) ∈ GT := GT_t 1005 (by decide +kernel) rfl
theorem tw1006 : (Jvm.Cond.static ({ cls := "OneBack", name := "weighings", desc := "(I)I" } : Jvm.MethodName)) ∈ GT := GT_t 1006 (by decide +kernel) rfl
theorem tw1007 : (Jvm.Cond.code ({ cls := "OneBack", name := "weighings", desc := "(I)I" } : Jvm.MethodName) prog_1_method_39_code (3 : Nat) (Option.some Jvm.ClassFile.FieldType.int)) ∈ GT := GT_t 1007 (by decide +kernel) rfl
theorem tw1008 : (Jvm.Cond.methodLink "OneBackLaw" (101 : Nat) ({ cls := "OneBack", name := "prize", desc := "(III)I" } : Jvm.MethodName)) ∈ GT := GT_t 1008 (by decide +kernel) rfl
theorem tw1009 : (Jvm.Cond.instanceMethod ({ cls := "OneBack", name := "prize", desc := "(III)I" } : Jvm.MethodName)) ∈ GT := GT_t 1009 (by decide +kernel) rfl
theorem tw1010 : (Jvm.Cond.selects "OneBack" ({ cls := "OneBack", name := "prize", desc := "(III)I" } : Jvm.MethodName) ({ cls := "OneBack", name := "prize", desc := "(III)I" } : Jvm.MethodName)) ∈ GT := GT_t 1010 (by decide +kernel) rfl
theorem tw1011 : (Jvm.Cond.code ({ cls := "OneBack", name := "prize", desc := "(III)I" } : Jvm.MethodName) prog_1_method_22_code (5 : Nat) (Option.some Jvm.ClassFile.FieldType.int)) ∈ GT := GT_t 1011 (by decide +kernel) rfl
theorem tw1012 : (Jvm.Cond.methodLink "OneBack" (283 : Nat) ({ cls := "OneBack$Town", name := "prizeOf", desc := "(II)I" } : Jvm.MethodName)) ∈ GT := GT_t 1012 (by decide +kernel) rfl
theorem tw1013 : (Jvm.Cond.instanceMethod ({ cls := "OneBack$Town", name := "prizeOf", desc := "(II)I" } : Jvm.MethodName)) ∈ GT := GT_t 1013 (by decide +kernel) rfl
theorem tw1014 : (Jvm.Cond.selects "OneBack$Town" ({ cls := "OneBack$Town", name := "prizeOf", desc := "(II)I" } : Jvm.MethodName) ({ cls := "OneBack$Town", name := "prizeOf", desc := "(II)I" } : Jvm.MethodName)) ∈ GT := GT_t 1014 (by decide +kernel) rfl
theorem tw1015 : (Jvm.Cond.code ({ cls := "OneBack$Town", name := "prizeOf", desc := "(II)I" } : Jvm.MethodName) prog_9_method_22_code (4 : Nat) (Option.some Jvm.ClassFile.FieldType.int)) ∈ GT := GT_t 1015 (by decide +kernel) rfl
theorem tw1016 : (Jvm.Cond.methodLink "OneBack$Town" (91 : Nat) ({ cls := "OneBack$Town", name := "worthIn", desc := "([II)I" } : Jvm.MethodName)) ∈ GT := GT_t 1016 (by decide +kernel) rfl
theorem tw1017 : (Jvm.Cond.instanceMethod ({ cls := "OneBack$Town", name := "worthIn", desc := "([II)I" } : Jvm.MethodName)) ∈ GT := GT_t 1017 (by decide +kernel) rfl
theorem tw1018 : (Jvm.Cond.selects "OneBack$Town" ({ cls := "OneBack$Town", name := "worthIn", desc := "([II)I" } : Jvm.MethodName) ({ cls := "OneBack$Town", name := "worthIn", desc := "([II)I" } : Jvm.MethodName)) ∈ GT := GT_t 1018 (by decide +kernel) rfl
theorem tw1019 : (Jvm.Cond.code ({ cls := "OneBack$Town", name := "worthIn", desc := "([II)I" } : Jvm.MethodName) prog_9_method_13_code (5 : Nat) (Option.some Jvm.ClassFile.FieldType.int)) ∈ GT := GT_t 1019 (by decide +kernel) rfl
theorem tw1020 : (Jvm.Cond.methodLink "OneBackLaw" (105 : Nat) ({ cls := "OneBack", name := "rest", desc := "(II)I" } : Jvm.MethodName)) ∈ GT := GT_t 1020 (by decide +kernel) rfl
theorem tw1021 : (Jvm.Cond.instanceMethod ({ cls := "OneBack", name := "rest", desc := "(II)I" } : Jvm.MethodName)) ∈ GT := GT_t 1021 (by decide +kernel) rfl
theorem tw1022 : (Jvm.Cond.selects "OneBack" ({ cls := "OneBack", name := "rest", desc := "(II)I" } : Jvm.MethodName) ({ cls := "OneBack", name := "rest", desc := "(II)I" } : Jvm.MethodName)) ∈ GT := GT_t 1022 (by decide +kernel) rfl
theorem tw1023 : (Jvm.Cond.code ({ cls := "OneBack", name := "rest", desc := "(II)I" } : Jvm.MethodName) prog_1_method_23_code (4 : Nat) (Option.some Jvm.ClassFile.FieldType.int)) ∈ GT := GT_t 1023 (by decide +kernel) rfl
theorem tw1024 : (Jvm.Cond.methodLink "OneBack" (286 : Nat) ({ cls := "OneBack$Town", name := "restAt", desc := "(I)I" } : Jvm.MethodName)) ∈ GT := GT_t 1024 (by decide +kernel) rfl
theorem tw1025 : (Jvm.Cond.instanceMethod ({ cls := "OneBack$Town", name := "restAt", desc := "(I)I" } : Jvm.MethodName)) ∈ GT := GT_t 1025 (by decide +kernel) rfl
theorem tw1026 : (Jvm.Cond.selects "OneBack$Town" ({ cls := "OneBack$Town", name := "restAt", desc := "(I)I" } : Jvm.MethodName) ({ cls := "OneBack$Town", name := "restAt", desc := "(I)I" } : Jvm.MethodName)) ∈ GT := GT_t 1026 (by decide +kernel) rfl
theorem tw1027 : (Jvm.Cond.code ({ cls := "OneBack$Town", name := "restAt", desc := "(I)I" } : Jvm.MethodName) prog_9_method_23_code (5 : Nat) (Option.some Jvm.ClassFile.FieldType.int)) ∈ GT := GT_t 1027 (by decide +kernel) rfl
theorem tw1028 : (Jvm.Cond.methodLink "OneBack$Town" (95 : Nat) ({ cls := "OneBack$Town", name := "isBest", desc := "(II)Z" } : Jvm.MethodName)) ∈ GT := GT_t 1028 (by decide +kernel) rfl
theorem tw1030 : (Jvm.Cond.instanceMethod ({ cls := "OneBack$Town", name := "isBest", desc := "(II)Z" } : Jvm.MethodName)) ∈ GT := GT_t 1030 (by decide +kernel) rfl
theorem tw1031 : (Jvm.Cond.code ({ cls := "OneBack$Town", name := "isBest", desc := "(II)Z" } : Jvm.MethodName) prog_9_method_24_code (4 : Nat) (Option.some Jvm.ClassFile.FieldType.boolean)) ∈ GT := GT_t 1031 (by decide +kernel) rfl
theorem tw1032 : (Jvm.Cond.methodLink "OneBack$Town" (98 : Nat) ({ cls := "OneBack$Town", name := "prizeOf", desc := "(II)I" } : Jvm.MethodName)) ∈ GT := GT_t 1032 (by decide +kernel) rfl
theorem tw1033 : (Jvm.Cond.methodLink "OneBackLaw" (109 : Nat) ({ cls := "OneBack", name := "share", desc := "(IIZ)I" } : Jvm.MethodName)) ∈ GT := GT_t 1033 (by decide +kernel) rfl
theorem tw1034 : (Jvm.Cond.instanceMethod ({ cls := "OneBack", name := "share", desc := "(IIZ)I" } : Jvm.MethodName)) ∈ GT := GT_t 1034 (by decide +kernel) rfl
theorem tw1035 : (Jvm.Cond.selects "OneBack" ({ cls := "OneBack", name := "share", desc := "(IIZ)I" } : Jvm.MethodName) ({ cls := "OneBack", name := "share", desc := "(IIZ)I" } : Jvm.MethodName)) ∈ GT := GT_t 1035 (by decide +kernel) rfl
theorem tw1036 : (Jvm.Cond.code ({ cls := "OneBack", name := "share", desc := "(IIZ)I" } : Jvm.MethodName) prog_1_method_24_code (7 : Nat) (Option.some Jvm.ClassFile.FieldType.int)) ∈ GT := GT_t 1036 (by decide +kernel) rfl
theorem tw1037 : (Jvm.Cond.methodLink "OneBack" (289 : Nat) ({ cls := "OneBack$Town", name := "worthIn", desc := "([II)I" } : Jvm.MethodName)) ∈ GT := GT_t 1037 (by decide +kernel) rfl
theorem tw1038 : (Jvm.Cond.methodLink "OneBack" (293 : Nat) ({ cls := "OneBack", name := "leastTerms", desc := "(IIZ)I" } : Jvm.MethodName)) ∈ GT := GT_t 1038 (by decide +kernel) rfl
theorem tw1039 : (Jvm.Cond.static ({ cls := "OneBack", name := "leastTerms", desc := "(IIZ)I" } : Jvm.MethodName)) ∈ GT := GT_t 1039 (by decide +kernel) rfl
theorem tw1040 : (Jvm.Cond.code ({ cls := "OneBack", name := "leastTerms", desc := "(IIZ)I" } : Jvm.MethodName) prog_1_method_40_code (4 : Nat) (Option.some Jvm.ClassFile.FieldType.int)) ∈ GT := GT_t 1040 (by decide +kernel) rfl
theorem tw1041 : (Jvm.Cond.methodLink "OneBack" (341 : Nat) ({ cls := "OneBack", name := "commonDivisor", desc := "(II)I" } : Jvm.MethodName)) ∈ GT := GT_t 1041 (by decide +kernel) rfl
theorem tw1042 : (Jvm.Cond.methodLink "OneBackLaw" (113 : Nat) ({ cls := "OneBack", name := "even", desc := "(II)I" } : Jvm.MethodName)) ∈ GT := GT_t 1042 (by decide +kernel) rfl
theorem tw1043 : (Jvm.Cond.instanceMethod ({ cls := "OneBack", name := "even", desc := "(II)I" } : Jvm.MethodName)) ∈ GT := GT_t 1043 (by decide +kernel) rfl
theorem tw1044 : (Jvm.Cond.selects "OneBack" ({ cls := "OneBack", name := "even", desc := "(II)I" } : Jvm.MethodName) ({ cls := "OneBack", name := "even", desc := "(II)I" } : Jvm.MethodName)) ∈ GT := GT_t 1044 (by decide +kernel) rfl
theorem tw1045 : (Jvm.Cond.code ({ cls := "OneBack", name := "even", desc := "(II)I" } : Jvm.MethodName) prog_1_method_25_code (4 : Nat) (Option.some Jvm.ClassFile.FieldType.int)) ∈ GT := GT_t 1045 (by decide +kernel) rfl
theorem tw1046 : (Jvm.Cond.methodLink "OneBack" (297 : Nat) ({ cls := "OneBack$Town", name := "evenOut", desc := "(I)I" } : Jvm.MethodName)) ∈ GT := GT_t 1046 (by decide +kernel) rfl
theorem tw1047 : (Jvm.Cond.instanceMethod ({ cls := "OneBack$Town", name := "evenOut", desc := "(I)I" } : Jvm.MethodName)) ∈ GT := GT_t 1047 (by decide +kernel) rfl
theorem tw1048 : (Jvm.Cond.selects "OneBack$Town" ({ cls := "OneBack$Town", name := "evenOut", desc := "(I)I" } : Jvm.MethodName) ({ cls := "OneBack$Town", name := "evenOut", desc := "(I)I" } : Jvm.MethodName)) ∈ GT := GT_t 1048 (by decide +kernel) rfl
theorem tw1049 : (Jvm.Cond.code ({ cls := "OneBack$Town", name := "evenOut", desc := "(I)I" } : Jvm.MethodName) prog_9_method_14_code (7 : Nat) (Option.some Jvm.ClassFile.FieldType.int)) ∈ GT := GT_t 1049 (by decide +kernel) rfl
theorem tw1050 : (Jvm.Cond.methodLink "OneBack$Town" (69 : Nat) ({ cls := "java/lang/Math", name := "min", desc := "(II)I" } : Jvm.MethodName)) ∈ GT := GT_t 1050 (by decide +kernel) rfl
theorem tw1051 : (Jvm.Cond.methodLink "OneBackLaw" (117 : Nat) ({ cls := "OneBack", name := "drawn", desc := "(IIIII)I" } : Jvm.MethodName)) ∈ GT := GT_t 1051 (by decide +kernel) rfl
theorem tw1052 : (Jvm.Cond.instanceMethod ({ cls := "OneBack", name := "drawn", desc := "(IIIII)I" } : Jvm.MethodName)) ∈ GT := GT_t 1052 (by decide +kernel) rfl
theorem tw1053 : (Jvm.Cond.selects "OneBack" ({ cls := "OneBack", name := "drawn", desc := "(IIIII)I" } : Jvm.MethodName) ({ cls := "OneBack", name := "drawn", desc := "(IIIII)I" } : Jvm.MethodName)) ∈ GT := GT_t 1053 (by decide +kernel) rfl
theorem tw1054 : (Jvm.Cond.code ({ cls := "OneBack", name := "drawn", desc := "(IIIII)I" } : Jvm.MethodName) prog_1_method_26_code (8 : Nat) (Option.some Jvm.ClassFile.FieldType.int)) ∈ GT := GT_t 1054 (by decide +kernel) rfl
theorem tw1055 : (Jvm.Cond.methodLink "OneBack" (303 : Nat) ({ cls := "OneBack$Walk", name := "drawNights", desc := "(II)V" } : Jvm.MethodName)) ∈ GT := GT_t 1055 (by decide +kernel) rfl
theorem tw1056 : (Jvm.Cond.instanceMethod ({ cls := "OneBack$Walk", name := "drawNights", desc := "(II)V" } : Jvm.MethodName)) ∈ GT := GT_t 1056 (by decide +kernel) rfl
theorem tw1057 : (Jvm.Cond.selects "OneBack$Walk" ({ cls := "OneBack$Walk", name := "drawNights", desc := "(II)V" } : Jvm.MethodName) ({ cls := "OneBack$Walk", name := "drawNights", desc := "(II)V" } : Jvm.MethodName)) ∈ GT := GT_t 1057 (by decide +kernel) rfl
theorem tw1058 : (Jvm.Cond.code ({ cls := "OneBack$Walk", name := "drawNights", desc := "(II)V" } : Jvm.MethodName) prog_11_method_13_code (5 : Nat) (Option.none : Option Jvm.ClassFile.FieldType)) ∈ GT := GT_t 1058 (by decide +kernel) rfl
theorem tw1059 : (Jvm.Cond.methodLink "OneBack$Walk" (172 : Nat) ({ cls := "OneBack$Walk", name := "drawDeeds", desc := "(I)V" } : Jvm.MethodName)) ∈ GT := GT_t 1059 (by decide +kernel) rfl
theorem tw1061 : (Jvm.Cond.instanceMethod ({ cls := "OneBack$Walk", name := "drawDeeds", desc := "(I)V" } : Jvm.MethodName)) ∈ GT := GT_t 1061 (by decide +kernel) rfl
theorem tw1062 : (Jvm.Cond.code ({ cls := "OneBack$Walk", name := "drawDeeds", desc := "(I)V" } : Jvm.MethodName) prog_11_method_14_code (5 : Nat) (Option.none : Option Jvm.ClassFile.FieldType)) ∈ GT := GT_t 1062 (by decide +kernel) rfl
theorem tw1063 : (Jvm.Cond.methodLink "OneBack$Walk" (179 : Nat) ({ cls := "OneBack$Walk", name := "drawBelow", desc := "(I)I" } : Jvm.MethodName)) ∈ GT := GT_t 1063 (by decide +kernel) rfl
theorem tw1065 : (Jvm.Cond.instanceMethod ({ cls := "OneBack$Walk", name := "drawBelow", desc := "(I)I" } : Jvm.MethodName)) ∈ GT := GT_t 1065 (by decide +kernel) rfl
theorem tw1066 : (Jvm.Cond.code ({ cls := "OneBack$Walk", name := "drawBelow", desc := "(I)I" } : Jvm.MethodName) prog_11_method_15_code (2 : Nat) (Option.some Jvm.ClassFile.FieldType.int)) ∈ GT := GT_t 1066 (by decide +kernel) rfl
theorem tw1067 : (Jvm.Cond.constant "OneBack$Walk" (185 : Nat) (1103515245 : Int32)) ∈ GT := GT_t 1067 (by decide +kernel) rfl
theorem tw1068 : (Jvm.Cond.methodLink "OneBack$Walk" (182 : Nat) ({ cls := "OneBack$Walk", name := "giveLeast", desc := "(I)Z" } : Jvm.MethodName)) ∈ GT := GT_t 1068 (by decide +kernel) rfl
theorem tw1070 : (Jvm.Cond.instanceMethod ({ cls := "OneBack$Walk", name := "giveLeast", desc := "(I)Z" } : Jvm.MethodName)) ∈ GT := GT_t 1070 (by decide +kernel) rfl
theorem tw1071 : (Jvm.Cond.code ({ cls := "OneBack$Walk", name := "giveLeast", desc := "(I)Z" } : Jvm.MethodName) prog_11_method_16_code (4 : Nat) (Option.some Jvm.ClassFile.FieldType.boolean)) ∈ GT := GT_t 1071 (by decide +kernel) rfl
theorem tw1072 : (Jvm.Cond.methodLink "OneBackLaw" (121 : Nat) ({ cls := "OneBack", name := "wealth", desc := "(IIIII)I" } : Jvm.MethodName)) ∈ GT := GT_t 1072 (by decide +kernel) rfl
theorem tw1073 : (Jvm.Cond.instanceMethod ({ cls := "OneBack", name := "wealth", desc := "(IIIII)I" } : Jvm.MethodName)) ∈ GT := GT_t 1073 (by decide +kernel) rfl
theorem tw1074 : (Jvm.Cond.selects "OneBack" ({ cls := "OneBack", name := "wealth", desc := "(IIIII)I" } : Jvm.MethodName) ({ cls := "OneBack", name := "wealth", desc := "(IIIII)I" } : Jvm.MethodName)) ∈ GT := GT_t 1074 (by decide +kernel) rfl
theorem tw1075 : (Jvm.Cond.code ({ cls := "OneBack", name := "wealth", desc := "(IIIII)I" } : Jvm.MethodName) prog_1_method_27_code (6 : Nat) (Option.some Jvm.ClassFile.FieldType.int)) ∈ GT := GT_t 1075 (by decide +kernel) rfl
theorem tw1076 : (Jvm.Cond.methodLink "OneBack" (307 : Nat) ({ cls := "OneBack$Views", name := "rich", desc := "(LOneBack$Walk;I)I" } : Jvm.MethodName)) ∈ GT := GT_t 1076 (by decide +kernel) rfl
theorem tw1077 : (Jvm.Cond.static ({ cls := "OneBack$Views", name := "rich", desc := "(LOneBack$Walk;I)I" } : Jvm.MethodName)) ∈ GT := GT_t 1077 (by decide +kernel) rfl
theorem tw1078 : (Jvm.Cond.code ({ cls := "OneBack$Views", name := "rich", desc := "(LOneBack$Walk;I)I" } : Jvm.MethodName) prog_10_method_11_code (2 : Nat) (Option.some Jvm.ClassFile.FieldType.int)) ∈ GT := GT_t 1078 (by decide +kernel) rfl
theorem tw1079 : (Jvm.Cond.methodLink "OneBack$Views" (98 : Nat) ({ cls := "OneBack$Views", name := "settle", desc := "(LOneBack$Walk;)I" } : Jvm.MethodName)) ∈ GT := GT_t 1079 (by decide +kernel) rfl
theorem tw1080 : (Jvm.Cond.static ({ cls := "OneBack$Views", name := "settle", desc := "(LOneBack$Walk;)I" } : Jvm.MethodName)) ∈ GT := GT_t 1080 (by decide +kernel) rfl
theorem tw1081 : (Jvm.Cond.code ({ cls := "OneBack$Views", name := "settle", desc := "(LOneBack$Walk;)I" } : Jvm.MethodName) prog_10_method_13_code (3 : Nat) (Option.some Jvm.ClassFile.FieldType.int)) ∈ GT := GT_t 1081 (by decide +kernel) rfl
theorem tw1082 : (Jvm.Cond.methodLink "OneBack$Views" (120 : Nat) ({ cls := "OneBack$Views", name := "cut", desc := "(LOneBack$Walk;I)I" } : Jvm.MethodName)) ∈ GT := GT_t 1082 (by decide +kernel) rfl
theorem tw1083 : (Jvm.Cond.static ({ cls := "OneBack$Views", name := "cut", desc := "(LOneBack$Walk;I)I" } : Jvm.MethodName)) ∈ GT := GT_t 1083 (by decide +kernel) rfl
theorem tw1084 : (Jvm.Cond.code ({ cls := "OneBack$Views", name := "cut", desc := "(LOneBack$Walk;I)I" } : Jvm.MethodName) prog_10_method_14_code (5 : Nat) (Option.some Jvm.ClassFile.FieldType.int)) ∈ GT := GT_t 1084 (by decide +kernel) rfl
theorem tw1085 : (Jvm.Cond.methodLink "OneBack$Views" (128 : Nat) ({ cls := "OneBack$Walk", name := "isFree", desc := "(I)Z" } : Jvm.MethodName)) ∈ GT := GT_t 1085 (by decide +kernel) rfl
theorem tw1086 : (Jvm.Cond.methodLink "OneBack$Views" (131 : Nat) ({ cls := "OneBack$Views", name := "isReached", desc := "(LOneBack$Walk;II)Z" } : Jvm.MethodName)) ∈ GT := GT_t 1086 (by decide +kernel) rfl
theorem tw1087 : (Jvm.Cond.static ({ cls := "OneBack$Views", name := "isReached", desc := "(LOneBack$Walk;II)Z" } : Jvm.MethodName)) ∈ GT := GT_t 1087 (by decide +kernel) rfl
theorem tw1088 : (Jvm.Cond.code ({ cls := "OneBack$Views", name := "isReached", desc := "(LOneBack$Walk;II)Z" } : Jvm.MethodName) prog_10_method_15_code (5 : Nat) (Option.some Jvm.ClassFile.FieldType.boolean)) ∈ GT := GT_t 1088 (by decide +kernel) rfl
theorem tw1089 : (Jvm.Cond.methodLink "OneBack$Views" (135 : Nat) ({ cls := "OneBack$Town", name := "areKin", desc := "(II)Z" } : Jvm.MethodName)) ∈ GT := GT_t 1089 (by decide +kernel) rfl
theorem tw1090 : (Jvm.Cond.methodLink "OneBack$Views" (123 : Nat) ({ cls := "java/lang/Math", name := "min", desc := "(II)I" } : Jvm.MethodName)) ∈ GT := GT_t 1090 (by decide +kernel) rfl
theorem tw1091 : (Jvm.Cond.methodLink "OneBack$Views" (101 : Nat) ({ cls := "OneBack$Views", name := "ranked", desc := "(LOneBack$Walk;I)I" } : Jvm.MethodName)) ∈ GT := GT_t 1091 (by decide +kernel) rfl
theorem tw1092 : (Jvm.Cond.static ({ cls := "OneBack$Views", name := "ranked", desc := "(LOneBack$Walk;I)I" } : Jvm.MethodName)) ∈ GT := GT_t 1092 (by decide +kernel) rfl
theorem tw1093 : (Jvm.Cond.code ({ cls := "OneBack$Views", name := "ranked", desc := "(LOneBack$Walk;I)I" } : Jvm.MethodName) prog_10_method_18_code (3 : Nat) (Option.some Jvm.ClassFile.FieldType.int)) ∈ GT := GT_t 1093 (by decide +kernel) rfl
theorem tw1094 : (Jvm.Cond.methodLink "OneBack$Views" (153 : Nat) ({ cls := "OneBack$Views", name := "rankOf", desc := "(LOneBack$Walk;I)I" } : Jvm.MethodName)) ∈ GT := GT_t 1094 (by decide +kernel) rfl
theorem tw1095 : (Jvm.Cond.static ({ cls := "OneBack$Views", name := "rankOf", desc := "(LOneBack$Walk;I)I" } : Jvm.MethodName)) ∈ GT := GT_t 1095 (by decide +kernel) rfl
theorem tw1096 : (Jvm.Cond.code ({ cls := "OneBack$Views", name := "rankOf", desc := "(LOneBack$Walk;I)I" } : Jvm.MethodName) prog_10_method_19_code (6 : Nat) (Option.some Jvm.ClassFile.FieldType.int)) ∈ GT := GT_t 1096 (by decide +kernel) rfl
theorem tw1097 : (Jvm.Cond.methodLink "OneBack$Views" (104 : Nat) ({ cls := "OneBack$Views", name := "wealthOf", desc := "(LOneBack$Walk;I)I" } : Jvm.MethodName)) ∈ GT := GT_t 1097 (by decide +kernel) rfl
theorem tw1098 : (Jvm.Cond.static ({ cls := "OneBack$Views", name := "wealthOf", desc := "(LOneBack$Walk;I)I" } : Jvm.MethodName)) ∈ GT := GT_t 1098 (by decide +kernel) rfl
theorem tw1099 : (Jvm.Cond.code ({ cls := "OneBack$Views", name := "wealthOf", desc := "(LOneBack$Walk;I)I" } : Jvm.MethodName) prog_10_method_17_code (2 : Nat) (Option.some Jvm.ClassFile.FieldType.int)) ∈ GT := GT_t 1099 (by decide +kernel) rfl
theorem tw1100 : (Jvm.Cond.methodLink "OneBack$Views" (149 : Nat) ({ cls := "OneBack$Town", name := "worthIn", desc := "([II)I" } : Jvm.MethodName)) ∈ GT := GT_t 1100 (by decide +kernel) rfl
theorem tw1101 : (Jvm.Cond.methodLink "OneBack$Views" (107 : Nat) ({ cls := "OneBack$Views", name := "unlike", desc := "(LOneBack$Walk;Z)I" } : Jvm.MethodName)) ∈ GT := GT_t 1101 (by decide +kernel) rfl
theorem tw1102 : (Jvm.Cond.static ({ cls := "OneBack$Views", name := "unlike", desc := "(LOneBack$Walk;Z)I" } : Jvm.MethodName)) ∈ GT := GT_t 1102 (by decide +kernel) rfl
theorem tw1103 : (Jvm.Cond.code ({ cls := "OneBack$Views", name := "unlike", desc := "(LOneBack$Walk;Z)I" } : Jvm.MethodName) prog_10_method_20_code (7 : Nat) (Option.some Jvm.ClassFile.FieldType.int)) ∈ GT := GT_t 1103 (by decide +kernel) rfl
theorem tw1104 : (Jvm.Cond.methodLink "OneBack$Views" (156 : Nat) ({ cls := "java/lang/Math", name := "abs", desc := "(I)I" } : Jvm.MethodName)) ∈ GT := GT_t 1104 (by decide +kernel) rfl
theorem tw1106 : (Jvm.Cond.methodLink "OneBack$Views" (111 : Nat) ({ cls := "OneBack$Views", name := "robbed", desc := "(LOneBack$Walk;)I" } : Jvm.MethodName)) ∈ GT := GT_t 1106 (by decide +kernel) rfl
theorem tw1107 : (Jvm.Cond.static ({ cls := "OneBack$Views", name := "robbed", desc := "(LOneBack$Walk;)I" } : Jvm.MethodName)) ∈ GT := GT_t 1107 (by decide +kernel) rfl
theorem tw1108 : (Jvm.Cond.code ({ cls := "OneBack$Views", name := "robbed", desc := "(LOneBack$Walk;)I" } : Jvm.MethodName) prog_10_method_21_code (5 : Nat) (Option.some Jvm.ClassFile.FieldType.int)) ∈ GT := GT_t 1108 (by decide +kernel) rfl
theorem tw1109 : (Jvm.Cond.methodLink "OneBack$Views" (114 : Nat) ({ cls := "OneBack$Views", name := "richOf", desc := "(LOneBack$Walk;II)I" } : Jvm.MethodName)) ∈ GT := GT_t 1109 (by decide +kernel) rfl
theorem tw1110 : (Jvm.Cond.static ({ cls := "OneBack$Views", name := "richOf", desc := "(LOneBack$Walk;II)I" } : Jvm.MethodName)) ∈ GT := GT_t 1110 (by decide +kernel) rfl
theorem tw1111 : (Jvm.Cond.code ({ cls := "OneBack$Views", name := "richOf", desc := "(LOneBack$Walk;II)I" } : Jvm.MethodName) prog_10_method_12_code (3 : Nat) (Option.some Jvm.ClassFile.FieldType.int)) ∈ GT := GT_t 1111 (by decide +kernel) rfl
theorem tw1112 : (Jvm.Cond.methodLink "OneBack$Views" (117 : Nat) ({ cls := "OneBack$Views", name := "can", desc := "(LOneBack$Walk;I)I" } : Jvm.MethodName)) ∈ GT := GT_t 1112 (by decide +kernel) rfl
theorem tw1113 : (Jvm.Cond.static ({ cls := "OneBack$Views", name := "can", desc := "(LOneBack$Walk;I)I" } : Jvm.MethodName)) ∈ GT := GT_t 1113 (by decide +kernel) rfl
theorem tw1114 : (Jvm.Cond.code ({ cls := "OneBack$Views", name := "can", desc := "(LOneBack$Walk;I)I" } : Jvm.MethodName) prog_10_method_16_code (6 : Nat) (Option.some Jvm.ClassFile.FieldType.int)) ∈ GT := GT_t 1114 (by decide +kernel) rfl
theorem tw1115 : (Jvm.Cond.methodLink "OneBack$Views" (139 : Nat) ({ cls := "OneBack$Walk", name := "takesGift", desc := "(III)Z" } : Jvm.MethodName)) ∈ GT := GT_t 1115 (by decide +kernel) rfl
theorem tw1116 : (Jvm.Cond.methodLink "OneBackLaw" (125 : Nat) ({ cls := "OneBack", name := "haul", desc := "(IIIII)I" } : Jvm.MethodName)) ∈ GT := GT_t 1116 (by decide +kernel) rfl
theorem tw1117 : (Jvm.Cond.instanceMethod ({ cls := "OneBack", name := "haul", desc := "(IIIII)I" } : Jvm.MethodName)) ∈ GT := GT_t 1117 (by decide +kernel) rfl
theorem tw1118 : (Jvm.Cond.selects "OneBack" ({ cls := "OneBack", name := "haul", desc := "(IIIII)I" } : Jvm.MethodName) ({ cls := "OneBack", name := "haul", desc := "(IIIII)I" } : Jvm.MethodName)) ∈ GT := GT_t 1118 (by decide +kernel) rfl
theorem tw1119 : (Jvm.Cond.code ({ cls := "OneBack", name := "haul", desc := "(IIIII)I" } : Jvm.MethodName) prog_1_method_28_code (7 : Nat) (Option.some Jvm.ClassFile.FieldType.int)) ∈ GT := GT_t 1119 (by decide +kernel) rfl
theorem tw1120 : (Jvm.Cond.methodLink "OneBack" (310 : Nat) ({ cls := "OneBack$Porter", name := "choose", desc := "(LOneBack$Town;III)V" } : Jvm.MethodName)) ∈ GT := GT_t 1120 (by decide +kernel) rfl
theorem tw1121 : (Jvm.Cond.instanceMethod ({ cls := "OneBack$Porter", name := "choose", desc := "(LOneBack$Town;III)V" } : Jvm.MethodName)) ∈ GT := GT_t 1121 (by decide +kernel) rfl
theorem tw1122 : (Jvm.Cond.selects "OneBack$Porter" ({ cls := "OneBack$Porter", name := "choose", desc := "(LOneBack$Town;III)V" } : Jvm.MethodName) ({ cls := "OneBack$Porter", name := "choose", desc := "(LOneBack$Town;III)V" } : Jvm.MethodName)) ∈ GT := GT_t 1122 (by decide +kernel) rfl
theorem tw1123 : (Jvm.Cond.code ({ cls := "OneBack$Porter", name := "choose", desc := "(LOneBack$Town;III)V" } : Jvm.MethodName) prog_4_method_2_code (5 : Nat) (Option.none : Option Jvm.ClassFile.FieldType)) ∈ GT := GT_t 1123 (by decide +kernel) rfl
theorem tw1125 : (Jvm.Cond.methodLink "OneBack$Porter" (33 : Nat) ({ cls := "OneBack$Porter", name := "pick", desc := "(IIII)V" } : Jvm.MethodName)) ∈ GT := GT_t 1125 (by decide +kernel) rfl
theorem tw1127 : (Jvm.Cond.instanceMethod ({ cls := "OneBack$Porter", name := "pick", desc := "(IIII)V" } : Jvm.MethodName)) ∈ GT := GT_t 1127 (by decide +kernel) rfl
theorem tw1128 : (Jvm.Cond.code ({ cls := "OneBack$Porter", name := "pick", desc := "(IIII)V" } : Jvm.MethodName) prog_4_method_3_code (7 : Nat) (Option.none : Option Jvm.ClassFile.FieldType)) ∈ GT := GT_t 1128 (by decide +kernel) rfl
theorem tw1131 : (Jvm.Cond.methodLink "OneBack$Porter" (50 : Nat) ({ cls := "java/lang/Math", name := "min", desc := "(II)I" } : Jvm.MethodName)) ∈ GT := GT_t 1131 (by decide +kernel) rfl
theorem tw1132 : (Jvm.Cond.methodLink "OneBackLaw" (129 : Nat) ({ cls := "OneBack", name := "crew", desc := "(IIZ)I" } : Jvm.MethodName)) ∈ GT := GT_t 1132 (by decide +kernel) rfl
theorem tw1133 : (Jvm.Cond.instanceMethod ({ cls := "OneBack", name := "crew", desc := "(IIZ)I" } : Jvm.MethodName)) ∈ GT := GT_t 1133 (by decide +kernel) rfl
theorem tw1134 : (Jvm.Cond.selects "OneBack" ({ cls := "OneBack", name := "crew", desc := "(IIZ)I" } : Jvm.MethodName) ({ cls := "OneBack", name := "crew", desc := "(IIZ)I" } : Jvm.MethodName)) ∈ GT := GT_t 1134 (by decide +kernel) rfl
theorem tw1135 : (Jvm.Cond.code ({ cls := "OneBack", name := "crew", desc := "(IIZ)I" } : Jvm.MethodName) prog_1_method_29_code (6 : Nat) (Option.some Jvm.ClassFile.FieldType.int)) ∈ GT := GT_t 1135 (by decide +kernel) rfl
theorem tw1136 : (Jvm.Cond.methodLink "OneBack" (320 : Nat) ({ cls := "OneBack$Town", name := "crewFor", desc := "(I)I" } : Jvm.MethodName)) ∈ GT := GT_t 1136 (by decide +kernel) rfl
theorem tw1137 : (Jvm.Cond.instanceMethod ({ cls := "OneBack$Town", name := "crewFor", desc := "(I)I" } : Jvm.MethodName)) ∈ GT := GT_t 1137 (by decide +kernel) rfl
theorem tw1138 : (Jvm.Cond.selects "OneBack$Town" ({ cls := "OneBack$Town", name := "crewFor", desc := "(I)I" } : Jvm.MethodName) ({ cls := "OneBack$Town", name := "crewFor", desc := "(I)I" } : Jvm.MethodName)) ∈ GT := GT_t 1138 (by decide +kernel) rfl
theorem tw1139 : (Jvm.Cond.code ({ cls := "OneBack$Town", name := "crewFor", desc := "(I)I" } : Jvm.MethodName) prog_9_method_15_code (5 : Nat) (Option.some Jvm.ClassFile.FieldType.int)) ∈ GT := GT_t 1139 (by decide +kernel) rfl
theorem tw1140 : (Jvm.Cond.methodLink "OneBack$Town" (72 : Nat) ({ cls := "java/lang/Integer", name := "bitCount", desc := "(I)I" } : Jvm.MethodName)) ∈ GT := GT_t 1140 (by decide +kernel) rfl
theorem tw1141 : (Jvm.Cond.static ({ cls := "java/lang/Integer", name := "bitCount", desc := "(I)I" } : Jvm.MethodName)) ∈ GT := GT_t 1141 (by decide +kernel) rfl
theorem tw1142 : (Jvm.Cond.code ({ cls := "java/lang/Integer", name := "bitCount", desc := "(I)I" } : Jvm.MethodName) prog_14_method_49_code (1 : Nat) (Option.some Jvm.ClassFile.FieldType.int)) ∈ GT := GT_t 1142 (by decide +kernel) rfl
theorem tw1143 : (Jvm.Cond.constant "java/lang/Integer" (265 : Nat) (1431655765 : Int32)) ∈ GT := GT_t 1143 (by decide +kernel) rfl
theorem tw1144 : (Jvm.Cond.constant "java/lang/Integer" (266 : Nat) (858993459 : Int32)) ∈ GT := GT_t 1144 (by decide +kernel) rfl
theorem tw1145 : (Jvm.Cond.constant "java/lang/Integer" (267 : Nat) (252645135 : Int32)) ∈ GT := GT_t 1145 (by decide +kernel) rfl
theorem tw1146 : (Jvm.Cond.methodLink "OneBack$Town" (78 : Nat) ({ cls := "OneBack$Town", name := "limitOf", desc := "(I)I" } : Jvm.MethodName)) ∈ GT := GT_t 1146 (by decide +kernel) rfl
theorem tw1147 : (Jvm.Cond.instanceMethod ({ cls := "OneBack$Town", name := "limitOf", desc := "(I)I" } : Jvm.MethodName)) ∈ GT := GT_t 1147 (by decide +kernel) rfl
theorem tw1148 : (Jvm.Cond.selects "OneBack$Town" ({ cls := "OneBack$Town", name := "limitOf", desc := "(I)I" } : Jvm.MethodName) ({ cls := "OneBack$Town", name := "limitOf", desc := "(I)I" } : Jvm.MethodName)) ∈ GT := GT_t 1148 (by decide +kernel) rfl
theorem tw1149 : (Jvm.Cond.code ({ cls := "OneBack$Town", name := "limitOf", desc := "(I)I" } : Jvm.MethodName) prog_9_method_16_code (4 : Nat) (Option.some Jvm.ClassFile.FieldType.int)) ∈ GT := GT_t 1149 (by decide +kernel) rfl
theorem tw1150 : (Jvm.Cond.methodLink "OneBack" (323 : Nat) ({ cls := "java/lang/Integer", name := "bitCount", desc := "(I)I" } : Jvm.MethodName)) ∈ GT := GT_t 1150 (by decide +kernel) rfl
theorem tw1151 : (Jvm.Cond.methodLink "OneBackLaw" (133 : Nat) ({ cls := "OneBack", name := "pairs", desc := "(II)I" } : Jvm.MethodName)) ∈ GT := GT_t 1151 (by decide +kernel) rfl
theorem tw1152 : (Jvm.Cond.instanceMethod ({ cls := "OneBack", name := "pairs", desc := "(II)I" } : Jvm.MethodName)) ∈ GT := GT_t 1152 (by decide +kernel) rfl
theorem tw1153 : (Jvm.Cond.selects "OneBack" ({ cls := "OneBack", name := "pairs", desc := "(II)I" } : Jvm.MethodName) ({ cls := "OneBack", name := "pairs", desc := "(II)I" } : Jvm.MethodName)) ∈ GT := GT_t 1153 (by decide +kernel) rfl
theorem tw1154 : (Jvm.Cond.code ({ cls := "OneBack", name := "pairs", desc := "(II)I" } : Jvm.MethodName) prog_1_method_30_code (4 : Nat) (Option.some Jvm.ClassFile.FieldType.int)) ∈ GT := GT_t 1154 (by decide +kernel) rfl
theorem tw1155 : (Jvm.Cond.methodLink "OneBack" (328 : Nat) ({ cls := "OneBack$Town", name := "pairAt", desc := "(I)I" } : Jvm.MethodName)) ∈ GT := GT_t 1155 (by decide +kernel) rfl
theorem tw1156 : (Jvm.Cond.instanceMethod ({ cls := "OneBack$Town", name := "pairAt", desc := "(I)I" } : Jvm.MethodName)) ∈ GT := GT_t 1156 (by decide +kernel) rfl
theorem tw1157 : (Jvm.Cond.selects "OneBack$Town" ({ cls := "OneBack$Town", name := "pairAt", desc := "(I)I" } : Jvm.MethodName) ({ cls := "OneBack$Town", name := "pairAt", desc := "(I)I" } : Jvm.MethodName)) ∈ GT := GT_t 1157 (by decide +kernel) rfl
theorem tw1158 : (Jvm.Cond.code ({ cls := "OneBack$Town", name := "pairAt", desc := "(I)I" } : Jvm.MethodName) prog_9_method_17_code (5 : Nat) (Option.some Jvm.ClassFile.FieldType.int)) ∈ GT := GT_t 1158 (by decide +kernel) rfl
theorem tw1159 : (Jvm.Cond.methodLink "OneBack$Town" (81 : Nat) ({ cls := "OneBack$Town", name := "helps", desc := "(II)Z" } : Jvm.MethodName)) ∈ GT := GT_t 1159 (by decide +kernel) rfl
theorem tw1160 : (Jvm.Cond.instanceMethod ({ cls := "OneBack$Town", name := "helps", desc := "(II)Z" } : Jvm.MethodName)) ∈ GT := GT_t 1160 (by decide +kernel) rfl
theorem tw1161 : (Jvm.Cond.selects "OneBack$Town" ({ cls := "OneBack$Town", name := "helps", desc := "(II)Z" } : Jvm.MethodName) ({ cls := "OneBack$Town", name := "helps", desc := "(II)Z" } : Jvm.MethodName)) ∈ GT := GT_t 1161 (by decide +kernel) rfl
theorem tw1162 : (Jvm.Cond.code ({ cls := "OneBack$Town", name := "helps", desc := "(II)Z" } : Jvm.MethodName) prog_9_method_18_code (4 : Nat) (Option.some Jvm.ClassFile.FieldType.boolean)) ∈ GT := GT_t 1162 (by decide +kernel) rfl
theorem tw1163 : (Jvm.Cond.methodLink "OneBackLaw" (137 : Nat) ({ cls := "OneBack", name := "count", desc := "(I)I" } : Jvm.MethodName)) ∈ GT := GT_t 1163 (by decide +kernel) rfl
theorem tw1164 : (Jvm.Cond.instanceMethod ({ cls := "OneBack", name := "count", desc := "(I)I" } : Jvm.MethodName)) ∈ GT := GT_t 1164 (by decide +kernel) rfl
theorem tw1165 : (Jvm.Cond.selects "OneBack" ({ cls := "OneBack", name := "count", desc := "(I)I" } : Jvm.MethodName) ({ cls := "OneBack", name := "count", desc := "(I)I" } : Jvm.MethodName)) ∈ GT := GT_t 1165 (by decide +kernel) rfl
theorem tw1166 : (Jvm.Cond.code ({ cls := "OneBack", name := "count", desc := "(I)I" } : Jvm.MethodName) prog_1_method_31_code (2 : Nat) (Option.some Jvm.ClassFile.FieldType.int)) ∈ GT := GT_t 1166 (by decide +kernel) rfl
theorem tw1167 : (Jvm.Cond.methodLink "OneBackLaw" (141 : Nat) ({ cls := "OneBack", name := "image", desc := "(I)Z" } : Jvm.MethodName)) ∈ GT := GT_t 1167 (by decide +kernel) rfl
theorem tw1168 : (Jvm.Cond.instanceMethod ({ cls := "OneBack", name := "image", desc := "(I)Z" } : Jvm.MethodName)) ∈ GT := GT_t 1168 (by decide +kernel) rfl
theorem tw1169 : (Jvm.Cond.selects "OneBack" ({ cls := "OneBack", name := "image", desc := "(I)Z" } : Jvm.MethodName) ({ cls := "OneBack", name := "image", desc := "(I)Z" } : Jvm.MethodName)) ∈ GT := GT_t 1169 (by decide +kernel) rfl
theorem tw1170 : (Jvm.Cond.code ({ cls := "OneBack", name := "image", desc := "(I)Z" } : Jvm.MethodName) prog_1_method_32_code (2 : Nat) (Option.some Jvm.ClassFile.FieldType.boolean)) ∈ GT := GT_t 1170 (by decide +kernel) rfl
theorem tw1171 : (Jvm.Cond.methodLink "OneBack" (333 : Nat) ({ cls := "OneBack$Told", name := "copy", desc := "(LOneBack$Told;)V" } : Jvm.MethodName)) ∈ GT := GT_t 1171 (by decide +kernel) rfl
theorem tw1172 : (Jvm.Cond.instanceMethod ({ cls := "OneBack$Told", name := "copy", desc := "(LOneBack$Told;)V" } : Jvm.MethodName)) ∈ GT := GT_t 1172 (by decide +kernel) rfl
theorem tw1173 : (Jvm.Cond.selects "OneBack$Told" ({ cls := "OneBack$Told", name := "copy", desc := "(LOneBack$Told;)V" } : Jvm.MethodName) ({ cls := "OneBack$Told", name := "copy", desc := "(LOneBack$Told;)V" } : Jvm.MethodName)) ∈ GT := GT_t 1173 (by decide +kernel) rfl
theorem tw1174 : (Jvm.Cond.code ({ cls := "OneBack$Told", name := "copy", desc := "(LOneBack$Told;)V" } : Jvm.MethodName) prog_8_method_10_code (3 : Nat) (Option.none : Option Jvm.ClassFile.FieldType)) ∈ GT := GT_t 1174 (by decide +kernel) rfl
theorem tw1175 : (Jvm.Cond.methodLink "OneBack$Told" (97 : Nat) ({ cls := "java/lang/System", name := "arraycopy", desc := "(Ljava/lang/Object;ILjava/lang/Object;II)V" } : Jvm.MethodName)) ∈ GT := GT_t 1175 (by decide +kernel) rfl
theorem tw1177 : (Jvm.Cond.methodLink "OneBackLaw" (146 : Nat) ({ cls := "OneBack", name := "again", desc := "(I)Z" } : Jvm.MethodName)) ∈ GT := GT_t 1177 (by decide +kernel) rfl
theorem tw1178 : (Jvm.Cond.instanceMethod ({ cls := "OneBack", name := "again", desc := "(I)Z" } : Jvm.MethodName)) ∈ GT := GT_t 1178 (by decide +kernel) rfl
theorem tw1179 : (Jvm.Cond.selects "OneBack" ({ cls := "OneBack", name := "again", desc := "(I)Z" } : Jvm.MethodName) ({ cls := "OneBack", name := "again", desc := "(I)Z" } : Jvm.MethodName)) ∈ GT := GT_t 1179 (by decide +kernel) rfl
theorem tw1180 : (Jvm.Cond.code ({ cls := "OneBack", name := "again", desc := "(I)Z" } : Jvm.MethodName) prog_1_method_33_code (2 : Nat) (Option.some Jvm.ClassFile.FieldType.boolean)) ∈ GT := GT_t 1180 (by decide +kernel) rfl
theorem tw1181 : (Jvm.Cond.classLink "OneBackLaw" (10 : Nat) "OneBackModel") ∈ GT := GT_t 1181 (by decide +kernel) rfl
theorem tw1182 : (Jvm.Cond.instantiable "OneBackModel" (51 : Nat)) ∈ GT := GT_t 1182 (by decide +kernel) rfl
theorem tw1183 : (Jvm.Cond.methodLink "OneBackLaw" (12 : Nat) ({ cls := "OneBackModel", name := "<init>", desc := "()V" } : Jvm.MethodName)) ∈ GT := GT_t 1183 (by decide +kernel) rfl
theorem tw1184 : (Jvm.Cond.instanceMethod ({ cls := "OneBackModel", name := "<init>", desc := "()V" } : Jvm.MethodName)) ∈ GT := GT_t 1184 (by decide +kernel) rfl
theorem tw1185 : (Jvm.Cond.code ({ cls := "OneBackModel", name := "<init>", desc := "()V" } : Jvm.MethodName) prog_13_method_1_code (1 : Nat) (Option.none : Option Jvm.ClassFile.FieldType)) ∈ GT := GT_t 1185 (by decide +kernel) rfl
theorem tw1186 : (Jvm.Cond.methodLink "OneBackModel" (1 : Nat) ({ cls := "java/lang/Object", name := "<init>", desc := "()V" } : Jvm.MethodName)) ∈ GT := GT_t 1186 (by decide +kernel) rfl
theorem tw1187 : (Jvm.Cond.fieldLink "OneBackModel" (90 : Nat) "OneBackModel" "code" "I") ∈ GT := GT_t 1187 (by decide +kernel) rfl
theorem tw1188 : (Jvm.Cond.fieldLink "OneBackModel" (7 : Nat) "OneBackModel" "tape" "[B") ∈ GT := GT_t 1188 (by decide +kernel) rfl
theorem tw1189 : (Jvm.Cond.fieldLink "OneBackModel" (13 : Nat) "OneBackModel" "size" "[I") ∈ GT := GT_t 1189 (by decide +kernel) rfl
theorem tw1190 : (Jvm.Cond.fieldLink "OneBackModel" (17 : Nat) "OneBackModel" "fault" "[I") ∈ GT := GT_t 1190 (by decide +kernel) rfl
theorem tw1191 : (Jvm.Cond.fieldLink "OneBackModel" (20 : Nat) "OneBackModel" "faultPlace" "[I") ∈ GT := GT_t 1191 (by decide +kernel) rfl
theorem tw1192 : (Jvm.Cond.fieldLink "OneBackModel" (23 : Nat) "OneBackModel" "many" "[I") ∈ GT := GT_t 1192 (by decide +kernel) rfl
theorem tw1193 : (Jvm.Cond.fieldLink "OneBackModel" (26 : Nat) "OneBackModel" "towns" "[I") ∈ GT := GT_t 1193 (by decide +kernel) rfl
theorem tw1194 : (Jvm.Cond.fieldLink "OneBackModel" (29 : Nat) "OneBackModel" "laws" "[I") ∈ GT := GT_t 1194 (by decide +kernel) rfl
theorem tw1195 : (Jvm.Cond.fieldLink "OneBackModel" (32 : Nat) "OneBackModel" "nights" "[I") ∈ GT := GT_t 1195 (by decide +kernel) rfl
theorem tw1196 : (Jvm.Cond.fieldLink "OneBackModel" (35 : Nat) "OneBackModel" "sights" "[I") ∈ GT := GT_t 1196 (by decide +kernel) rfl
theorem tw1197 : (Jvm.Cond.fieldLink "OneBackModel" (106 : Nat) "OneBackModel" "reached" "I") ∈ GT := GT_t 1197 (by decide +kernel) rfl
theorem tw1198 : (Jvm.Cond.fieldLink "OneBackModel" (109 : Nat) "OneBackModel" "length" "I") ∈ GT := GT_t 1198 (by decide +kernel) rfl
theorem tw1199 : (Jvm.Cond.fieldLink "OneBackModel" (116 : Nat) "OneBackModel" "begins" "I") ∈ GT := GT_t 1199 (by decide +kernel) rfl
theorem tw1200 : (Jvm.Cond.fieldLink "OneBackModel" (123 : Nat) "OneBackModel" "sort" "I") ∈ GT := GT_t 1200 (by decide +kernel) rfl
theorem tw1201 : (Jvm.Cond.fieldLink "OneBackModel" (126 : Nat) "OneBackModel" "value" "I") ∈ GT := GT_t 1201 (by decide +kernel) rfl
theorem tw1202 : (Jvm.Cond.fieldLink "OneBackModel" (119 : Nat) "OneBackModel" "word" "J") ∈ GT := GT_t 1202 (by decide +kernel) rfl
theorem tw1203 : (Jvm.Cond.fieldLink "OneBackModel" (129 : Nat) "OneBackModel" "wrongAt" "I") ∈ GT := GT_t 1203 (by decide +kernel) rfl
theorem tw1204 : (Jvm.Cond.fieldLink "OneBackModel" (132 : Nat) "OneBackModel" "laterFault" "I") ∈ GT := GT_t 1204 (by decide +kernel) rfl
theorem tw1205 : (Jvm.Cond.fieldLink "OneBackModel" (135 : Nat) "OneBackModel" "laterPlace" "I") ∈ GT := GT_t 1205 (by decide +kernel) rfl
theorem tw1206 : (Jvm.Cond.fieldLink "OneBackModel" (38 : Nat) "OneBackModel" "told" "[I") ∈ GT := GT_t 1206 (by decide +kernel) rfl
theorem tw1207 : (Jvm.Cond.fieldLink "OneBackModel" (41 : Nat) "OneBackModel" "read" "[I") ∈ GT := GT_t 1207 (by decide +kernel) rfl
theorem tw1208 : (Jvm.Cond.fieldLink "OneBackModel" (160 : Nat) "OneBackModel" "farHouse" "I") ∈ GT := GT_t 1208 (by decide +kernel) rfl
theorem tw1209 : (Jvm.Cond.fieldLink "OneBackModel" (174 : Nat) "OneBackModel" "farThief" "I") ∈ GT := GT_t 1209 (by decide +kernel) rfl
theorem tw1210 : (Jvm.Cond.fieldLink "OneBackModel" (146 : Nat) "OneBackModel" "good" "Z") ∈ GT := GT_t 1210 (by decide +kernel) rfl
theorem tw1211 : (Jvm.Cond.fieldLink "OneBackModel" (274 : Nat) "OneBackModel" "town" "I") ∈ GT := GT_t 1211 (by decide +kernel) rfl
theorem tw1212 : (Jvm.Cond.fieldLink "OneBackModel" (281 : Nat) "OneBackModel" "houses" "I") ∈ GT := GT_t 1212 (by decide +kernel) rfl
theorem tw1213 : (Jvm.Cond.fieldLink "OneBackModel" (284 : Nat) "OneBackModel" "thieves" "I") ∈ GT := GT_t 1213 (by decide +kernel) rfl
theorem tw1214 : (Jvm.Cond.fieldLink "OneBackModel" (305 : Nat) "OneBackModel" "law" "I") ∈ GT := GT_t 1214 (by decide +kernel) rfl
theorem tw1215 : (Jvm.Cond.fieldLink "OneBackModel" (320 : Nat) "OneBackModel" "row" "I") ∈ GT := GT_t 1215 (by decide +kernel) rfl
theorem tw1216 : (Jvm.Cond.fieldLink "OneBackModel" (44 : Nat) "OneBackModel" "stock" "[I") ∈ GT := GT_t 1216 (by decide +kernel) rfl
theorem tw1217 : (Jvm.Cond.fieldLink "OneBackModel" (47 : Nat) "OneBackModel" "bag" "[I") ∈ GT := GT_t 1217 (by decide +kernel) rfl
theorem tw1218 : (Jvm.Cond.fieldLink "OneBackModel" (50 : Nat) "OneBackModel" "took" "[I") ∈ GT := GT_t 1218 (by decide +kernel) rfl
theorem tw1219 : (Jvm.Cond.fieldLink "OneBackModel" (53 : Nat) "OneBackModel" "gave" "[I") ∈ GT := GT_t 1219 (by decide +kernel) rfl
theorem tw1220 : (Jvm.Cond.fieldLink "OneBackModel" (56 : Nat) "OneBackModel" "tonight" "[I") ∈ GT := GT_t 1220 (by decide +kernel) rfl
theorem tw1221 : (Jvm.Cond.fieldLink "OneBackModel" (59 : Nat) "OneBackModel" "watched" "[I") ∈ GT := GT_t 1221 (by decide +kernel) rfl
theorem tw1222 : (Jvm.Cond.fieldLink "OneBackModel" (62 : Nat) "OneBackModel" "taken" "[I") ∈ GT := GT_t 1222 (by decide +kernel) rfl
theorem tw1223 : (Jvm.Cond.fieldLink "OneBackModel" (65 : Nat) "OneBackModel" "given" "[I") ∈ GT := GT_t 1223 (by decide +kernel) rfl
theorem tw1224 : (Jvm.Cond.fieldLink "OneBackModel" (68 : Nat) "OneBackModel" "trace" "[I") ∈ GT := GT_t 1224 (by decide +kernel) rfl
theorem tw1225 : (Jvm.Cond.fieldLink "OneBackModel" (71 : Nat) "OneBackModel" "lastTake" "[I") ∈ GT := GT_t 1225 (by decide +kernel) rfl
theorem tw1226 : (Jvm.Cond.fieldLink "OneBackModel" (74 : Nat) "OneBackModel" "lost" "[I") ∈ GT := GT_t 1226 (by decide +kernel) rfl
theorem tw1227 : (Jvm.Cond.fieldLink "OneBackModel" (332 : Nat) "OneBackModel" "night" "I") ∈ GT := GT_t 1227 (by decide +kernel) rfl
theorem tw1228 : (Jvm.Cond.fieldLink "OneBackModel" (335 : Nat) "OneBackModel" "caught" "I") ∈ GT := GT_t 1228 (by decide +kernel) rfl
theorem tw1229 : (Jvm.Cond.fieldLink "OneBackModel" (338 : Nat) "OneBackModel" "clock" "I") ∈ GT := GT_t 1229 (by decide +kernel) rfl
theorem tw1230 : (Jvm.Cond.fieldLink "OneBackModel" (77 : Nat) "OneBackModel" "aided" "[I") ∈ GT := GT_t 1230 (by decide +kernel) rfl
theorem tw1231 : (Jvm.Cond.fieldLink "OneBackModel" (402 : Nat) "OneBackModel" "aidCost" "I") ∈ GT := GT_t 1231 (by decide +kernel) rfl
theorem tw1232 : (Jvm.Cond.fieldLink "OneBackModel" (405 : Nat) "OneBackModel" "aidMany" "I") ∈ GT := GT_t 1232 (by decide +kernel) rfl
theorem tw1233 : (Jvm.Cond.fieldLink "OneBackModel" (80 : Nat) "OneBackModel" "carried" "[I") ∈ GT := GT_t 1233 (by decide +kernel) rfl
theorem tw1234 : (Jvm.Cond.fieldLink "OneBackModel" (83 : Nat) "OneBackModel" "then" "[I") ∈ GT := GT_t 1234 (by decide +kernel) rfl
theorem tw1235 : (Jvm.Cond.fieldLink "OneBackModel" (432 : Nat) "OneBackModel" "sight" "I") ∈ GT := GT_t 1235 (by decide +kernel) rfl
theorem tw1236 : (Jvm.Cond.fieldLink "OneBackModel" (476 : Nat) "OneBackModel" "seed" "I") ∈ GT := GT_t 1236 (by decide +kernel) rfl
theorem tw1237 : (Jvm.Cond.fieldLink "OneBackModel" (86 : Nat) "OneBackModel" "kept" "[Z") ∈ GT := GT_t 1237 (by decide +kernel) rfl
theorem tw1341 : (Jvm.Cond.arrayClass Jvm.ClassFile.FieldType.boolean) ∈ GT := GT_t 1341 (by decide +kernel) rfl
theorem tw1342 : (Jvm.Cond.methodLink "OneBackLaw" (17 : Nat) ({ cls := "OneBackModel", name := "feed", desc := "(IIIII)I" } : Jvm.MethodName)) ∈ GT := GT_t 1342 (by decide +kernel) rfl
theorem tw1343 : (Jvm.Cond.instanceMethod ({ cls := "OneBackModel", name := "feed", desc := "(IIIII)I" } : Jvm.MethodName)) ∈ GT := GT_t 1343 (by decide +kernel) rfl
theorem tw1344 : (Jvm.Cond.selects "OneBackModel" ({ cls := "OneBackModel", name := "feed", desc := "(IIIII)I" } : Jvm.MethodName) ({ cls := "OneBackModel", name := "feed", desc := "(IIIII)I" } : Jvm.MethodName)) ∈ GT := GT_t 1344 (by decide +kernel) rfl
theorem tw1345 : (Jvm.Cond.code ({ cls := "OneBackModel", name := "feed", desc := "(IIIII)I" } : Jvm.MethodName) prog_13_method_11_code (6 : Nat) (Option.some Jvm.ClassFile.FieldType.int)) ∈ GT := GT_t 1345 (by decide +kernel) rfl
theorem tw1346 : (Jvm.Cond.methodLink "OneBackModel" (102 : Nat) ({ cls := "OneBackModel", name := "four", desc := "(I)V" } : Jvm.MethodName)) ∈ GT := GT_t 1346 (by decide +kernel) rfl
theorem tw1348 : (Jvm.Cond.instanceMethod ({ cls := "OneBackModel", name := "four", desc := "(I)V" } : Jvm.MethodName)) ∈ GT := GT_t 1348 (by decide +kernel) rfl
theorem tw1349 : (Jvm.Cond.code ({ cls := "OneBackModel", name := "four", desc := "(I)V" } : Jvm.MethodName) prog_13_method_12_code (3 : Nat) (Option.none : Option Jvm.ClassFile.FieldType)) ∈ GT := GT_t 1349 (by decide +kernel) rfl
theorem tw1350 : (Jvm.Cond.methodLink "OneBackLaw" (22 : Nat) ({ cls := "OneBackModel", name := "end", desc := "(I)I" } : Jvm.MethodName)) ∈ GT := GT_t 1350 (by decide +kernel) rfl
theorem tw1351 : (Jvm.Cond.instanceMethod ({ cls := "OneBackModel", name := "end", desc := "(I)I" } : Jvm.MethodName)) ∈ GT := GT_t 1351 (by decide +kernel) rfl
theorem tw1352 : (Jvm.Cond.selects "OneBackModel" ({ cls := "OneBackModel", name := "end", desc := "(I)I" } : Jvm.MethodName) ({ cls := "OneBackModel", name := "end", desc := "(I)I" } : Jvm.MethodName)) ∈ GT := GT_t 1352 (by decide +kernel) rfl
theorem tw1353 : (Jvm.Cond.code ({ cls := "OneBackModel", name := "end", desc := "(I)I" } : Jvm.MethodName) prog_13_method_13_code (2 : Nat) (Option.some Jvm.ClassFile.FieldType.int)) ∈ GT := GT_t 1353 (by decide +kernel) rfl
theorem tw1354 : (Jvm.Cond.methodLink "OneBackModel" (98 : Nat) ({ cls := "OneBackModel", name := "in", desc := "(III)Z" } : Jvm.MethodName)) ∈ GT := GT_t 1354 (by decide +kernel) rfl
theorem tw1355 : (Jvm.Cond.static ({ cls := "OneBackModel", name := "in", desc := "(III)Z" } : Jvm.MethodName)) ∈ GT := GT_t 1355 (by decide +kernel) rfl
theorem tw1356 : (Jvm.Cond.code ({ cls := "OneBackModel", name := "in", desc := "(III)Z" } : Jvm.MethodName) prog_13_method_3_code (3 : Nat) (Option.some Jvm.ClassFile.FieldType.boolean)) ∈ GT := GT_t 1356 (by decide +kernel) rfl
theorem tw1357 : (Jvm.Cond.methodLink "OneBackLaw" (27 : Nat) ({ cls := "OneBackModel", name := "text", desc := "(II)I" } : Jvm.MethodName)) ∈ GT := GT_t 1357 (by decide +kernel) rfl
theorem tw1358 : (Jvm.Cond.instanceMethod ({ cls := "OneBackModel", name := "text", desc := "(II)I" } : Jvm.MethodName)) ∈ GT := GT_t 1358 (by decide +kernel) rfl
theorem tw1359 : (Jvm.Cond.selects "OneBackModel" ({ cls := "OneBackModel", name := "text", desc := "(II)I" } : Jvm.MethodName) ({ cls := "OneBackModel", name := "text", desc := "(II)I" } : Jvm.MethodName)) ∈ GT := GT_t 1359 (by decide +kernel) rfl
theorem tw1360 : (Jvm.Cond.code ({ cls := "OneBackModel", name := "text", desc := "(II)I" } : Jvm.MethodName) prog_13_method_39_code (4 : Nat) (Option.some Jvm.ClassFile.FieldType.int)) ∈ GT := GT_t 1360 (by decide +kernel) rfl
theorem tw1361 : (Jvm.Cond.methodLink "OneBackModel" (264 : Nat) ({ cls := "OneBackModel", name := "is", desc := "(II)Z" } : Jvm.MethodName)) ∈ GT := GT_t 1361 (by decide +kernel) rfl
theorem tw1363 : (Jvm.Cond.instanceMethod ({ cls := "OneBackModel", name := "is", desc := "(II)Z" } : Jvm.MethodName)) ∈ GT := GT_t 1363 (by decide +kernel) rfl
theorem tw1364 : (Jvm.Cond.code ({ cls := "OneBackModel", name := "is", desc := "(II)Z" } : Jvm.MethodName) prog_13_method_10_code (3 : Nat) (Option.some Jvm.ClassFile.FieldType.boolean)) ∈ GT := GT_t 1364 (by decide +kernel) rfl
theorem tw1365 : (Jvm.Cond.methodLink "OneBackModel" (268 : Nat) ({ cls := "OneBackModel", name := "readText", desc := "(I)Z" } : Jvm.MethodName)) ∈ GT := GT_t 1365 (by decide +kernel) rfl
theorem tw1367 : (Jvm.Cond.instanceMethod ({ cls := "OneBackModel", name := "readText", desc := "(I)Z" } : Jvm.MethodName)) ∈ GT := GT_t 1367 (by decide +kernel) rfl
theorem tw1368 : (Jvm.Cond.code ({ cls := "OneBackModel", name := "readText", desc := "(I)Z" } : Jvm.MethodName) prog_13_method_36_code (3 : Nat) (Option.some Jvm.ClassFile.FieldType.boolean)) ∈ GT := GT_t 1368 (by decide +kernel) rfl
theorem tw1369 : (Jvm.Cond.methodLink "OneBackModel" (254 : Nat) ({ cls := "OneBackModel", name := "blank", desc := "(I)V" } : Jvm.MethodName)) ∈ GT := GT_t 1369 (by decide +kernel) rfl
theorem tw1371 : (Jvm.Cond.instanceMethod ({ cls := "OneBackModel", name := "blank", desc := "(I)V" } : Jvm.MethodName)) ∈ GT := GT_t 1371 (by decide +kernel) rfl
theorem tw1372 : (Jvm.Cond.code ({ cls := "OneBackModel", name := "blank", desc := "(I)V" } : Jvm.MethodName) prog_13_method_35_code (3 : Nat) (Option.none : Option Jvm.ClassFile.FieldType)) ∈ GT := GT_t 1372 (by decide +kernel) rfl
theorem tw1373 : (Jvm.Cond.methodLink "OneBackModel" (251 : Nat) ({ cls := "OneBackModel", name := "blankTown", desc := "()V" } : Jvm.MethodName)) ∈ GT := GT_t 1373 (by decide +kernel) rfl
theorem tw1375 : (Jvm.Cond.instanceMethod ({ cls := "OneBackModel", name := "blankTown", desc := "()V" } : Jvm.MethodName)) ∈ GT := GT_t 1375 (by decide +kernel) rfl
theorem tw1376 : (Jvm.Cond.code ({ cls := "OneBackModel", name := "blankTown", desc := "()V" } : Jvm.MethodName) prog_13_method_34_code (2 : Nat) (Option.none : Option Jvm.ClassFile.FieldType)) ∈ GT := GT_t 1376 (by decide +kernel) rfl
theorem tw1377 : (Jvm.Cond.methodLink "OneBackModel" (150 : Nat) ({ cls := "OneBackModel", name := "token", desc := "()V" } : Jvm.MethodName)) ∈ GT := GT_t 1377 (by decide +kernel) rfl
theorem tw1379 : (Jvm.Cond.instanceMethod ({ cls := "OneBackModel", name := "token", desc := "()V" } : Jvm.MethodName)) ∈ GT := GT_t 1379 (by decide +kernel) rfl
theorem tw1380 : (Jvm.Cond.code ({ cls := "OneBackModel", name := "token", desc := "()V" } : Jvm.MethodName) prog_13_method_15_code (3 : Nat) (Option.none : Option Jvm.ClassFile.FieldType)) ∈ GT := GT_t 1380 (by decide +kernel) rfl
theorem tw1381 : (Jvm.Cond.methodLink "OneBackModel" (112 : Nat) ({ cls := "OneBackModel", name := "see", desc := "()I" } : Jvm.MethodName)) ∈ GT := GT_t 1381 (by decide +kernel) rfl
theorem tw1383 : (Jvm.Cond.instanceMethod ({ cls := "OneBackModel", name := "see", desc := "()I" } : Jvm.MethodName)) ∈ GT := GT_t 1383 (by decide +kernel) rfl
theorem tw1384 : (Jvm.Cond.code ({ cls := "OneBackModel", name := "see", desc := "()I" } : Jvm.MethodName) prog_13_method_14_code (1 : Nat) (Option.some Jvm.ClassFile.FieldType.int)) ∈ GT := GT_t 1384 (by decide +kernel) rfl
theorem tw1385 : (Jvm.Cond.methodLink "OneBackModel" (257 : Nat) ({ cls := "OneBackModel", name := "lines", desc := "(I)Z" } : Jvm.MethodName)) ∈ GT := GT_t 1385 (by decide +kernel) rfl
theorem tw1387 : (Jvm.Cond.instanceMethod ({ cls := "OneBackModel", name := "lines", desc := "(I)Z" } : Jvm.MethodName)) ∈ GT := GT_t 1387 (by decide +kernel) rfl
theorem tw1388 : (Jvm.Cond.code ({ cls := "OneBackModel", name := "lines", desc := "(I)Z" } : Jvm.MethodName) prog_13_method_33_code (4 : Nat) (Option.some Jvm.ClassFile.FieldType.boolean)) ∈ GT := GT_t 1388 (by decide +kernel) rfl
theorem tw1389 : (Jvm.Cond.methodLink "OneBackModel" (247 : Nat) ({ cls := "OneBackModel", name := "lineOf", desc := "(IJI)Z" } : Jvm.MethodName)) ∈ GT := GT_t 1389 (by decide +kernel) rfl
theorem tw1391 : (Jvm.Cond.instanceMethod ({ cls := "OneBackModel", name := "lineOf", desc := "(IJI)Z" } : Jvm.MethodName)) ∈ GT := GT_t 1391 (by decide +kernel) rfl
theorem tw1392 : (Jvm.Cond.code ({ cls := "OneBackModel", name := "lineOf", desc := "(IJI)Z" } : Jvm.MethodName) prog_13_method_32_code (5 : Nat) (Option.some Jvm.ClassFile.FieldType.boolean)) ∈ GT := GT_t 1392 (by decide +kernel) rfl
theorem tw1393 : (Jvm.Cond.methodLink "OneBackModel" (234 : Nat) ({ cls := "OneBackModel", name := "townLine", desc := "(JI)Z" } : Jvm.MethodName)) ∈ GT := GT_t 1393 (by decide +kernel) rfl
theorem tw1395 : (Jvm.Cond.instanceMethod ({ cls := "OneBackModel", name := "townLine", desc := "(JI)Z" } : Jvm.MethodName)) ∈ GT := GT_t 1395 (by decide +kernel) rfl
theorem tw1396 : (Jvm.Cond.code ({ cls := "OneBackModel", name := "townLine", desc := "(JI)Z" } : Jvm.MethodName) prog_13_method_28_code (4 : Nat) (Option.some Jvm.ClassFile.FieldType.boolean)) ∈ GT := GT_t 1396 (by decide +kernel) rfl
theorem tw1397 : (Jvm.Cond.constantLong "OneBackModel" (181 : Nat) (114827921155443 : Int64)) ∈ GT := GT_t 1397 (by decide +kernel) rfl
theorem tw1398 : (Jvm.Cond.constantLong "OneBackModel" (183 : Nat) (6840691 : Int64)) ∈ GT := GT_t 1398 (by decide +kernel) rfl
theorem tw1399 : (Jvm.Cond.constantLong "OneBackModel" (185 : Nat) (474147546227 : Int64)) ∈ GT := GT_t 1399 (by decide +kernel) rfl
theorem tw1400 : (Jvm.Cond.constantLong "OneBackModel" (177 : Nat) (512736125800 : Int64)) ∈ GT := GT_t 1400 (by decide +kernel) rfl
theorem tw1401 : (Jvm.Cond.constantLong "OneBackModel" (187 : Nat) (123563851081075 : Int64)) ∈ GT := GT_t 1401 (by decide +kernel) rfl
theorem tw1402 : (Jvm.Cond.constantLong "OneBackModel" (179 : Nat) (131277443786868 : Int64)) ∈ GT := GT_t 1402 (by decide +kernel) rfl
theorem tw1403 : (Jvm.Cond.constantLong "OneBackModel" (189 : Nat) (512970880104 : Int64)) ∈ GT := GT_t 1403 (by decide +kernel) rfl
theorem tw1404 : (Jvm.Cond.constantLong "OneBackModel" (191 : Nat) (7565166 : Int64)) ∈ GT := GT_t 1404 (by decide +kernel) rfl
theorem tw1405 : (Jvm.Cond.constantLong "OneBackModel" (193 : Nat) (499967944038 : Int64)) ∈ GT := GT_t 1405 (by decide +kernel) rfl
theorem tw1406 : (Jvm.Cond.methodLink "OneBackModel" (138 : Nat) ({ cls := "OneBackModel", name := "fails", desc := "()Z" } : Jvm.MethodName)) ∈ GT := GT_t 1406 (by decide +kernel) rfl
theorem tw1408 : (Jvm.Cond.instanceMethod ({ cls := "OneBackModel", name := "fails", desc := "()Z" } : Jvm.MethodName)) ∈ GT := GT_t 1408 (by decide +kernel) rfl
theorem tw1409 : (Jvm.Cond.code ({ cls := "OneBackModel", name := "fails", desc := "()Z" } : Jvm.MethodName) prog_13_method_16_code (1 : Nat) (Option.some Jvm.ClassFile.FieldType.boolean)) ∈ GT := GT_t 1409 (by decide +kernel) rfl
theorem tw1410 : (Jvm.Cond.methodLink "OneBackModel" (195 : Nat) ({ cls := "OneBackModel", name := "full", desc := "(III)V" } : Jvm.MethodName)) ∈ GT := GT_t 1410 (by decide +kernel) rfl
theorem tw1412 : (Jvm.Cond.instanceMethod ({ cls := "OneBackModel", name := "full", desc := "(III)V" } : Jvm.MethodName)) ∈ GT := GT_t 1412 (by decide +kernel) rfl
theorem tw1413 : (Jvm.Cond.code ({ cls := "OneBackModel", name := "full", desc := "(III)V" } : Jvm.MethodName) prog_13_method_21_code (4 : Nat) (Option.none : Option Jvm.ClassFile.FieldType)) ∈ GT := GT_t 1413 (by decide +kernel) rfl
theorem tw1414 : (Jvm.Cond.methodLink "OneBackModel" (142 : Nat) ({ cls := "OneBackModel", name := "later", desc := "(II)V" } : Jvm.MethodName)) ∈ GT := GT_t 1414 (by decide +kernel) rfl
theorem tw1416 : (Jvm.Cond.instanceMethod ({ cls := "OneBackModel", name := "later", desc := "(II)V" } : Jvm.MethodName)) ∈ GT := GT_t 1416 (by decide +kernel) rfl
theorem tw1417 : (Jvm.Cond.code ({ cls := "OneBackModel", name := "later", desc := "(II)V" } : Jvm.MethodName) prog_13_method_17_code (3 : Nat) (Option.none : Option Jvm.ClassFile.FieldType)) ∈ GT := GT_t 1417 (by decide +kernel) rfl
theorem tw1418 : (Jvm.Cond.methodLink "OneBackModel" (199 : Nat) ({ cls := "OneBackModel", name := "goodsLine", desc := "(I)Z" } : Jvm.MethodName)) ∈ GT := GT_t 1418 (by decide +kernel) rfl
theorem tw1420 : (Jvm.Cond.instanceMethod ({ cls := "OneBackModel", name := "goodsLine", desc := "(I)Z" } : Jvm.MethodName)) ∈ GT := GT_t 1420 (by decide +kernel) rfl
theorem tw1421 : (Jvm.Cond.code ({ cls := "OneBackModel", name := "goodsLine", desc := "(I)Z" } : Jvm.MethodName) prog_13_method_24_code (2 : Nat) (Option.some Jvm.ClassFile.FieldType.boolean)) ∈ GT := GT_t 1421 (by decide +kernel) rfl
theorem tw1422 : (Jvm.Cond.methodLink "OneBackModel" (167 : Nat) ({ cls := "OneBackModel", name := "takeHouse", desc := "(I)Z" } : Jvm.MethodName)) ∈ GT := GT_t 1422 (by decide +kernel) rfl
theorem tw1424 : (Jvm.Cond.instanceMethod ({ cls := "OneBackModel", name := "takeHouse", desc := "(I)Z" } : Jvm.MethodName)) ∈ GT := GT_t 1424 (by decide +kernel) rfl
theorem tw1425 : (Jvm.Cond.code ({ cls := "OneBackModel", name := "takeHouse", desc := "(I)Z" } : Jvm.MethodName) prog_13_method_20_code (2 : Nat) (Option.some Jvm.ClassFile.FieldType.boolean)) ∈ GT := GT_t 1425 (by decide +kernel) rfl
theorem tw1426 : (Jvm.Cond.methodLink "OneBackModel" (157 : Nat) ({ cls := "OneBackModel", name := "take", desc := "(III)Z" } : Jvm.MethodName)) ∈ GT := GT_t 1426 (by decide +kernel) rfl
theorem tw1428 : (Jvm.Cond.instanceMethod ({ cls := "OneBackModel", name := "take", desc := "(III)Z" } : Jvm.MethodName)) ∈ GT := GT_t 1428 (by decide +kernel) rfl
theorem tw1429 : (Jvm.Cond.code ({ cls := "OneBackModel", name := "take", desc := "(III)Z" } : Jvm.MethodName) prog_13_method_19_code (4 : Nat) (Option.some Jvm.ClassFile.FieldType.boolean)) ∈ GT := GT_t 1429 (by decide +kernel) rfl
theorem tw1430 : (Jvm.Cond.methodLink "OneBackModel" (153 : Nat) ({ cls := "OneBackModel", name := "takeBut", desc := "(IIII)Z" } : Jvm.MethodName)) ∈ GT := GT_t 1430 (by decide +kernel) rfl
theorem tw1432 : (Jvm.Cond.instanceMethod ({ cls := "OneBackModel", name := "takeBut", desc := "(IIII)Z" } : Jvm.MethodName)) ∈ GT := GT_t 1432 (by decide +kernel) rfl
theorem tw1433 : (Jvm.Cond.code ({ cls := "OneBackModel", name := "takeBut", desc := "(IIII)Z" } : Jvm.MethodName) prog_13_method_18_code (5 : Nat) (Option.some Jvm.ClassFile.FieldType.boolean)) ∈ GT := GT_t 1433 (by decide +kernel) rfl
theorem tw1434 : (Jvm.Cond.methodLink "OneBackModel" (163 : Nat) ({ cls := "OneBackModel", name := "greater", desc := "(II)I" } : Jvm.MethodName)) ∈ GT := GT_t 1434 (by decide +kernel) rfl
theorem tw1435 : (Jvm.Cond.static ({ cls := "OneBackModel", name := "greater", desc := "(II)I" } : Jvm.MethodName)) ∈ GT := GT_t 1435 (by decide +kernel) rfl
theorem tw1436 : (Jvm.Cond.code ({ cls := "OneBackModel", name := "greater", desc := "(II)I" } : Jvm.MethodName) prog_13_method_5_code (2 : Nat) (Option.some Jvm.ClassFile.FieldType.int)) ∈ GT := GT_t 1436 (by decide +kernel) rfl
theorem tw1437 : (Jvm.Cond.methodLink "OneBackModel" (171 : Nat) ({ cls := "OneBackModel", name := "lay", desc := "(II)V" } : Jvm.MethodName)) ∈ GT := GT_t 1437 (by decide +kernel) rfl
theorem tw1439 : (Jvm.Cond.instanceMethod ({ cls := "OneBackModel", name := "lay", desc := "(II)V" } : Jvm.MethodName)) ∈ GT := GT_t 1439 (by decide +kernel) rfl
theorem tw1440 : (Jvm.Cond.code ({ cls := "OneBackModel", name := "lay", desc := "(II)V" } : Jvm.MethodName) prog_13_method_23_code (3 : Nat) (Option.none : Option Jvm.ClassFile.FieldType)) ∈ GT := GT_t 1440 (by decide +kernel) rfl
theorem tw1441 : (Jvm.Cond.methodLink "OneBackModel" (202 : Nat) ({ cls := "OneBackModel", name := "houseLine", desc := "(J)Z" } : Jvm.MethodName)) ∈ GT := GT_t 1441 (by decide +kernel) rfl
theorem tw1443 : (Jvm.Cond.instanceMethod ({ cls := "OneBackModel", name := "houseLine", desc := "(J)Z" } : Jvm.MethodName)) ∈ GT := GT_t 1443 (by decide +kernel) rfl
theorem tw1444 : (Jvm.Cond.code ({ cls := "OneBackModel", name := "houseLine", desc := "(J)Z" } : Jvm.MethodName) prog_13_method_26_code (3 : Nat) (Option.some Jvm.ClassFile.FieldType.boolean)) ∈ GT := GT_t 1444 (by decide +kernel) rfl
theorem tw1445 : (Jvm.Cond.methodLink "OneBackModel" (206 : Nat) ({ cls := "OneBackModel", name := "goodLine", desc := "(J)Z" } : Jvm.MethodName)) ∈ GT := GT_t 1445 (by decide +kernel) rfl
theorem tw1447 : (Jvm.Cond.instanceMethod ({ cls := "OneBackModel", name := "goodLine", desc := "(J)Z" } : Jvm.MethodName)) ∈ GT := GT_t 1447 (by decide +kernel) rfl
theorem tw1448 : (Jvm.Cond.code ({ cls := "OneBackModel", name := "goodLine", desc := "(J)Z" } : Jvm.MethodName) prog_13_method_27_code (3 : Nat) (Option.some Jvm.ClassFile.FieldType.boolean)) ∈ GT := GT_t 1448 (by decide +kernel) rfl
theorem tw1449 : (Jvm.Cond.methodLink "OneBackModel" (209 : Nat) ({ cls := "OneBackModel", name := "sonLine", desc := "()Z" } : Jvm.MethodName)) ∈ GT := GT_t 1449 (by decide +kernel) rfl
theorem tw1451 : (Jvm.Cond.instanceMethod ({ cls := "OneBackModel", name := "sonLine", desc := "()Z" } : Jvm.MethodName)) ∈ GT := GT_t 1451 (by decide +kernel) rfl
theorem tw1452 : (Jvm.Cond.code ({ cls := "OneBackModel", name := "sonLine", desc := "()Z" } : Jvm.MethodName) prog_13_method_25_code (1 : Nat) (Option.some Jvm.ClassFile.FieldType.boolean)) ∈ GT := GT_t 1452 (by decide +kernel) rfl
theorem tw1453 : (Jvm.Cond.methodLink "OneBackModel" (212 : Nat) ({ cls := "OneBackModel", name := "keep", desc := "(IIII)V" } : Jvm.MethodName)) ∈ GT := GT_t 1453 (by decide +kernel) rfl
theorem tw1455 : (Jvm.Cond.instanceMethod ({ cls := "OneBackModel", name := "keep", desc := "(IIII)V" } : Jvm.MethodName)) ∈ GT := GT_t 1455 (by decide +kernel) rfl
theorem tw1456 : (Jvm.Cond.code ({ cls := "OneBackModel", name := "keep", desc := "(IIII)V" } : Jvm.MethodName) prog_13_method_22_code (7 : Nat) (Option.none : Option Jvm.ClassFile.FieldType)) ∈ GT := GT_t 1456 (by decide +kernel) rfl
theorem tw1457 : (Jvm.Cond.methodLink "OneBackModel" (238 : Nat) ({ cls := "OneBackModel", name := "lawLine", desc := "(J)Z" } : Jvm.MethodName)) ∈ GT := GT_t 1457 (by decide +kernel) rfl
theorem tw1459 : (Jvm.Cond.instanceMethod ({ cls := "OneBackModel", name := "lawLine", desc := "(J)Z" } : Jvm.MethodName)) ∈ GT := GT_t 1459 (by decide +kernel) rfl
theorem tw1460 : (Jvm.Cond.code ({ cls := "OneBackModel", name := "lawLine", desc := "(J)Z" } : Jvm.MethodName) prog_13_method_29_code (3 : Nat) (Option.some Jvm.ClassFile.FieldType.boolean)) ∈ GT := GT_t 1460 (by decide +kernel) rfl
theorem tw1461 : (Jvm.Cond.constantLong "OneBackModel" (216 : Nat) (1918989413 : Int64)) ∈ GT := GT_t 1461 (by decide +kernel) rfl
theorem tw1462 : (Jvm.Cond.constantLong "OneBackModel" (218 : Nat) (426836779880 : Int64)) ∈ GT := GT_t 1462 (by decide +kernel) rfl
theorem tw1463 : (Jvm.Cond.constantLong "OneBackModel" (220 : Nat) (110429873532005 : Int64)) ∈ GT := GT_t 1463 (by decide +kernel) rfl
theorem tw1464 : (Jvm.Cond.methodLink "OneBackModel" (241 : Nat) ({ cls := "OneBackModel", name := "nightsLine", desc := "(JI)Z" } : Jvm.MethodName)) ∈ GT := GT_t 1464 (by decide +kernel) rfl
theorem tw1466 : (Jvm.Cond.instanceMethod ({ cls := "OneBackModel", name := "nightsLine", desc := "(JI)Z" } : Jvm.MethodName)) ∈ GT := GT_t 1466 (by decide +kernel) rfl
theorem tw1467 : (Jvm.Cond.code ({ cls := "OneBackModel", name := "nightsLine", desc := "(JI)Z" } : Jvm.MethodName) prog_13_method_30_code (5 : Nat) (Option.some Jvm.ClassFile.FieldType.boolean)) ∈ GT := GT_t 1467 (by decide +kernel) rfl
theorem tw1468 : (Jvm.Cond.constantLong "OneBackModel" (222 : Nat) (1952541541 : Int64)) ∈ GT := GT_t 1468 (by decide +kernel) rfl
theorem tw1469 : (Jvm.Cond.constantLong "OneBackModel" (224 : Nat) (1734964837 : Int64)) ∈ GT := GT_t 1469 (by decide +kernel) rfl
theorem tw1470 : (Jvm.Cond.constantLong "OneBackModel" (226 : Nat) (7562612 : Int64)) ∈ GT := GT_t 1470 (by decide +kernel) rfl
theorem tw1471 : (Jvm.Cond.constantLong "OneBackModel" (228 : Nat) (474214787188 : Int64)) ∈ GT := GT_t 1471 (by decide +kernel) rfl
theorem tw1472 : (Jvm.Cond.methodLink "OneBackModel" (244 : Nat) ({ cls := "OneBackModel", name := "sightLine", desc := "(JI)Z" } : Jvm.MethodName)) ∈ GT := GT_t 1472 (by decide +kernel) rfl
theorem tw1474 : (Jvm.Cond.instanceMethod ({ cls := "OneBackModel", name := "sightLine", desc := "(JI)Z" } : Jvm.MethodName)) ∈ GT := GT_t 1474 (by decide +kernel) rfl
theorem tw1475 : (Jvm.Cond.code ({ cls := "OneBackModel", name := "sightLine", desc := "(JI)Z" } : Jvm.MethodName) prog_13_method_31_code (4 : Nat) (Option.some Jvm.ClassFile.FieldType.boolean)) ∈ GT := GT_t 1475 (by decide +kernel) rfl
theorem tw1476 : (Jvm.Cond.constantLong "OneBackModel" (230 : Nat) (444150998382 : Int64)) ∈ GT := GT_t 1476 (by decide +kernel) rfl
theorem tw1477 : (Jvm.Cond.constantLong "OneBackModel" (232 : Nat) (1818584692 : Int64)) ∈ GT := GT_t 1477 (by decide +kernel) rfl
theorem tw1478 : (Jvm.Cond.methodLink "OneBackModel" (271 : Nat) ({ cls := "OneBackModel", name := "storeAll", desc := "(II)V" } : Jvm.MethodName)) ∈ GT := GT_t 1478 (by decide +kernel) rfl
theorem tw1480 : (Jvm.Cond.instanceMethod ({ cls := "OneBackModel", name := "storeAll", desc := "(II)V" } : Jvm.MethodName)) ∈ GT := GT_t 1480 (by decide +kernel) rfl
theorem tw1481 : (Jvm.Cond.code ({ cls := "OneBackModel", name := "storeAll", desc := "(II)V" } : Jvm.MethodName) prog_13_method_38_code (3 : Nat) (Option.none : Option Jvm.ClassFile.FieldType)) ∈ GT := GT_t 1481 (by decide +kernel) rfl
theorem tw1482 : (Jvm.Cond.methodLink "OneBackModel" (260 : Nat) ({ cls := "OneBackModel", name := "store", desc := "([III)V" } : Jvm.MethodName)) ∈ GT := GT_t 1482 (by decide +kernel) rfl
theorem tw1484 : (Jvm.Cond.instanceMethod ({ cls := "OneBackModel", name := "store", desc := "([III)V" } : Jvm.MethodName)) ∈ GT := GT_t 1484 (by decide +kernel) rfl
theorem tw1485 : (Jvm.Cond.code ({ cls := "OneBackModel", name := "store", desc := "([III)V" } : Jvm.MethodName) prog_13_method_37_code (5 : Nat) (Option.none : Option Jvm.ClassFile.FieldType)) ∈ GT := GT_t 1485 (by decide +kernel) rfl
theorem tw1486 : (Jvm.Cond.methodLink "OneBackLaw" (31 : Nat) ({ cls := "OneBackModel", name := "fault", desc := "(I)I" } : Jvm.MethodName)) ∈ GT := GT_t 1486 (by decide +kernel) rfl
theorem tw1487 : (Jvm.Cond.instanceMethod ({ cls := "OneBackModel", name := "fault", desc := "(I)I" } : Jvm.MethodName)) ∈ GT := GT_t 1487 (by decide +kernel) rfl
theorem tw1488 : (Jvm.Cond.selects "OneBackModel" ({ cls := "OneBackModel", name := "fault", desc := "(I)I" } : Jvm.MethodName) ({ cls := "OneBackModel", name := "fault", desc := "(I)I" } : Jvm.MethodName)) ∈ GT := GT_t 1488 (by decide +kernel) rfl
theorem tw1489 : (Jvm.Cond.code ({ cls := "OneBackModel", name := "fault", desc := "(I)I" } : Jvm.MethodName) prog_13_method_40_code (2 : Nat) (Option.some Jvm.ClassFile.FieldType.int)) ∈ GT := GT_t 1489 (by decide +kernel) rfl
theorem tw1490 : (Jvm.Cond.methodLink "OneBackLaw" (35 : Nat) ({ cls := "OneBackModel", name := "town", desc := "(II)I" } : Jvm.MethodName)) ∈ GT := GT_t 1490 (by decide +kernel) rfl
theorem tw1491 : (Jvm.Cond.instanceMethod ({ cls := "OneBackModel", name := "town", desc := "(II)I" } : Jvm.MethodName)) ∈ GT := GT_t 1491 (by decide +kernel) rfl
theorem tw1492 : (Jvm.Cond.selects "OneBackModel" ({ cls := "OneBackModel", name := "town", desc := "(II)I" } : Jvm.MethodName) ({ cls := "OneBackModel", name := "town", desc := "(II)I" } : Jvm.MethodName)) ∈ GT := GT_t 1492 (by decide +kernel) rfl
theorem tw1493 : (Jvm.Cond.code ({ cls := "OneBackModel", name := "town", desc := "(II)I" } : Jvm.MethodName) prog_13_method_48_code (4 : Nat) (Option.some Jvm.ClassFile.FieldType.int)) ∈ GT := GT_t 1493 (by decide +kernel) rfl
theorem tw1494 : (Jvm.Cond.methodLink "OneBackModel" (287 : Nat) ({ cls := "OneBackModel", name := "hand", desc := "(I)Z" } : Jvm.MethodName)) ∈ GT := GT_t 1494 (by decide +kernel) rfl
theorem tw1496 : (Jvm.Cond.instanceMethod ({ cls := "OneBackModel", name := "hand", desc := "(I)Z" } : Jvm.MethodName)) ∈ GT := GT_t 1496 (by decide +kernel) rfl
theorem tw1497 : (Jvm.Cond.code ({ cls := "OneBackModel", name := "hand", desc := "(I)Z" } : Jvm.MethodName) prog_13_method_42_code (2 : Nat) (Option.some Jvm.ClassFile.FieldType.boolean)) ∈ GT := GT_t 1497 (by decide +kernel) rfl
theorem tw1498 : (Jvm.Cond.methodLink "OneBackModel" (277 : Nat) ({ cls := "OneBackModel", name := "of", desc := "(I)I" } : Jvm.MethodName)) ∈ GT := GT_t 1498 (by decide +kernel) rfl
theorem tw1500 : (Jvm.Cond.instanceMethod ({ cls := "OneBackModel", name := "of", desc := "(I)I" } : Jvm.MethodName)) ∈ GT := GT_t 1500 (by decide +kernel) rfl
theorem tw1501 : (Jvm.Cond.code ({ cls := "OneBackModel", name := "of", desc := "(I)I" } : Jvm.MethodName) prog_13_method_41_code (2 : Nat) (Option.some Jvm.ClassFile.FieldType.int)) ∈ GT := GT_t 1501 (by decide +kernel) rfl
theorem tw1502 : (Jvm.Cond.methodLink "OneBackModel" (290 : Nat) ({ cls := "OneBackModel", name := "isHouse", desc := "(I)Z" } : Jvm.MethodName)) ∈ GT := GT_t 1502 (by decide +kernel) rfl
theorem tw1504 : (Jvm.Cond.instanceMethod ({ cls := "OneBackModel", name := "isHouse", desc := "(I)Z" } : Jvm.MethodName)) ∈ GT := GT_t 1504 (by decide +kernel) rfl
theorem tw1505 : (Jvm.Cond.code ({ cls := "OneBackModel", name := "isHouse", desc := "(I)Z" } : Jvm.MethodName) prog_13_method_43_code (2 : Nat) (Option.some Jvm.ClassFile.FieldType.boolean)) ∈ GT := GT_t 1505 (by decide +kernel) rfl
theorem tw1506 : (Jvm.Cond.methodLink "OneBackModel" (293 : Nat) ({ cls := "OneBackModel", name := "isGood", desc := "(I)Z" } : Jvm.MethodName)) ∈ GT := GT_t 1506 (by decide +kernel) rfl
theorem tw1507 : (Jvm.Cond.static ({ cls := "OneBackModel", name := "isGood", desc := "(I)Z" } : Jvm.MethodName)) ∈ GT := GT_t 1507 (by decide +kernel) rfl
theorem tw1508 : (Jvm.Cond.code ({ cls := "OneBackModel", name := "isGood", desc := "(I)Z" } : Jvm.MethodName) prog_13_method_45_code (1 : Nat) (Option.some Jvm.ClassFile.FieldType.boolean)) ∈ GT := GT_t 1508 (by decide +kernel) rfl
theorem tw1509 : (Jvm.Cond.methodLink "OneBackModel" (296 : Nat) ({ cls := "OneBackModel", name := "isThief", desc := "(I)Z" } : Jvm.MethodName)) ∈ GT := GT_t 1509 (by decide +kernel) rfl
theorem tw1511 : (Jvm.Cond.instanceMethod ({ cls := "OneBackModel", name := "isThief", desc := "(I)Z" } : Jvm.MethodName)) ∈ GT := GT_t 1511 (by decide +kernel) rfl
theorem tw1512 : (Jvm.Cond.code ({ cls := "OneBackModel", name := "isThief", desc := "(I)Z" } : Jvm.MethodName) prog_13_method_44_code (2 : Nat) (Option.some Jvm.ClassFile.FieldType.boolean)) ∈ GT := GT_t 1512 (by decide +kernel) rfl
theorem tw1513 : (Jvm.Cond.methodLink "OneBackLaw" (40 : Nat) ({ cls := "OneBackModel", name := "house", desc := "(IIII)I" } : Jvm.MethodName)) ∈ GT := GT_t 1513 (by decide +kernel) rfl
theorem tw1514 : (Jvm.Cond.instanceMethod ({ cls := "OneBackModel", name := "house", desc := "(IIII)I" } : Jvm.MethodName)) ∈ GT := GT_t 1514 (by decide +kernel) rfl
theorem tw1515 : (Jvm.Cond.selects "OneBackModel" ({ cls := "OneBackModel", name := "house", desc := "(IIII)I" } : Jvm.MethodName) ({ cls := "OneBackModel", name := "house", desc := "(IIII)I" } : Jvm.MethodName)) ∈ GT := GT_t 1515 (by decide +kernel) rfl
theorem tw1516 : (Jvm.Cond.code ({ cls := "OneBackModel", name := "house", desc := "(IIII)I" } : Jvm.MethodName) prog_13_method_49_code (5 : Nat) (Option.some Jvm.ClassFile.FieldType.int)) ∈ GT := GT_t 1516 (by decide +kernel) rfl
theorem tw1517 : (Jvm.Cond.methodLink "OneBackModel" (299 : Nat) ({ cls := "OneBackModel", name := "spare", desc := "(II)I" } : Jvm.MethodName)) ∈ GT := GT_t 1517 (by decide +kernel) rfl
theorem tw1519 : (Jvm.Cond.instanceMethod ({ cls := "OneBackModel", name := "spare", desc := "(II)I" } : Jvm.MethodName)) ∈ GT := GT_t 1519 (by decide +kernel) rfl
theorem tw1520 : (Jvm.Cond.code ({ cls := "OneBackModel", name := "spare", desc := "(II)I" } : Jvm.MethodName) prog_13_method_46_code (3 : Nat) (Option.some Jvm.ClassFile.FieldType.int)) ∈ GT := GT_t 1520 (by decide +kernel) rfl
theorem tw1521 : (Jvm.Cond.methodLink "OneBackModel" (302 : Nat) ({ cls := "OneBackModel", name := "lacks", desc := "(II)I" } : Jvm.MethodName)) ∈ GT := GT_t 1521 (by decide +kernel) rfl
theorem tw1523 : (Jvm.Cond.instanceMethod ({ cls := "OneBackModel", name := "lacks", desc := "(II)I" } : Jvm.MethodName)) ∈ GT := GT_t 1523 (by decide +kernel) rfl
theorem tw1524 : (Jvm.Cond.code ({ cls := "OneBackModel", name := "lacks", desc := "(II)I" } : Jvm.MethodName) prog_13_method_47_code (3 : Nat) (Option.some Jvm.ClassFile.FieldType.int)) ∈ GT := GT_t 1524 (by decide +kernel) rfl
theorem tw1525 : (Jvm.Cond.methodLink "OneBackLaw" (44 : Nat) ({ cls := "OneBackModel", name := "law", desc := "(II)I" } : Jvm.MethodName)) ∈ GT := GT_t 1525 (by decide +kernel) rfl
theorem tw1526 : (Jvm.Cond.instanceMethod ({ cls := "OneBackModel", name := "law", desc := "(II)I" } : Jvm.MethodName)) ∈ GT := GT_t 1526 (by decide +kernel) rfl
theorem tw1527 : (Jvm.Cond.selects "OneBackModel" ({ cls := "OneBackModel", name := "law", desc := "(II)I" } : Jvm.MethodName) ({ cls := "OneBackModel", name := "law", desc := "(II)I" } : Jvm.MethodName)) ∈ GT := GT_t 1527 (by decide +kernel) rfl
theorem tw1528 : (Jvm.Cond.code ({ cls := "OneBackModel", name := "law", desc := "(II)I" } : Jvm.MethodName) prog_13_method_53_code (3 : Nat) (Option.some Jvm.ClassFile.FieldType.int)) ∈ GT := GT_t 1528 (by decide +kernel) rfl
theorem tw1529 : (Jvm.Cond.methodLink "OneBackModel" (314 : Nat) ({ cls := "OneBackModel", name := "hasLaw", desc := "(I)Z" } : Jvm.MethodName)) ∈ GT := GT_t 1529 (by decide +kernel) rfl
theorem tw1531 : (Jvm.Cond.instanceMethod ({ cls := "OneBackModel", name := "hasLaw", desc := "(I)Z" } : Jvm.MethodName)) ∈ GT := GT_t 1531 (by decide +kernel) rfl
theorem tw1532 : (Jvm.Cond.code ({ cls := "OneBackModel", name := "hasLaw", desc := "(I)Z" } : Jvm.MethodName) prog_13_method_51_code (2 : Nat) (Option.some Jvm.ClassFile.FieldType.boolean)) ∈ GT := GT_t 1532 (by decide +kernel) rfl
theorem tw1533 : (Jvm.Cond.methodLink "OneBackModel" (308 : Nat) ({ cls := "OneBackModel", name := "lawOf", desc := "(I)I" } : Jvm.MethodName)) ∈ GT := GT_t 1533 (by decide +kernel) rfl
theorem tw1535 : (Jvm.Cond.instanceMethod ({ cls := "OneBackModel", name := "lawOf", desc := "(I)I" } : Jvm.MethodName)) ∈ GT := GT_t 1535 (by decide +kernel) rfl
theorem tw1536 : (Jvm.Cond.code ({ cls := "OneBackModel", name := "lawOf", desc := "(I)I" } : Jvm.MethodName) prog_13_method_50_code (2 : Nat) (Option.some Jvm.ClassFile.FieldType.int)) ∈ GT := GT_t 1536 (by decide +kernel) rfl
theorem tw1537 : (Jvm.Cond.methodLink "OneBackModel" (317 : Nat) ({ cls := "OneBackModel", name := "isDouble", desc := "(I)Z" } : Jvm.MethodName)) ∈ GT := GT_t 1537 (by decide +kernel) rfl
theorem tw1539 : (Jvm.Cond.instanceMethod ({ cls := "OneBackModel", name := "isDouble", desc := "(I)Z" } : Jvm.MethodName)) ∈ GT := GT_t 1539 (by decide +kernel) rfl
theorem tw1540 : (Jvm.Cond.code ({ cls := "OneBackModel", name := "isDouble", desc := "(I)Z" } : Jvm.MethodName) prog_13_method_52_code (2 : Nat) (Option.some Jvm.ClassFile.FieldType.boolean)) ∈ GT := GT_t 1540 (by decide +kernel) rfl
theorem tw1541 : (Jvm.Cond.methodLink "OneBackModel" (311 : Nat) ({ cls := "OneBackModel", name := "has", desc := "(II)Z" } : Jvm.MethodName)) ∈ GT := GT_t 1541 (by decide +kernel) rfl
theorem tw1542 : (Jvm.Cond.static ({ cls := "OneBackModel", name := "has", desc := "(II)Z" } : Jvm.MethodName)) ∈ GT := GT_t 1542 (by decide +kernel) rfl
theorem tw1543 : (Jvm.Cond.code ({ cls := "OneBackModel", name := "has", desc := "(II)Z" } : Jvm.MethodName) prog_13_method_4_code (2 : Nat) (Option.some Jvm.ClassFile.FieldType.boolean)) ∈ GT := GT_t 1543 (by decide +kernel) rfl
theorem tw1544 : (Jvm.Cond.methodLink "OneBackLaw" (49 : Nat) ({ cls := "OneBackModel", name := "deed", desc := "(III)I" } : Jvm.MethodName)) ∈ GT := GT_t 1544 (by decide +kernel) rfl
theorem tw1545 : (Jvm.Cond.instanceMethod ({ cls := "OneBackModel", name := "deed", desc := "(III)I" } : Jvm.MethodName)) ∈ GT := GT_t 1545 (by decide +kernel) rfl
theorem tw1546 : (Jvm.Cond.selects "OneBackModel" ({ cls := "OneBackModel", name := "deed", desc := "(III)I" } : Jvm.MethodName) ({ cls := "OneBackModel", name := "deed", desc := "(III)I" } : Jvm.MethodName)) ∈ GT := GT_t 1546 (by decide +kernel) rfl
theorem tw1547 : (Jvm.Cond.code ({ cls := "OneBackModel", name := "deed", desc := "(III)I" } : Jvm.MethodName) prog_13_method_57_code (4 : Nat) (Option.some Jvm.ClassFile.FieldType.int)) ∈ GT := GT_t 1547 (by decide +kernel) rfl
theorem tw1548 : (Jvm.Cond.methodLink "OneBackModel" (323 : Nat) ({ cls := "OneBackModel", name := "hasNights", desc := "(I)Z" } : Jvm.MethodName)) ∈ GT := GT_t 1548 (by decide +kernel) rfl
theorem tw1550 : (Jvm.Cond.instanceMethod ({ cls := "OneBackModel", name := "hasNights", desc := "(I)Z" } : Jvm.MethodName)) ∈ GT := GT_t 1550 (by decide +kernel) rfl
theorem tw1551 : (Jvm.Cond.code ({ cls := "OneBackModel", name := "hasNights", desc := "(I)Z" } : Jvm.MethodName) prog_13_method_56_code (2 : Nat) (Option.some Jvm.ClassFile.FieldType.boolean)) ∈ GT := GT_t 1551 (by decide +kernel) rfl
theorem tw1552 : (Jvm.Cond.methodLink "OneBackModel" (326 : Nat) ({ cls := "OneBackModel", name := "deeds", desc := "()I" } : Jvm.MethodName)) ∈ GT := GT_t 1552 (by decide +kernel) rfl
theorem tw1554 : (Jvm.Cond.instanceMethod ({ cls := "OneBackModel", name := "deeds", desc := "()I" } : Jvm.MethodName)) ∈ GT := GT_t 1554 (by decide +kernel) rfl
theorem tw1555 : (Jvm.Cond.code ({ cls := "OneBackModel", name := "deeds", desc := "()I" } : Jvm.MethodName) prog_13_method_54_code (1 : Nat) (Option.some Jvm.ClassFile.FieldType.int)) ∈ GT := GT_t 1555 (by decide +kernel) rfl
theorem tw1556 : (Jvm.Cond.methodLink "OneBackModel" (329 : Nat) ({ cls := "OneBackModel", name := "deedOf", desc := "(II)I" } : Jvm.MethodName)) ∈ GT := GT_t 1556 (by decide +kernel) rfl
theorem tw1558 : (Jvm.Cond.instanceMethod ({ cls := "OneBackModel", name := "deedOf", desc := "(II)I" } : Jvm.MethodName)) ∈ GT := GT_t 1558 (by decide +kernel) rfl
theorem tw1559 : (Jvm.Cond.code ({ cls := "OneBackModel", name := "deedOf", desc := "(II)I" } : Jvm.MethodName) prog_13_method_55_code (3 : Nat) (Option.some Jvm.ClassFile.FieldType.int)) ∈ GT := GT_t 1559 (by decide +kernel) rfl
theorem tw1560 : (Jvm.Cond.methodLink "OneBackLaw" (53 : Nat) ({ cls := "OneBackModel", name := "stop", desc := "(III)I" } : Jvm.MethodName)) ∈ GT := GT_t 1560 (by decide +kernel) rfl
theorem tw1561 : (Jvm.Cond.instanceMethod ({ cls := "OneBackModel", name := "stop", desc := "(III)I" } : Jvm.MethodName)) ∈ GT := GT_t 1561 (by decide +kernel) rfl
theorem tw1562 : (Jvm.Cond.selects "OneBackModel" ({ cls := "OneBackModel", name := "stop", desc := "(III)I" } : Jvm.MethodName) ({ cls := "OneBackModel", name := "stop", desc := "(III)I" } : Jvm.MethodName)) ∈ GT := GT_t 1562 (by decide +kernel) rfl
theorem tw1563 : (Jvm.Cond.code ({ cls := "OneBackModel", name := "stop", desc := "(III)I" } : Jvm.MethodName) prog_13_method_72_code (4 : Nat) (Option.some Jvm.ClassFile.FieldType.int)) ∈ GT := GT_t 1563 (by decide +kernel) rfl
theorem tw1564 : (Jvm.Cond.methodLink "OneBackModel" (372 : Nat) ({ cls := "OneBackModel", name := "layAll", desc := "(III)Z" } : Jvm.MethodName)) ∈ GT := GT_t 1564 (by decide +kernel) rfl
theorem tw1566 : (Jvm.Cond.instanceMethod ({ cls := "OneBackModel", name := "layAll", desc := "(III)Z" } : Jvm.MethodName)) ∈ GT := GT_t 1566 (by decide +kernel) rfl
theorem tw1567 : (Jvm.Cond.code ({ cls := "OneBackModel", name := "layAll", desc := "(III)Z" } : Jvm.MethodName) prog_13_method_70_code (4 : Nat) (Option.some Jvm.ClassFile.FieldType.boolean)) ∈ GT := GT_t 1567 (by decide +kernel) rfl
theorem tw1568 : (Jvm.Cond.methodLink "OneBackModel" (375 : Nat) ({ cls := "OneBackModel", name := "play", desc := "(I)I" } : Jvm.MethodName)) ∈ GT := GT_t 1568 (by decide +kernel) rfl
theorem tw1570 : (Jvm.Cond.instanceMethod ({ cls := "OneBackModel", name := "play", desc := "(I)I" } : Jvm.MethodName)) ∈ GT := GT_t 1570 (by decide +kernel) rfl
theorem tw1571 : (Jvm.Cond.code ({ cls := "OneBackModel", name := "play", desc := "(I)I" } : Jvm.MethodName) prog_13_method_69_code (3 : Nat) (Option.some Jvm.ClassFile.FieldType.int)) ∈ GT := GT_t 1571 (by decide +kernel) rfl
theorem tw1572 : (Jvm.Cond.methodLink "OneBackModel" (366 : Nat) ({ cls := "OneBackModel", name := "begin", desc := "()V" } : Jvm.MethodName)) ∈ GT := GT_t 1572 (by decide +kernel) rfl
theorem tw1574 : (Jvm.Cond.instanceMethod ({ cls := "OneBackModel", name := "begin", desc := "()V" } : Jvm.MethodName)) ∈ GT := GT_t 1574 (by decide +kernel) rfl
theorem tw1575 : (Jvm.Cond.code ({ cls := "OneBackModel", name := "begin", desc := "()V" } : Jvm.MethodName) prog_13_method_58_code (2 : Nat) (Option.none : Option Jvm.ClassFile.FieldType)) ∈ GT := GT_t 1575 (by decide +kernel) rfl
theorem tw1576 : (Jvm.Cond.methodLink "OneBackModel" (369 : Nat) ({ cls := "OneBackModel", name := "does", desc := "(I)Z" } : Jvm.MethodName)) ∈ GT := GT_t 1576 (by decide +kernel) rfl
theorem tw1578 : (Jvm.Cond.instanceMethod ({ cls := "OneBackModel", name := "does", desc := "(I)Z" } : Jvm.MethodName)) ∈ GT := GT_t 1578 (by decide +kernel) rfl
theorem tw1579 : (Jvm.Cond.code ({ cls := "OneBackModel", name := "does", desc := "(I)Z" } : Jvm.MethodName) prog_13_method_68_code (5 : Nat) (Option.some Jvm.ClassFile.FieldType.boolean)) ∈ GT := GT_t 1579 (by decide +kernel) rfl
theorem tw1580 : (Jvm.Cond.methodLink "OneBackModel" (354 : Nat) ({ cls := "OneBackModel", name := "takes", desc := "(III)Z" } : Jvm.MethodName)) ∈ GT := GT_t 1580 (by decide +kernel) rfl
theorem tw1582 : (Jvm.Cond.instanceMethod ({ cls := "OneBackModel", name := "takes", desc := "(III)Z" } : Jvm.MethodName)) ∈ GT := GT_t 1582 (by decide +kernel) rfl
theorem tw1583 : (Jvm.Cond.code ({ cls := "OneBackModel", name := "takes", desc := "(III)Z" } : Jvm.MethodName) prog_13_method_63_code (4 : Nat) (Option.some Jvm.ClassFile.FieldType.boolean)) ∈ GT := GT_t 1583 (by decide +kernel) rfl
theorem tw1584 : (Jvm.Cond.methodLink "OneBackModel" (341 : Nat) ({ cls := "OneBackModel", name := "isFree", desc := "(I)Z" } : Jvm.MethodName)) ∈ GT := GT_t 1584 (by decide +kernel) rfl
theorem tw1586 : (Jvm.Cond.instanceMethod ({ cls := "OneBackModel", name := "isFree", desc := "(I)Z" } : Jvm.MethodName)) ∈ GT := GT_t 1586 (by decide +kernel) rfl
theorem tw1587 : (Jvm.Cond.code ({ cls := "OneBackModel", name := "isFree", desc := "(I)Z" } : Jvm.MethodName) prog_13_method_60_code (2 : Nat) (Option.some Jvm.ClassFile.FieldType.boolean)) ∈ GT := GT_t 1587 (by decide +kernel) rfl
theorem tw1588 : (Jvm.Cond.methodLink "OneBackModel" (344 : Nat) ({ cls := "OneBackModel", name := "place", desc := "(III)I" } : Jvm.MethodName)) ∈ GT := GT_t 1588 (by decide +kernel) rfl
theorem tw1589 : (Jvm.Cond.static ({ cls := "OneBackModel", name := "place", desc := "(III)I" } : Jvm.MethodName)) ∈ GT := GT_t 1589 (by decide +kernel) rfl
theorem tw1590 : (Jvm.Cond.code ({ cls := "OneBackModel", name := "place", desc := "(III)I" } : Jvm.MethodName) prog_13_method_59_code (3 : Nat) (Option.some Jvm.ClassFile.FieldType.int)) ∈ GT := GT_t 1590 (by decide +kernel) rfl
theorem tw1591 : (Jvm.Cond.methodLink "OneBackModel" (357 : Nat) ({ cls := "OneBackModel", name := "gives", desc := "(III)Z" } : Jvm.MethodName)) ∈ GT := GT_t 1591 (by decide +kernel) rfl
theorem tw1593 : (Jvm.Cond.instanceMethod ({ cls := "OneBackModel", name := "gives", desc := "(III)Z" } : Jvm.MethodName)) ∈ GT := GT_t 1593 (by decide +kernel) rfl
theorem tw1594 : (Jvm.Cond.code ({ cls := "OneBackModel", name := "gives", desc := "(III)Z" } : Jvm.MethodName) prog_13_method_65_code (4 : Nat) (Option.some Jvm.ClassFile.FieldType.boolean)) ∈ GT := GT_t 1594 (by decide +kernel) rfl
theorem tw1595 : (Jvm.Cond.methodLink "OneBackModel" (348 : Nat) ({ cls := "OneBackModel", name := "mayGive", desc := "(III)Z" } : Jvm.MethodName)) ∈ GT := GT_t 1595 (by decide +kernel) rfl
theorem tw1597 : (Jvm.Cond.instanceMethod ({ cls := "OneBackModel", name := "mayGive", desc := "(III)Z" } : Jvm.MethodName)) ∈ GT := GT_t 1597 (by decide +kernel) rfl
theorem tw1598 : (Jvm.Cond.code ({ cls := "OneBackModel", name := "mayGive", desc := "(III)Z" } : Jvm.MethodName) prog_13_method_64_code (4 : Nat) (Option.some Jvm.ClassFile.FieldType.boolean)) ∈ GT := GT_t 1598 (by decide +kernel) rfl
theorem tw1599 : (Jvm.Cond.methodLink "OneBackModel" (360 : Nat) ({ cls := "OneBackModel", name := "sets", desc := "(III)Z" } : Jvm.MethodName)) ∈ GT := GT_t 1599 (by decide +kernel) rfl
theorem tw1601 : (Jvm.Cond.instanceMethod ({ cls := "OneBackModel", name := "sets", desc := "(III)Z" } : Jvm.MethodName)) ∈ GT := GT_t 1601 (by decide +kernel) rfl
theorem tw1602 : (Jvm.Cond.code ({ cls := "OneBackModel", name := "sets", desc := "(III)Z" } : Jvm.MethodName) prog_13_method_66_code (4 : Nat) (Option.some Jvm.ClassFile.FieldType.boolean)) ∈ GT := GT_t 1602 (by decide +kernel) rfl
theorem tw1603 : (Jvm.Cond.methodLink "OneBackModel" (351 : Nat) ({ cls := "OneBackModel", name := "owes", desc := "(I)I" } : Jvm.MethodName)) ∈ GT := GT_t 1603 (by decide +kernel) rfl
theorem tw1605 : (Jvm.Cond.instanceMethod ({ cls := "OneBackModel", name := "owes", desc := "(I)I" } : Jvm.MethodName)) ∈ GT := GT_t 1605 (by decide +kernel) rfl
theorem tw1606 : (Jvm.Cond.code ({ cls := "OneBackModel", name := "owes", desc := "(I)I" } : Jvm.MethodName) prog_13_method_61_code (2 : Nat) (Option.some Jvm.ClassFile.FieldType.int)) ∈ GT := GT_t 1606 (by decide +kernel) rfl
theorem tw1607 : (Jvm.Cond.methodLink "OneBackModel" (363 : Nat) ({ cls := "OneBackModel", name := "ends", desc := "()V" } : Jvm.MethodName)) ∈ GT := GT_t 1607 (by decide +kernel) rfl
theorem tw1609 : (Jvm.Cond.instanceMethod ({ cls := "OneBackModel", name := "ends", desc := "()V" } : Jvm.MethodName)) ∈ GT := GT_t 1609 (by decide +kernel) rfl
theorem tw1610 : (Jvm.Cond.code ({ cls := "OneBackModel", name := "ends", desc := "()V" } : Jvm.MethodName) prog_13_method_67_code (2 : Nat) (Option.none : Option Jvm.ClassFile.FieldType)) ∈ GT := GT_t 1610 (by decide +kernel) rfl
theorem tw1611 : (Jvm.Cond.methodLink "OneBackLaw" (57 : Nat) ({ cls := "OneBackModel", name := "state", desc := "(IIIII)I" } : Jvm.MethodName)) ∈ GT := GT_t 1611 (by decide +kernel) rfl
theorem tw1612 : (Jvm.Cond.instanceMethod ({ cls := "OneBackModel", name := "state", desc := "(IIIII)I" } : Jvm.MethodName)) ∈ GT := GT_t 1612 (by decide +kernel) rfl
theorem tw1613 : (Jvm.Cond.selects "OneBackModel" ({ cls := "OneBackModel", name := "state", desc := "(IIIII)I" } : Jvm.MethodName) ({ cls := "OneBackModel", name := "state", desc := "(IIIII)I" } : Jvm.MethodName)) ∈ GT := GT_t 1613 (by decide +kernel) rfl
theorem tw1614 : (Jvm.Cond.code ({ cls := "OneBackModel", name := "state", desc := "(IIIII)I" } : Jvm.MethodName) prog_13_method_78_code (6 : Nat) (Option.some Jvm.ClassFile.FieldType.int)) ∈ GT := GT_t 1614 (by decide +kernel) rfl
theorem tw1615 : (Jvm.Cond.methodLink "OneBackModel" (390 : Nat) ({ cls := "OneBackModel", name := "layState", desc := "(IIII)Z" } : Jvm.MethodName)) ∈ GT := GT_t 1615 (by decide +kernel) rfl
theorem tw1617 : (Jvm.Cond.instanceMethod ({ cls := "OneBackModel", name := "layState", desc := "(IIII)Z" } : Jvm.MethodName)) ∈ GT := GT_t 1617 (by decide +kernel) rfl
theorem tw1618 : (Jvm.Cond.code ({ cls := "OneBackModel", name := "layState", desc := "(IIII)Z" } : Jvm.MethodName) prog_13_method_71_code (5 : Nat) (Option.some Jvm.ClassFile.FieldType.boolean)) ∈ GT := GT_t 1618 (by decide +kernel) rfl
theorem tw1619 : (Jvm.Cond.methodLink "OneBackModel" (393 : Nat) ({ cls := "OneBackModel", name := "queued", desc := "(I)I" } : Jvm.MethodName)) ∈ GT := GT_t 1619 (by decide +kernel) rfl
theorem tw1621 : (Jvm.Cond.instanceMethod ({ cls := "OneBackModel", name := "queued", desc := "(I)I" } : Jvm.MethodName)) ∈ GT := GT_t 1621 (by decide +kernel) rfl
theorem tw1622 : (Jvm.Cond.code ({ cls := "OneBackModel", name := "queued", desc := "(I)I" } : Jvm.MethodName) prog_13_method_75_code (5 : Nat) (Option.some Jvm.ClassFile.FieldType.int)) ∈ GT := GT_t 1622 (by decide +kernel) rfl
theorem tw1623 : (Jvm.Cond.methodLink "OneBackModel" (378 : Nat) ({ cls := "OneBackModel", name := "odd", desc := "(I)I" } : Jvm.MethodName)) ∈ GT := GT_t 1623 (by decide +kernel) rfl
theorem tw1625 : (Jvm.Cond.instanceMethod ({ cls := "OneBackModel", name := "odd", desc := "(I)I" } : Jvm.MethodName)) ∈ GT := GT_t 1625 (by decide +kernel) rfl
theorem tw1626 : (Jvm.Cond.code ({ cls := "OneBackModel", name := "odd", desc := "(I)I" } : Jvm.MethodName) prog_13_method_62_code (2 : Nat) (Option.some Jvm.ClassFile.FieldType.int)) ∈ GT := GT_t 1626 (by decide +kernel) rfl
theorem tw1627 : (Jvm.Cond.methodLink "OneBackModel" (396 : Nat) ({ cls := "OneBackModel", name := "ofState", desc := "(I)I" } : Jvm.MethodName)) ∈ GT := GT_t 1627 (by decide +kernel) rfl
theorem tw1629 : (Jvm.Cond.instanceMethod ({ cls := "OneBackModel", name := "ofState", desc := "(I)I" } : Jvm.MethodName)) ∈ GT := GT_t 1629 (by decide +kernel) rfl
theorem tw1630 : (Jvm.Cond.code ({ cls := "OneBackModel", name := "ofState", desc := "(I)I" } : Jvm.MethodName) prog_13_method_77_code (2 : Nat) (Option.some Jvm.ClassFile.FieldType.int)) ∈ GT := GT_t 1630 (by decide +kernel) rfl
theorem tw1631 : (Jvm.Cond.methodLink "OneBackModel" (381 : Nat) ({ cls := "OneBackModel", name := "want", desc := "()I" } : Jvm.MethodName)) ∈ GT := GT_t 1631 (by decide +kernel) rfl
theorem tw1633 : (Jvm.Cond.instanceMethod ({ cls := "OneBackModel", name := "want", desc := "()I" } : Jvm.MethodName)) ∈ GT := GT_t 1633 (by decide +kernel) rfl
theorem tw1634 : (Jvm.Cond.code ({ cls := "OneBackModel", name := "want", desc := "()I" } : Jvm.MethodName) prog_13_method_73_code (3 : Nat) (Option.some Jvm.ClassFile.FieldType.int)) ∈ GT := GT_t 1634 (by decide +kernel) rfl
theorem tw1635 : (Jvm.Cond.methodLink "OneBackModel" (384 : Nat) ({ cls := "OneBackModel", name := "pious", desc := "()I" } : Jvm.MethodName)) ∈ GT := GT_t 1635 (by decide +kernel) rfl
theorem tw1637 : (Jvm.Cond.instanceMethod ({ cls := "OneBackModel", name := "pious", desc := "()I" } : Jvm.MethodName)) ∈ GT := GT_t 1637 (by decide +kernel) rfl
theorem tw1638 : (Jvm.Cond.code ({ cls := "OneBackModel", name := "pious", desc := "()I" } : Jvm.MethodName) prog_13_method_74_code (3 : Nat) (Option.some Jvm.ClassFile.FieldType.int)) ∈ GT := GT_t 1638 (by decide +kernel) rfl
theorem tw1639 : (Jvm.Cond.methodLink "OneBackModel" (387 : Nat) ({ cls := "OneBackModel", name := "ofEach", desc := "(I)I" } : Jvm.MethodName)) ∈ GT := GT_t 1639 (by decide +kernel) rfl
theorem tw1641 : (Jvm.Cond.instanceMethod ({ cls := "OneBackModel", name := "ofEach", desc := "(I)I" } : Jvm.MethodName)) ∈ GT := GT_t 1641 (by decide +kernel) rfl
theorem tw1642 : (Jvm.Cond.code ({ cls := "OneBackModel", name := "ofEach", desc := "(I)I" } : Jvm.MethodName) prog_13_method_76_code (3 : Nat) (Option.some Jvm.ClassFile.FieldType.int)) ∈ GT := GT_t 1642 (by decide +kernel) rfl
theorem tw1643 : (Jvm.Cond.methodLink "OneBackLaw" (62 : Nat) ({ cls := "OneBackModel", name := "goods", desc := "(IIIIIII)I" } : Jvm.MethodName)) ∈ GT := GT_t 1643 (by decide +kernel) rfl
theorem tw1644 : (Jvm.Cond.instanceMethod ({ cls := "OneBackModel", name := "goods", desc := "(IIIIIII)I" } : Jvm.MethodName)) ∈ GT := GT_t 1644 (by decide +kernel) rfl
theorem tw1645 : (Jvm.Cond.selects "OneBackModel" ({ cls := "OneBackModel", name := "goods", desc := "(IIIIIII)I" } : Jvm.MethodName) ({ cls := "OneBackModel", name := "goods", desc := "(IIIIIII)I" } : Jvm.MethodName)) ∈ GT := GT_t 1645 (by decide +kernel) rfl
theorem tw1646 : (Jvm.Cond.code ({ cls := "OneBackModel", name := "goods", desc := "(IIIIIII)I" } : Jvm.MethodName) prog_13_method_79_code (8 : Nat) (Option.some Jvm.ClassFile.FieldType.int)) ∈ GT := GT_t 1646 (by decide +kernel) rfl
theorem tw1647 : (Jvm.Cond.methodLink "OneBackLaw" (66 : Nat) ({ cls := "OneBackModel", name := "aid", desc := "(II)I" } : Jvm.MethodName)) ∈ GT := GT_t 1647 (by decide +kernel) rfl
theorem tw1648 : (Jvm.Cond.instanceMethod ({ cls := "OneBackModel", name := "aid", desc := "(II)I" } : Jvm.MethodName)) ∈ GT := GT_t 1648 (by decide +kernel) rfl
theorem tw1649 : (Jvm.Cond.selects "OneBackModel" ({ cls := "OneBackModel", name := "aid", desc := "(II)I" } : Jvm.MethodName) ({ cls := "OneBackModel", name := "aid", desc := "(II)I" } : Jvm.MethodName)) ∈ GT := GT_t 1649 (by decide +kernel) rfl
theorem tw1650 : (Jvm.Cond.code ({ cls := "OneBackModel", name := "aid", desc := "(II)I" } : Jvm.MethodName) prog_13_method_83_code (3 : Nat) (Option.some Jvm.ClassFile.FieldType.int)) ∈ GT := GT_t 1650 (by decide +kernel) rfl
theorem tw1651 : (Jvm.Cond.methodLink "OneBackModel" (411 : Nat) ({ cls := "OneBackModel", name := "findAid", desc := "()Z" } : Jvm.MethodName)) ∈ GT := GT_t 1651 (by decide +kernel) rfl
theorem tw1653 : (Jvm.Cond.instanceMethod ({ cls := "OneBackModel", name := "findAid", desc := "()Z" } : Jvm.MethodName)) ∈ GT := GT_t 1653 (by decide +kernel) rfl
theorem tw1654 : (Jvm.Cond.code ({ cls := "OneBackModel", name := "findAid", desc := "()Z" } : Jvm.MethodName) prog_13_method_81_code (3 : Nat) (Option.some Jvm.ClassFile.FieldType.boolean)) ∈ GT := GT_t 1654 (by decide +kernel) rfl
theorem tw1655 : (Jvm.Cond.methodLink "OneBackModel" (408 : Nat) ({ cls := "OneBackModel", name := "aidGood", desc := "(I)Z" } : Jvm.MethodName)) ∈ GT := GT_t 1655 (by decide +kernel) rfl
theorem tw1657 : (Jvm.Cond.instanceMethod ({ cls := "OneBackModel", name := "aidGood", desc := "(I)Z" } : Jvm.MethodName)) ∈ GT := GT_t 1657 (by decide +kernel) rfl
theorem tw1658 : (Jvm.Cond.code ({ cls := "OneBackModel", name := "aidGood", desc := "(I)Z" } : Jvm.MethodName) prog_13_method_80_code (6 : Nat) (Option.some Jvm.ClassFile.FieldType.boolean)) ∈ GT := GT_t 1658 (by decide +kernel) rfl
theorem tw1659 : (Jvm.Cond.methodLink "OneBackModel" (399 : Nat) ({ cls := "OneBackModel", name := "lesser", desc := "(II)I" } : Jvm.MethodName)) ∈ GT := GT_t 1659 (by decide +kernel) rfl
theorem tw1660 : (Jvm.Cond.static ({ cls := "OneBackModel", name := "lesser", desc := "(II)I" } : Jvm.MethodName)) ∈ GT := GT_t 1660 (by decide +kernel) rfl
theorem tw1661 : (Jvm.Cond.code ({ cls := "OneBackModel", name := "lesser", desc := "(II)I" } : Jvm.MethodName) prog_13_method_6_code (2 : Nat) (Option.some Jvm.ClassFile.FieldType.int)) ∈ GT := GT_t 1661 (by decide +kernel) rfl
theorem tw1662 : (Jvm.Cond.methodLink "OneBackModel" (414 : Nat) ({ cls := "OneBackModel", name := "aidNights", desc := "()I" } : Jvm.MethodName)) ∈ GT := GT_t 1662 (by decide +kernel) rfl
theorem tw1664 : (Jvm.Cond.instanceMethod ({ cls := "OneBackModel", name := "aidNights", desc := "()I" } : Jvm.MethodName)) ∈ GT := GT_t 1664 (by decide +kernel) rfl
theorem tw1665 : (Jvm.Cond.code ({ cls := "OneBackModel", name := "aidNights", desc := "()I" } : Jvm.MethodName) prog_13_method_82_code (3 : Nat) (Option.some Jvm.ClassFile.FieldType.int)) ∈ GT := GT_t 1665 (by decide +kernel) rfl
theorem tw1666 : (Jvm.Cond.methodLink "OneBackLaw" (70 : Nat) ({ cls := "OneBackModel", name := "carry", desc := "(I)I" } : Jvm.MethodName)) ∈ GT := GT_t 1666 (by decide +kernel) rfl
theorem tw1667 : (Jvm.Cond.instanceMethod ({ cls := "OneBackModel", name := "carry", desc := "(I)I" } : Jvm.MethodName)) ∈ GT := GT_t 1667 (by decide +kernel) rfl
theorem tw1668 : (Jvm.Cond.selects "OneBackModel" ({ cls := "OneBackModel", name := "carry", desc := "(I)I" } : Jvm.MethodName) ({ cls := "OneBackModel", name := "carry", desc := "(I)I" } : Jvm.MethodName)) ∈ GT := GT_t 1668 (by decide +kernel) rfl
theorem tw1669 : (Jvm.Cond.code ({ cls := "OneBackModel", name := "carry", desc := "(I)I" } : Jvm.MethodName) prog_13_method_86_code (5 : Nat) (Option.some Jvm.ClassFile.FieldType.int)) ∈ GT := GT_t 1669 (by decide +kernel) rfl
theorem tw1670 : (Jvm.Cond.methodLink "OneBackModel" (423 : Nat) ({ cls := "OneBackModel", name := "carryGood", desc := "(I)I" } : Jvm.MethodName)) ∈ GT := GT_t 1670 (by decide +kernel) rfl
theorem tw1672 : (Jvm.Cond.instanceMethod ({ cls := "OneBackModel", name := "carryGood", desc := "(I)I" } : Jvm.MethodName)) ∈ GT := GT_t 1672 (by decide +kernel) rfl
theorem tw1673 : (Jvm.Cond.code ({ cls := "OneBackModel", name := "carryGood", desc := "(I)I" } : Jvm.MethodName) prog_13_method_85_code (3 : Nat) (Option.some Jvm.ClassFile.FieldType.int)) ∈ GT := GT_t 1673 (by decide +kernel) rfl
theorem tw1674 : (Jvm.Cond.constant "OneBackModel" (417 : Nat) (1000000 : Int32)) ∈ GT := GT_t 1674 (by decide +kernel) rfl
theorem tw1675 : (Jvm.Cond.methodLink "OneBackModel" (420 : Nat) ({ cls := "OneBackModel", name := "carryOn", desc := "(II)V" } : Jvm.MethodName)) ∈ GT := GT_t 1675 (by decide +kernel) rfl
theorem tw1677 : (Jvm.Cond.instanceMethod ({ cls := "OneBackModel", name := "carryOn", desc := "(II)V" } : Jvm.MethodName)) ∈ GT := GT_t 1677 (by decide +kernel) rfl
theorem tw1678 : (Jvm.Cond.code ({ cls := "OneBackModel", name := "carryOn", desc := "(II)V" } : Jvm.MethodName) prog_13_method_84_code (6 : Nat) (Option.none : Option Jvm.ClassFile.FieldType)) ∈ GT := GT_t 1678 (by decide +kernel) rfl
theorem tw1679 : (Jvm.Cond.methodLink "OneBackModel" (418 : Nat) ({ cls := "OneBackModel", name := "size", desc := "(I)I" } : Jvm.MethodName)) ∈ GT := GT_t 1679 (by decide +kernel) rfl
theorem tw1680 : (Jvm.Cond.static ({ cls := "OneBackModel", name := "size", desc := "(I)I" } : Jvm.MethodName)) ∈ GT := GT_t 1680 (by decide +kernel) rfl
theorem tw1681 : (Jvm.Cond.code ({ cls := "OneBackModel", name := "size", desc := "(I)I" } : Jvm.MethodName) prog_13_method_7_code (1 : Nat) (Option.some Jvm.ClassFile.FieldType.int)) ∈ GT := GT_t 1681 (by decide +kernel) rfl
theorem tw1682 : (Jvm.Cond.methodLink "OneBackLaw" (74 : Nat) ({ cls := "OneBackModel", name := "round", desc := "(II)I" } : Jvm.MethodName)) ∈ GT := GT_t 1682 (by decide +kernel) rfl
theorem tw1683 : (Jvm.Cond.instanceMethod ({ cls := "OneBackModel", name := "round", desc := "(II)I" } : Jvm.MethodName)) ∈ GT := GT_t 1683 (by decide +kernel) rfl
theorem tw1684 : (Jvm.Cond.selects "OneBackModel" ({ cls := "OneBackModel", name := "round", desc := "(II)I" } : Jvm.MethodName) ({ cls := "OneBackModel", name := "round", desc := "(II)I" } : Jvm.MethodName)) ∈ GT := GT_t 1684 (by decide +kernel) rfl
theorem tw1685 : (Jvm.Cond.code ({ cls := "OneBackModel", name := "round", desc := "(II)I" } : Jvm.MethodName) prog_13_method_89_code (6 : Nat) (Option.some Jvm.ClassFile.FieldType.int)) ∈ GT := GT_t 1685 (by decide +kernel) rfl
theorem tw1686 : (Jvm.Cond.methodLink "OneBackModel" (426 : Nat) ({ cls := "OneBackModel", name := "roundOf", desc := "(I)I" } : Jvm.MethodName)) ∈ GT := GT_t 1686 (by decide +kernel) rfl
theorem tw1688 : (Jvm.Cond.instanceMethod ({ cls := "OneBackModel", name := "roundOf", desc := "(I)I" } : Jvm.MethodName)) ∈ GT := GT_t 1688 (by decide +kernel) rfl
theorem tw1689 : (Jvm.Cond.code ({ cls := "OneBackModel", name := "roundOf", desc := "(I)I" } : Jvm.MethodName) prog_13_method_87_code (4 : Nat) (Option.some Jvm.ClassFile.FieldType.int)) ∈ GT := GT_t 1689 (by decide +kernel) rfl
theorem tw1690 : (Jvm.Cond.methodLink "OneBackModel" (429 : Nat) ({ cls := "OneBackModel", name := "common", desc := "(II)I" } : Jvm.MethodName)) ∈ GT := GT_t 1690 (by decide +kernel) rfl
theorem tw1691 : (Jvm.Cond.static ({ cls := "OneBackModel", name := "common", desc := "(II)I" } : Jvm.MethodName)) ∈ GT := GT_t 1691 (by decide +kernel) rfl
theorem tw1692 : (Jvm.Cond.code ({ cls := "OneBackModel", name := "common", desc := "(II)I" } : Jvm.MethodName) prog_13_method_88_code (5 : Nat) (Option.some Jvm.ClassFile.FieldType.int)) ∈ GT := GT_t 1692 (by decide +kernel) rfl
theorem tw1693 : (Jvm.Cond.methodLink "OneBackLaw" (78 : Nat) ({ cls := "OneBackModel", name := "meets", desc := "(III)I" } : Jvm.MethodName)) ∈ GT := GT_t 1693 (by decide +kernel) rfl
theorem tw1694 : (Jvm.Cond.instanceMethod ({ cls := "OneBackModel", name := "meets", desc := "(III)I" } : Jvm.MethodName)) ∈ GT := GT_t 1694 (by decide +kernel) rfl
theorem tw1695 : (Jvm.Cond.selects "OneBackModel" ({ cls := "OneBackModel", name := "meets", desc := "(III)I" } : Jvm.MethodName) ({ cls := "OneBackModel", name := "meets", desc := "(III)I" } : Jvm.MethodName)) ∈ GT := GT_t 1695 (by decide +kernel) rfl
theorem tw1696 : (Jvm.Cond.code ({ cls := "OneBackModel", name := "meets", desc := "(III)I" } : Jvm.MethodName) prog_13_method_90_code (7 : Nat) (Option.some Jvm.ClassFile.FieldType.int)) ∈ GT := GT_t 1696 (by decide +kernel) rfl
theorem tw1697 : (Jvm.Cond.methodLink "OneBackLaw" (82 : Nat) ({ cls := "OneBackModel", name := "sight", desc := "(II)I" } : Jvm.MethodName)) ∈ GT := GT_t 1697 (by decide +kernel) rfl
theorem tw1698 : (Jvm.Cond.instanceMethod ({ cls := "OneBackModel", name := "sight", desc := "(II)I" } : Jvm.MethodName)) ∈ GT := GT_t 1698 (by decide +kernel) rfl
theorem tw1699 : (Jvm.Cond.selects "OneBackModel" ({ cls := "OneBackModel", name := "sight", desc := "(II)I" } : Jvm.MethodName) ({ cls := "OneBackModel", name := "sight", desc := "(II)I" } : Jvm.MethodName)) ∈ GT := GT_t 1699 (by decide +kernel) rfl
theorem tw1700 : (Jvm.Cond.code ({ cls := "OneBackModel", name := "sight", desc := "(II)I" } : Jvm.MethodName) prog_13_method_95_code (3 : Nat) (Option.some Jvm.ClassFile.FieldType.int)) ∈ GT := GT_t 1700 (by decide +kernel) rfl
theorem tw1701 : (Jvm.Cond.methodLink "OneBackModel" (435 : Nat) ({ cls := "OneBackModel", name := "hasSight", desc := "(I)Z" } : Jvm.MethodName)) ∈ GT := GT_t 1701 (by decide +kernel) rfl
theorem tw1703 : (Jvm.Cond.instanceMethod ({ cls := "OneBackModel", name := "hasSight", desc := "(I)Z" } : Jvm.MethodName)) ∈ GT := GT_t 1703 (by decide +kernel) rfl
theorem tw1704 : (Jvm.Cond.code ({ cls := "OneBackModel", name := "hasSight", desc := "(I)Z" } : Jvm.MethodName) prog_13_method_94_code (2 : Nat) (Option.some Jvm.ClassFile.FieldType.boolean)) ∈ GT := GT_t 1704 (by decide +kernel) rfl
theorem tw1705 : (Jvm.Cond.methodLink "OneBackModel" (438 : Nat) ({ cls := "OneBackModel", name := "gifts", desc := "()I" } : Jvm.MethodName)) ∈ GT := GT_t 1705 (by decide +kernel) rfl
theorem tw1707 : (Jvm.Cond.instanceMethod ({ cls := "OneBackModel", name := "gifts", desc := "()I" } : Jvm.MethodName)) ∈ GT := GT_t 1707 (by decide +kernel) rfl
theorem tw1708 : (Jvm.Cond.code ({ cls := "OneBackModel", name := "gifts", desc := "()I" } : Jvm.MethodName) prog_13_method_91_code (1 : Nat) (Option.some Jvm.ClassFile.FieldType.int)) ∈ GT := GT_t 1708 (by decide +kernel) rfl
theorem tw1709 : (Jvm.Cond.methodLink "OneBackModel" (441 : Nat) ({ cls := "OneBackModel", name := "giftOf", desc := "(II)I" } : Jvm.MethodName)) ∈ GT := GT_t 1709 (by decide +kernel) rfl
theorem tw1711 : (Jvm.Cond.instanceMethod ({ cls := "OneBackModel", name := "giftOf", desc := "(II)I" } : Jvm.MethodName)) ∈ GT := GT_t 1711 (by decide +kernel) rfl
theorem tw1712 : (Jvm.Cond.code ({ cls := "OneBackModel", name := "giftOf", desc := "(II)I" } : Jvm.MethodName) prog_13_method_92_code (3 : Nat) (Option.some Jvm.ClassFile.FieldType.int)) ∈ GT := GT_t 1712 (by decide +kernel) rfl
theorem tw1713 : (Jvm.Cond.methodLink "OneBackModel" (444 : Nat) ({ cls := "OneBackModel", name := "left", desc := "(II)I" } : Jvm.MethodName)) ∈ GT := GT_t 1713 (by decide +kernel) rfl
theorem tw1715 : (Jvm.Cond.instanceMethod ({ cls := "OneBackModel", name := "left", desc := "(II)I" } : Jvm.MethodName)) ∈ GT := GT_t 1715 (by decide +kernel) rfl
theorem tw1716 : (Jvm.Cond.code ({ cls := "OneBackModel", name := "left", desc := "(II)I" } : Jvm.MethodName) prog_13_method_93_code (3 : Nat) (Option.some Jvm.ClassFile.FieldType.int)) ∈ GT := GT_t 1716 (by decide +kernel) rfl
theorem tw1717 : (Jvm.Cond.methodLink "OneBackLaw" (86 : Nat) ({ cls := "OneBackModel", name := "hands", desc := "(IIIII)I" } : Jvm.MethodName)) ∈ GT := GT_t 1717 (by decide +kernel) rfl
theorem tw1718 : (Jvm.Cond.instanceMethod ({ cls := "OneBackModel", name := "hands", desc := "(IIIII)I" } : Jvm.MethodName)) ∈ GT := GT_t 1718 (by decide +kernel) rfl
theorem tw1719 : (Jvm.Cond.selects "OneBackModel" ({ cls := "OneBackModel", name := "hands", desc := "(IIIII)I" } : Jvm.MethodName) ({ cls := "OneBackModel", name := "hands", desc := "(IIIII)I" } : Jvm.MethodName)) ∈ GT := GT_t 1719 (by decide +kernel) rfl
theorem tw1720 : (Jvm.Cond.code ({ cls := "OneBackModel", name := "hands", desc := "(IIIII)I" } : Jvm.MethodName) prog_13_method_98_code (9 : Nat) (Option.some Jvm.ClassFile.FieldType.int)) ∈ GT := GT_t 1720 (by decide +kernel) rfl
theorem tw1721 : (Jvm.Cond.methodLink "OneBackModel" (450 : Nat) ({ cls := "OneBackModel", name := "canBe", desc := "(I)Z" } : Jvm.MethodName)) ∈ GT := GT_t 1721 (by decide +kernel) rfl
theorem tw1723 : (Jvm.Cond.instanceMethod ({ cls := "OneBackModel", name := "canBe", desc := "(I)Z" } : Jvm.MethodName)) ∈ GT := GT_t 1723 (by decide +kernel) rfl
theorem tw1724 : (Jvm.Cond.code ({ cls := "OneBackModel", name := "canBe", desc := "(I)Z" } : Jvm.MethodName) prog_13_method_97_code (7 : Nat) (Option.some Jvm.ClassFile.FieldType.boolean)) ∈ GT := GT_t 1724 (by decide +kernel) rfl
theorem tw1725 : (Jvm.Cond.methodLink "OneBackModel" (447 : Nat) ({ cls := "OneBackModel", name := "handOf", desc := "(II)I" } : Jvm.MethodName)) ∈ GT := GT_t 1725 (by decide +kernel) rfl
theorem tw1726 : (Jvm.Cond.static ({ cls := "OneBackModel", name := "handOf", desc := "(II)I" } : Jvm.MethodName)) ∈ GT := GT_t 1726 (by decide +kernel) rfl
theorem tw1727 : (Jvm.Cond.code ({ cls := "OneBackModel", name := "handOf", desc := "(II)I" } : Jvm.MethodName) prog_13_method_96_code (2 : Nat) (Option.some Jvm.ClassFile.FieldType.int)) ∈ GT := GT_t 1727 (by decide +kernel) rfl
theorem tw1728 : (Jvm.Cond.methodLink "OneBackLaw" (91 : Nat) ({ cls := "OneBackModel", name := "moved", desc := "(IIZ)I" } : Jvm.MethodName)) ∈ GT := GT_t 1728 (by decide +kernel) rfl
theorem tw1729 : (Jvm.Cond.instanceMethod ({ cls := "OneBackModel", name := "moved", desc := "(IIZ)I" } : Jvm.MethodName)) ∈ GT := GT_t 1729 (by decide +kernel) rfl
theorem tw1730 : (Jvm.Cond.selects "OneBackModel" ({ cls := "OneBackModel", name := "moved", desc := "(IIZ)I" } : Jvm.MethodName) ({ cls := "OneBackModel", name := "moved", desc := "(IIZ)I" } : Jvm.MethodName)) ∈ GT := GT_t 1730 (by decide +kernel) rfl
theorem tw1731 : (Jvm.Cond.code ({ cls := "OneBackModel", name := "moved", desc := "(IIZ)I" } : Jvm.MethodName) prog_13_method_100_code (10 : Nat) (Option.some Jvm.ClassFile.FieldType.int)) ∈ GT := GT_t 1731 (by decide +kernel) rfl
theorem tw1732 : (Jvm.Cond.methodLink "OneBackModel" (453 : Nat) ({ cls := "OneBackModel", name := "isToldAll", desc := "(I)Z" } : Jvm.MethodName)) ∈ GT := GT_t 1732 (by decide +kernel) rfl
theorem tw1734 : (Jvm.Cond.instanceMethod ({ cls := "OneBackModel", name := "isToldAll", desc := "(I)Z" } : Jvm.MethodName)) ∈ GT := GT_t 1734 (by decide +kernel) rfl
theorem tw1735 : (Jvm.Cond.code ({ cls := "OneBackModel", name := "isToldAll", desc := "(I)Z" } : Jvm.MethodName) prog_13_method_99_code (3 : Nat) (Option.some Jvm.ClassFile.FieldType.boolean)) ∈ GT := GT_t 1735 (by decide +kernel) rfl
theorem tw1736 : (Jvm.Cond.methodLink "OneBackLaw" (95 : Nat) ({ cls := "OneBackModel", name := "quit", desc := "(IIIII)I" } : Jvm.MethodName)) ∈ GT := GT_t 1736 (by decide +kernel) rfl
theorem tw1737 : (Jvm.Cond.instanceMethod ({ cls := "OneBackModel", name := "quit", desc := "(IIIII)I" } : Jvm.MethodName)) ∈ GT := GT_t 1737 (by decide +kernel) rfl
theorem tw1738 : (Jvm.Cond.selects "OneBackModel" ({ cls := "OneBackModel", name := "quit", desc := "(IIIII)I" } : Jvm.MethodName) ({ cls := "OneBackModel", name := "quit", desc := "(IIIII)I" } : Jvm.MethodName)) ∈ GT := GT_t 1738 (by decide +kernel) rfl
theorem tw1739 : (Jvm.Cond.code ({ cls := "OneBackModel", name := "quit", desc := "(IIIII)I" } : Jvm.MethodName) prog_13_method_103_code (7 : Nat) (Option.some Jvm.ClassFile.FieldType.int)) ∈ GT := GT_t 1739 (by decide +kernel) rfl
theorem tw1740 : (Jvm.Cond.methodLink "OneBackModel" (459 : Nat) ({ cls := "OneBackModel", name := "giftsBy", desc := "(IIII)I" } : Jvm.MethodName)) ∈ GT := GT_t 1740 (by decide +kernel) rfl
theorem tw1742 : (Jvm.Cond.instanceMethod ({ cls := "OneBackModel", name := "giftsBy", desc := "(IIII)I" } : Jvm.MethodName)) ∈ GT := GT_t 1742 (by decide +kernel) rfl
theorem tw1743 : (Jvm.Cond.code ({ cls := "OneBackModel", name := "giftsBy", desc := "(IIII)I" } : Jvm.MethodName) prog_13_method_102_code (9 : Nat) (Option.some Jvm.ClassFile.FieldType.int)) ∈ GT := GT_t 1743 (by decide +kernel) rfl
theorem tw1744 : (Jvm.Cond.methodLink "OneBackModel" (456 : Nat) ({ cls := "OneBackModel", name := "doubles", desc := "(II)I" } : Jvm.MethodName)) ∈ GT := GT_t 1744 (by decide +kernel) rfl
theorem tw1746 : (Jvm.Cond.instanceMethod ({ cls := "OneBackModel", name := "doubles", desc := "(II)I" } : Jvm.MethodName)) ∈ GT := GT_t 1746 (by decide +kernel) rfl
theorem tw1747 : (Jvm.Cond.code ({ cls := "OneBackModel", name := "doubles", desc := "(II)I" } : Jvm.MethodName) prog_13_method_101_code (5 : Nat) (Option.some Jvm.ClassFile.FieldType.int)) ∈ GT := GT_t 1747 (by decide +kernel) rfl
theorem tw1748 : (Jvm.Cond.methodLink "OneBackLaw" (100 : Nat) ({ cls := "OneBackModel", name := "alms", desc := "(IZ)I" } : Jvm.MethodName)) ∈ GT := GT_t 1748 (by decide +kernel) rfl
theorem tw1749 : (Jvm.Cond.instanceMethod ({ cls := "OneBackModel", name := "alms", desc := "(IZ)I" } : Jvm.MethodName)) ∈ GT := GT_t 1749 (by decide +kernel) rfl
theorem tw1750 : (Jvm.Cond.selects "OneBackModel" ({ cls := "OneBackModel", name := "alms", desc := "(IZ)I" } : Jvm.MethodName) ({ cls := "OneBackModel", name := "alms", desc := "(IZ)I" } : Jvm.MethodName)) ∈ GT := GT_t 1750 (by decide +kernel) rfl
theorem tw1751 : (Jvm.Cond.code ({ cls := "OneBackModel", name := "alms", desc := "(IZ)I" } : Jvm.MethodName) prog_13_method_104_code (5 : Nat) (Option.some Jvm.ClassFile.FieldType.int)) ∈ GT := GT_t 1751 (by decide +kernel) rfl
theorem tw1752 : (Jvm.Cond.methodLink "OneBackLaw" (104 : Nat) ({ cls := "OneBackModel", name := "prize", desc := "(III)I" } : Jvm.MethodName)) ∈ GT := GT_t 1752 (by decide +kernel) rfl
theorem tw1753 : (Jvm.Cond.instanceMethod ({ cls := "OneBackModel", name := "prize", desc := "(III)I" } : Jvm.MethodName)) ∈ GT := GT_t 1753 (by decide +kernel) rfl
theorem tw1754 : (Jvm.Cond.selects "OneBackModel" ({ cls := "OneBackModel", name := "prize", desc := "(III)I" } : Jvm.MethodName) ({ cls := "OneBackModel", name := "prize", desc := "(III)I" } : Jvm.MethodName)) ∈ GT := GT_t 1754 (by decide +kernel) rfl
theorem tw1755 : (Jvm.Cond.code ({ cls := "OneBackModel", name := "prize", desc := "(III)I" } : Jvm.MethodName) prog_13_method_107_code (4 : Nat) (Option.some Jvm.ClassFile.FieldType.int)) ∈ GT := GT_t 1755 (by decide +kernel) rfl
theorem tw1756 : (Jvm.Cond.methodLink "OneBackModel" (466 : Nat) ({ cls := "OneBackModel", name := "prizeOf", desc := "(II)I" } : Jvm.MethodName)) ∈ GT := GT_t 1756 (by decide +kernel) rfl
theorem tw1758 : (Jvm.Cond.instanceMethod ({ cls := "OneBackModel", name := "prizeOf", desc := "(II)I" } : Jvm.MethodName)) ∈ GT := GT_t 1758 (by decide +kernel) rfl
theorem tw1759 : (Jvm.Cond.code ({ cls := "OneBackModel", name := "prizeOf", desc := "(II)I" } : Jvm.MethodName) prog_13_method_106_code (3 : Nat) (Option.some Jvm.ClassFile.FieldType.int)) ∈ GT := GT_t 1759 (by decide +kernel) rfl
theorem tw1760 : (Jvm.Cond.methodLink "OneBackModel" (463 : Nat) ({ cls := "OneBackModel", name := "worthOf", desc := "(I)I" } : Jvm.MethodName)) ∈ GT := GT_t 1760 (by decide +kernel) rfl
theorem tw1762 : (Jvm.Cond.instanceMethod ({ cls := "OneBackModel", name := "worthOf", desc := "(I)I" } : Jvm.MethodName)) ∈ GT := GT_t 1762 (by decide +kernel) rfl
theorem tw1763 : (Jvm.Cond.code ({ cls := "OneBackModel", name := "worthOf", desc := "(I)I" } : Jvm.MethodName) prog_13_method_105_code (4 : Nat) (Option.some Jvm.ClassFile.FieldType.int)) ∈ GT := GT_t 1763 (by decide +kernel) rfl
theorem tw1764 : (Jvm.Cond.methodLink "OneBackLaw" (108 : Nat) ({ cls := "OneBackModel", name := "rest", desc := "(II)I" } : Jvm.MethodName)) ∈ GT := GT_t 1764 (by decide +kernel) rfl
theorem tw1765 : (Jvm.Cond.instanceMethod ({ cls := "OneBackModel", name := "rest", desc := "(II)I" } : Jvm.MethodName)) ∈ GT := GT_t 1765 (by decide +kernel) rfl
theorem tw1766 : (Jvm.Cond.selects "OneBackModel" ({ cls := "OneBackModel", name := "rest", desc := "(II)I" } : Jvm.MethodName) ({ cls := "OneBackModel", name := "rest", desc := "(II)I" } : Jvm.MethodName)) ∈ GT := GT_t 1766 (by decide +kernel) rfl
theorem tw1767 : (Jvm.Cond.code ({ cls := "OneBackModel", name := "rest", desc := "(II)I" } : Jvm.MethodName) prog_13_method_109_code (5 : Nat) (Option.some Jvm.ClassFile.FieldType.int)) ∈ GT := GT_t 1767 (by decide +kernel) rfl
theorem tw1768 : (Jvm.Cond.methodLink "OneBackModel" (469 : Nat) ({ cls := "OneBackModel", name := "isRest", desc := "(II)Z" } : Jvm.MethodName)) ∈ GT := GT_t 1768 (by decide +kernel) rfl
theorem tw1770 : (Jvm.Cond.instanceMethod ({ cls := "OneBackModel", name := "isRest", desc := "(II)Z" } : Jvm.MethodName)) ∈ GT := GT_t 1770 (by decide +kernel) rfl
theorem tw1771 : (Jvm.Cond.code ({ cls := "OneBackModel", name := "isRest", desc := "(II)Z" } : Jvm.MethodName) prog_13_method_108_code (4 : Nat) (Option.some Jvm.ClassFile.FieldType.boolean)) ∈ GT := GT_t 1771 (by decide +kernel) rfl
theorem tw1772 : (Jvm.Cond.methodLink "OneBackLaw" (112 : Nat) ({ cls := "OneBackModel", name := "share", desc := "(IIZ)I" } : Jvm.MethodName)) ∈ GT := GT_t 1772 (by decide +kernel) rfl
theorem tw1773 : (Jvm.Cond.instanceMethod ({ cls := "OneBackModel", name := "share", desc := "(IIZ)I" } : Jvm.MethodName)) ∈ GT := GT_t 1773 (by decide +kernel) rfl
theorem tw1774 : (Jvm.Cond.selects "OneBackModel" ({ cls := "OneBackModel", name := "share", desc := "(IIZ)I" } : Jvm.MethodName) ({ cls := "OneBackModel", name := "share", desc := "(IIZ)I" } : Jvm.MethodName)) ∈ GT := GT_t 1774 (by decide +kernel) rfl
theorem tw1775 : (Jvm.Cond.code ({ cls := "OneBackModel", name := "share", desc := "(IIZ)I" } : Jvm.MethodName) prog_13_method_111_code (6 : Nat) (Option.some Jvm.ClassFile.FieldType.int)) ∈ GT := GT_t 1775 (by decide +kernel) rfl
theorem tw1776 : (Jvm.Cond.methodLink "OneBackModel" (472 : Nat) ({ cls := "OneBackModel", name := "least", desc := "(IIZ)I" } : Jvm.MethodName)) ∈ GT := GT_t 1776 (by decide +kernel) rfl
theorem tw1777 : (Jvm.Cond.static ({ cls := "OneBackModel", name := "least", desc := "(IIZ)I" } : Jvm.MethodName)) ∈ GT := GT_t 1777 (by decide +kernel) rfl
theorem tw1778 : (Jvm.Cond.code ({ cls := "OneBackModel", name := "least", desc := "(IIZ)I" } : Jvm.MethodName) prog_13_method_110_code (3 : Nat) (Option.some Jvm.ClassFile.FieldType.int)) ∈ GT := GT_t 1778 (by decide +kernel) rfl
theorem tw1779 : (Jvm.Cond.methodLink "OneBackLaw" (116 : Nat) ({ cls := "OneBackModel", name := "even", desc := "(II)I" } : Jvm.MethodName)) ∈ GT := GT_t 1779 (by decide +kernel) rfl
theorem tw1780 : (Jvm.Cond.instanceMethod ({ cls := "OneBackModel", name := "even", desc := "(II)I" } : Jvm.MethodName)) ∈ GT := GT_t 1780 (by decide +kernel) rfl
theorem tw1781 : (Jvm.Cond.selects "OneBackModel" ({ cls := "OneBackModel", name := "even", desc := "(II)I" } : Jvm.MethodName) ({ cls := "OneBackModel", name := "even", desc := "(II)I" } : Jvm.MethodName)) ∈ GT := GT_t 1781 (by decide +kernel) rfl
theorem tw1782 : (Jvm.Cond.code ({ cls := "OneBackModel", name := "even", desc := "(II)I" } : Jvm.MethodName) prog_13_method_112_code (10 : Nat) (Option.some Jvm.ClassFile.FieldType.int)) ∈ GT := GT_t 1782 (by decide +kernel) rfl
theorem tw1783 : (Jvm.Cond.methodLink "OneBackLaw" (120 : Nat) ({ cls := "OneBackModel", name := "drawn", desc := "(IIIII)I" } : Jvm.MethodName)) ∈ GT := GT_t 1783 (by decide +kernel) rfl
theorem tw1784 : (Jvm.Cond.instanceMethod ({ cls := "OneBackModel", name := "drawn", desc := "(IIIII)I" } : Jvm.MethodName)) ∈ GT := GT_t 1784 (by decide +kernel) rfl
theorem tw1785 : (Jvm.Cond.selects "OneBackModel" ({ cls := "OneBackModel", name := "drawn", desc := "(IIIII)I" } : Jvm.MethodName) ({ cls := "OneBackModel", name := "drawn", desc := "(IIIII)I" } : Jvm.MethodName)) ∈ GT := GT_t 1785 (by decide +kernel) rfl
theorem tw1786 : (Jvm.Cond.code ({ cls := "OneBackModel", name := "drawn", desc := "(IIIII)I" } : Jvm.MethodName) prog_13_method_116_code (8 : Nat) (Option.some Jvm.ClassFile.FieldType.int)) ∈ GT := GT_t 1786 (by decide +kernel) rfl
theorem tw1787 : (Jvm.Cond.methodLink "OneBackModel" (486 : Nat) ({ cls := "OneBackModel", name := "drawThief", desc := "(I)V" } : Jvm.MethodName)) ∈ GT := GT_t 1787 (by decide +kernel) rfl
theorem tw1789 : (Jvm.Cond.instanceMethod ({ cls := "OneBackModel", name := "drawThief", desc := "(I)V" } : Jvm.MethodName)) ∈ GT := GT_t 1789 (by decide +kernel) rfl
theorem tw1790 : (Jvm.Cond.code ({ cls := "OneBackModel", name := "drawThief", desc := "(I)V" } : Jvm.MethodName) prog_13_method_115_code (4 : Nat) (Option.none : Option Jvm.ClassFile.FieldType)) ∈ GT := GT_t 1790 (by decide +kernel) rfl
theorem tw1791 : (Jvm.Cond.methodLink "OneBackModel" (480 : Nat) ({ cls := "OneBackModel", name := "draw", desc := "(I)I" } : Jvm.MethodName)) ∈ GT := GT_t 1791 (by decide +kernel) rfl
theorem tw1793 : (Jvm.Cond.instanceMethod ({ cls := "OneBackModel", name := "draw", desc := "(I)I" } : Jvm.MethodName)) ∈ GT := GT_t 1793 (by decide +kernel) rfl
theorem tw1794 : (Jvm.Cond.code ({ cls := "OneBackModel", name := "draw", desc := "(I)I" } : Jvm.MethodName) prog_13_method_113_code (2 : Nat) (Option.some Jvm.ClassFile.FieldType.int)) ∈ GT := GT_t 1794 (by decide +kernel) rfl
theorem tw1795 : (Jvm.Cond.constant "OneBackModel" (479 : Nat) (1103515245 : Int32)) ∈ GT := GT_t 1795 (by decide +kernel) rfl
theorem tw1796 : (Jvm.Cond.methodLink "OneBackModel" (483 : Nat) ({ cls := "OneBackModel", name := "givesOne", desc := "(I)Z" } : Jvm.MethodName)) ∈ GT := GT_t 1796 (by decide +kernel) rfl
theorem tw1798 : (Jvm.Cond.instanceMethod ({ cls := "OneBackModel", name := "givesOne", desc := "(I)Z" } : Jvm.MethodName)) ∈ GT := GT_t 1798 (by decide +kernel) rfl
theorem tw1799 : (Jvm.Cond.code ({ cls := "OneBackModel", name := "givesOne", desc := "(I)Z" } : Jvm.MethodName) prog_13_method_114_code (4 : Nat) (Option.some Jvm.ClassFile.FieldType.boolean)) ∈ GT := GT_t 1799 (by decide +kernel) rfl
theorem tw1800 : (Jvm.Cond.methodLink "OneBackLaw" (124 : Nat) ({ cls := "OneBackModel", name := "wealth", desc := "(IIIII)I" } : Jvm.MethodName)) ∈ GT := GT_t 1800 (by decide +kernel) rfl
theorem tw1801 : (Jvm.Cond.instanceMethod ({ cls := "OneBackModel", name := "wealth", desc := "(IIIII)I" } : Jvm.MethodName)) ∈ GT := GT_t 1801 (by decide +kernel) rfl
theorem tw1802 : (Jvm.Cond.selects "OneBackModel" ({ cls := "OneBackModel", name := "wealth", desc := "(IIIII)I" } : Jvm.MethodName) ({ cls := "OneBackModel", name := "wealth", desc := "(IIIII)I" } : Jvm.MethodName)) ∈ GT := GT_t 1802 (by decide +kernel) rfl
theorem tw1803 : (Jvm.Cond.code ({ cls := "OneBackModel", name := "wealth", desc := "(IIIII)I" } : Jvm.MethodName) prog_13_method_125_code (6 : Nat) (Option.some Jvm.ClassFile.FieldType.int)) ∈ GT := GT_t 1803 (by decide +kernel) rfl
theorem tw1804 : (Jvm.Cond.methodLink "OneBackModel" (498 : Nat) ({ cls := "OneBackModel", name := "can", desc := "(I)I" } : Jvm.MethodName)) ∈ GT := GT_t 1804 (by decide +kernel) rfl
theorem tw1806 : (Jvm.Cond.instanceMethod ({ cls := "OneBackModel", name := "can", desc := "(I)I" } : Jvm.MethodName)) ∈ GT := GT_t 1806 (by decide +kernel) rfl
theorem tw1807 : (Jvm.Cond.code ({ cls := "OneBackModel", name := "can", desc := "(I)I" } : Jvm.MethodName) prog_13_method_119_code (6 : Nat) (Option.some Jvm.ClassFile.FieldType.int)) ∈ GT := GT_t 1807 (by decide +kernel) rfl
theorem tw1808 : (Jvm.Cond.methodLink "OneBackModel" (492 : Nat) ({ cls := "OneBackModel", name := "wealthOf", desc := "(I)I" } : Jvm.MethodName)) ∈ GT := GT_t 1808 (by decide +kernel) rfl
theorem tw1810 : (Jvm.Cond.instanceMethod ({ cls := "OneBackModel", name := "wealthOf", desc := "(I)I" } : Jvm.MethodName)) ∈ GT := GT_t 1810 (by decide +kernel) rfl
theorem tw1811 : (Jvm.Cond.code ({ cls := "OneBackModel", name := "wealthOf", desc := "(I)I" } : Jvm.MethodName) prog_13_method_120_code (4 : Nat) (Option.some Jvm.ClassFile.FieldType.int)) ∈ GT := GT_t 1811 (by decide +kernel) rfl
theorem tw1812 : (Jvm.Cond.methodLink "OneBackModel" (495 : Nat) ({ cls := "OneBackModel", name := "ranked", desc := "(I)I" } : Jvm.MethodName)) ∈ GT := GT_t 1812 (by decide +kernel) rfl
theorem tw1814 : (Jvm.Cond.instanceMethod ({ cls := "OneBackModel", name := "ranked", desc := "(I)I" } : Jvm.MethodName)) ∈ GT := GT_t 1814 (by decide +kernel) rfl
theorem tw1815 : (Jvm.Cond.code ({ cls := "OneBackModel", name := "ranked", desc := "(I)I" } : Jvm.MethodName) prog_13_method_121_code (5 : Nat) (Option.some Jvm.ClassFile.FieldType.int)) ∈ GT := GT_t 1815 (by decide +kernel) rfl
theorem tw1816 : (Jvm.Cond.methodLink "OneBackModel" (501 : Nat) ({ cls := "OneBackModel", name := "settle", desc := "()I" } : Jvm.MethodName)) ∈ GT := GT_t 1816 (by decide +kernel) rfl
theorem tw1818 : (Jvm.Cond.instanceMethod ({ cls := "OneBackModel", name := "settle", desc := "()I" } : Jvm.MethodName)) ∈ GT := GT_t 1818 (by decide +kernel) rfl
theorem tw1819 : (Jvm.Cond.code ({ cls := "OneBackModel", name := "settle", desc := "()I" } : Jvm.MethodName) prog_13_method_118_code (7 : Nat) (Option.some Jvm.ClassFile.FieldType.int)) ∈ GT := GT_t 1819 (by decide +kernel) rfl
theorem tw1820 : (Jvm.Cond.methodLink "OneBackModel" (489 : Nat) ({ cls := "OneBackModel", name := "areKin", desc := "(II)Z" } : Jvm.MethodName)) ∈ GT := GT_t 1820 (by decide +kernel) rfl
theorem tw1822 : (Jvm.Cond.instanceMethod ({ cls := "OneBackModel", name := "areKin", desc := "(II)Z" } : Jvm.MethodName)) ∈ GT := GT_t 1822 (by decide +kernel) rfl
theorem tw1823 : (Jvm.Cond.code ({ cls := "OneBackModel", name := "areKin", desc := "(II)Z" } : Jvm.MethodName) prog_13_method_117_code (3 : Nat) (Option.some Jvm.ClassFile.FieldType.boolean)) ∈ GT := GT_t 1823 (by decide +kernel) rfl
theorem tw1824 : (Jvm.Cond.methodLink "OneBackModel" (504 : Nat) ({ cls := "OneBackModel", name := "gap", desc := "()I" } : Jvm.MethodName)) ∈ GT := GT_t 1824 (by decide +kernel) rfl
theorem tw1826 : (Jvm.Cond.instanceMethod ({ cls := "OneBackModel", name := "gap", desc := "()I" } : Jvm.MethodName)) ∈ GT := GT_t 1826 (by decide +kernel) rfl
theorem tw1827 : (Jvm.Cond.code ({ cls := "OneBackModel", name := "gap", desc := "()I" } : Jvm.MethodName) prog_13_method_122_code (1 : Nat) (Option.some Jvm.ClassFile.FieldType.int)) ∈ GT := GT_t 1827 (by decide +kernel) rfl
theorem tw1828 : (Jvm.Cond.methodLink "OneBackModel" (507 : Nat) ({ cls := "OneBackModel", name := "unlike", desc := "(Z)I" } : Jvm.MethodName)) ∈ GT := GT_t 1828 (by decide +kernel) rfl
theorem tw1830 : (Jvm.Cond.instanceMethod ({ cls := "OneBackModel", name := "unlike", desc := "(Z)I" } : Jvm.MethodName)) ∈ GT := GT_t 1830 (by decide +kernel) rfl
theorem tw1831 : (Jvm.Cond.code ({ cls := "OneBackModel", name := "unlike", desc := "(Z)I" } : Jvm.MethodName) prog_13_method_123_code (6 : Nat) (Option.some Jvm.ClassFile.FieldType.int)) ∈ GT := GT_t 1831 (by decide +kernel) rfl
theorem tw1832 : (Jvm.Cond.methodLink "OneBackModel" (511 : Nat) ({ cls := "OneBackModel", name := "robbed", desc := "()I" } : Jvm.MethodName)) ∈ GT := GT_t 1832 (by decide +kernel) rfl
theorem tw1834 : (Jvm.Cond.instanceMethod ({ cls := "OneBackModel", name := "robbed", desc := "()I" } : Jvm.MethodName)) ∈ GT := GT_t 1834 (by decide +kernel) rfl
theorem tw1835 : (Jvm.Cond.code ({ cls := "OneBackModel", name := "robbed", desc := "()I" } : Jvm.MethodName) prog_13_method_124_code (7 : Nat) (Option.some Jvm.ClassFile.FieldType.int)) ∈ GT := GT_t 1835 (by decide +kernel) rfl
theorem tw1836 : (Jvm.Cond.methodLink "OneBackLaw" (128 : Nat) ({ cls := "OneBackModel", name := "haul", desc := "(IIIII)I" } : Jvm.MethodName)) ∈ GT := GT_t 1836 (by decide +kernel) rfl
theorem tw1837 : (Jvm.Cond.instanceMethod ({ cls := "OneBackModel", name := "haul", desc := "(IIIII)I" } : Jvm.MethodName)) ∈ GT := GT_t 1837 (by decide +kernel) rfl
theorem tw1838 : (Jvm.Cond.selects "OneBackModel" ({ cls := "OneBackModel", name := "haul", desc := "(IIIII)I" } : Jvm.MethodName) ({ cls := "OneBackModel", name := "haul", desc := "(IIIII)I" } : Jvm.MethodName)) ∈ GT := GT_t 1838 (by decide +kernel) rfl
theorem tw1839 : (Jvm.Cond.code ({ cls := "OneBackModel", name := "haul", desc := "(IIIII)I" } : Jvm.MethodName) prog_13_method_128_code (10 : Nat) (Option.some Jvm.ClassFile.FieldType.int)) ∈ GT := GT_t 1839 (by decide +kernel) rfl
theorem tw1840 : (Jvm.Cond.constant "OneBackModel" (514 : Nat) (99999 : Int32)) ∈ GT := GT_t 1840 (by decide +kernel) rfl
theorem tw1841 : (Jvm.Cond.methodLink "OneBackModel" (515 : Nat) ({ cls := "OneBackModel", name := "haulWorth", desc := "(IIII)I" } : Jvm.MethodName)) ∈ GT := GT_t 1841 (by decide +kernel) rfl
theorem tw1843 : (Jvm.Cond.instanceMethod ({ cls := "OneBackModel", name := "haulWorth", desc := "(IIII)I" } : Jvm.MethodName)) ∈ GT := GT_t 1843 (by decide +kernel) rfl
theorem tw1844 : (Jvm.Cond.code ({ cls := "OneBackModel", name := "haulWorth", desc := "(IIII)I" } : Jvm.MethodName) prog_13_method_127_code (11 : Nat) (Option.some Jvm.ClassFile.FieldType.int)) ∈ GT := GT_t 1844 (by decide +kernel) rfl
theorem tw1845 : (Jvm.Cond.methodLink "OneBackModel" (518 : Nat) ({ cls := "OneBackModel", name := "figure", desc := "(II)I" } : Jvm.MethodName)) ∈ GT := GT_t 1845 (by decide +kernel) rfl
theorem tw1846 : (Jvm.Cond.static ({ cls := "OneBackModel", name := "figure", desc := "(II)I" } : Jvm.MethodName)) ∈ GT := GT_t 1846 (by decide +kernel) rfl
theorem tw1847 : (Jvm.Cond.code ({ cls := "OneBackModel", name := "figure", desc := "(II)I" } : Jvm.MethodName) prog_13_method_126_code (4 : Nat) (Option.some Jvm.ClassFile.FieldType.int)) ∈ GT := GT_t 1847 (by decide +kernel) rfl
theorem tw1848 : (Jvm.Cond.methodLink "OneBackLaw" (132 : Nat) ({ cls := "OneBackModel", name := "crew", desc := "(IIZ)I" } : Jvm.MethodName)) ∈ GT := GT_t 1848 (by decide +kernel) rfl
theorem tw1849 : (Jvm.Cond.instanceMethod ({ cls := "OneBackModel", name := "crew", desc := "(IIZ)I" } : Jvm.MethodName)) ∈ GT := GT_t 1849 (by decide +kernel) rfl
theorem tw1850 : (Jvm.Cond.selects "OneBackModel" ({ cls := "OneBackModel", name := "crew", desc := "(IIZ)I" } : Jvm.MethodName) ({ cls := "OneBackModel", name := "crew", desc := "(IIZ)I" } : Jvm.MethodName)) ∈ GT := GT_t 1850 (by decide +kernel) rfl
theorem tw1851 : (Jvm.Cond.code ({ cls := "OneBackModel", name := "crew", desc := "(IIZ)I" } : Jvm.MethodName) prog_13_method_131_code (6 : Nat) (Option.some Jvm.ClassFile.FieldType.int)) ∈ GT := GT_t 1851 (by decide +kernel) rfl
theorem tw1852 : (Jvm.Cond.methodLink "OneBackModel" (521 : Nat) ({ cls := "OneBackModel", name := "limits", desc := "(I)I" } : Jvm.MethodName)) ∈ GT := GT_t 1852 (by decide +kernel) rfl
theorem tw1854 : (Jvm.Cond.instanceMethod ({ cls := "OneBackModel", name := "limits", desc := "(I)I" } : Jvm.MethodName)) ∈ GT := GT_t 1854 (by decide +kernel) rfl
theorem tw1855 : (Jvm.Cond.code ({ cls := "OneBackModel", name := "limits", desc := "(I)I" } : Jvm.MethodName) prog_13_method_129_code (4 : Nat) (Option.some Jvm.ClassFile.FieldType.int)) ∈ GT := GT_t 1855 (by decide +kernel) rfl
theorem tw1856 : (Jvm.Cond.methodLink "OneBackModel" (524 : Nat) ({ cls := "OneBackModel", name := "heads", desc := "(I)I" } : Jvm.MethodName)) ∈ GT := GT_t 1856 (by decide +kernel) rfl
theorem tw1858 : (Jvm.Cond.instanceMethod ({ cls := "OneBackModel", name := "heads", desc := "(I)I" } : Jvm.MethodName)) ∈ GT := GT_t 1858 (by decide +kernel) rfl
theorem tw1859 : (Jvm.Cond.code ({ cls := "OneBackModel", name := "heads", desc := "(I)I" } : Jvm.MethodName) prog_13_method_130_code (4 : Nat) (Option.some Jvm.ClassFile.FieldType.int)) ∈ GT := GT_t 1859 (by decide +kernel) rfl
theorem tw1860 : (Jvm.Cond.methodLink "OneBackLaw" (136 : Nat) ({ cls := "OneBackModel", name := "pairs", desc := "(II)I" } : Jvm.MethodName)) ∈ GT := GT_t 1860 (by decide +kernel) rfl
theorem tw1861 : (Jvm.Cond.instanceMethod ({ cls := "OneBackModel", name := "pairs", desc := "(II)I" } : Jvm.MethodName)) ∈ GT := GT_t 1861 (by decide +kernel) rfl
theorem tw1862 : (Jvm.Cond.selects "OneBackModel" ({ cls := "OneBackModel", name := "pairs", desc := "(II)I" } : Jvm.MethodName) ({ cls := "OneBackModel", name := "pairs", desc := "(II)I" } : Jvm.MethodName)) ∈ GT := GT_t 1862 (by decide +kernel) rfl
theorem tw1863 : (Jvm.Cond.code ({ cls := "OneBackModel", name := "pairs", desc := "(II)I" } : Jvm.MethodName) prog_13_method_133_code (7 : Nat) (Option.some Jvm.ClassFile.FieldType.int)) ∈ GT := GT_t 1863 (by decide +kernel) rfl
theorem tw1864 : (Jvm.Cond.methodLink "OneBackModel" (527 : Nat) ({ cls := "OneBackModel", name := "helps", desc := "(II)Z" } : Jvm.MethodName)) ∈ GT := GT_t 1864 (by decide +kernel) rfl
theorem tw1866 : (Jvm.Cond.instanceMethod ({ cls := "OneBackModel", name := "helps", desc := "(II)Z" } : Jvm.MethodName)) ∈ GT := GT_t 1866 (by decide +kernel) rfl
theorem tw1867 : (Jvm.Cond.code ({ cls := "OneBackModel", name := "helps", desc := "(II)Z" } : Jvm.MethodName) prog_13_method_132_code (4 : Nat) (Option.some Jvm.ClassFile.FieldType.boolean)) ∈ GT := GT_t 1867 (by decide +kernel) rfl
theorem tw1868 : (Jvm.Cond.methodLink "OneBackLaw" (140 : Nat) ({ cls := "OneBackModel", name := "count", desc := "(I)I" } : Jvm.MethodName)) ∈ GT := GT_t 1868 (by decide +kernel) rfl
theorem tw1869 : (Jvm.Cond.instanceMethod ({ cls := "OneBackModel", name := "count", desc := "(I)I" } : Jvm.MethodName)) ∈ GT := GT_t 1869 (by decide +kernel) rfl
theorem tw1870 : (Jvm.Cond.selects "OneBackModel" ({ cls := "OneBackModel", name := "count", desc := "(I)I" } : Jvm.MethodName) ({ cls := "OneBackModel", name := "count", desc := "(I)I" } : Jvm.MethodName)) ∈ GT := GT_t 1870 (by decide +kernel) rfl
theorem tw1871 : (Jvm.Cond.code ({ cls := "OneBackModel", name := "count", desc := "(I)I" } : Jvm.MethodName) prog_13_method_134_code (2 : Nat) (Option.some Jvm.ClassFile.FieldType.int)) ∈ GT := GT_t 1871 (by decide +kernel) rfl
theorem tw1872 : (Jvm.Cond.methodLink "OneBackLaw" (145 : Nat) ({ cls := "OneBackModel", name := "image", desc := "(I)Z" } : Jvm.MethodName)) ∈ GT := GT_t 1872 (by decide +kernel) rfl
theorem tw1873 : (Jvm.Cond.instanceMethod ({ cls := "OneBackModel", name := "image", desc := "(I)Z" } : Jvm.MethodName)) ∈ GT := GT_t 1873 (by decide +kernel) rfl
theorem tw1874 : (Jvm.Cond.selects "OneBackModel" ({ cls := "OneBackModel", name := "image", desc := "(I)Z" } : Jvm.MethodName) ({ cls := "OneBackModel", name := "image", desc := "(I)Z" } : Jvm.MethodName)) ∈ GT := GT_t 1874 (by decide +kernel) rfl
theorem tw1875 : (Jvm.Cond.code ({ cls := "OneBackModel", name := "image", desc := "(I)Z" } : Jvm.MethodName) prog_13_method_135_code (2 : Nat) (Option.some Jvm.ClassFile.FieldType.boolean)) ∈ GT := GT_t 1875 (by decide +kernel) rfl
theorem tw1876 : (Jvm.Cond.methodLink "OneBackModel" (530 : Nat) ({ cls := "OneBackModel", name := "copyAll", desc := "(II)V" } : Jvm.MethodName)) ∈ GT := GT_t 1876 (by decide +kernel) rfl
theorem tw1878 : (Jvm.Cond.instanceMethod ({ cls := "OneBackModel", name := "copyAll", desc := "(II)V" } : Jvm.MethodName)) ∈ GT := GT_t 1878 (by decide +kernel) rfl
theorem tw1879 : (Jvm.Cond.code ({ cls := "OneBackModel", name := "copyAll", desc := "(II)V" } : Jvm.MethodName) prog_13_method_9_code (4 : Nat) (Option.none : Option Jvm.ClassFile.FieldType)) ∈ GT := GT_t 1879 (by decide +kernel) rfl
theorem tw1880 : (Jvm.Cond.methodLink "OneBackModel" (94 : Nat) ({ cls := "OneBackModel", name := "copyRow", desc := "([IIII)V" } : Jvm.MethodName)) ∈ GT := GT_t 1880 (by decide +kernel) rfl
theorem tw1881 : (Jvm.Cond.static ({ cls := "OneBackModel", name := "copyRow", desc := "([IIII)V" } : Jvm.MethodName)) ∈ GT := GT_t 1881 (by decide +kernel) rfl
theorem tw1882 : (Jvm.Cond.code ({ cls := "OneBackModel", name := "copyRow", desc := "([IIII)V" } : Jvm.MethodName) prog_13_method_8_code (5 : Nat) (Option.none : Option Jvm.ClassFile.FieldType)) ∈ GT := GT_t 1882 (by decide +kernel) rfl
theorem tw1883 : (Jvm.Cond.methodLink "OneBackLaw" (149 : Nat) ({ cls := "OneBackModel", name := "again", desc := "(I)Z" } : Jvm.MethodName)) ∈ GT := GT_t 1883 (by decide +kernel) rfl
theorem tw1884 : (Jvm.Cond.instanceMethod ({ cls := "OneBackModel", name := "again", desc := "(I)Z" } : Jvm.MethodName)) ∈ GT := GT_t 1884 (by decide +kernel) rfl
theorem tw1885 : (Jvm.Cond.selects "OneBackModel" ({ cls := "OneBackModel", name := "again", desc := "(I)Z" } : Jvm.MethodName) ({ cls := "OneBackModel", name := "again", desc := "(I)Z" } : Jvm.MethodName)) ∈ GT := GT_t 1885 (by decide +kernel) rfl
theorem tw1886 : (Jvm.Cond.code ({ cls := "OneBackModel", name := "again", desc := "(I)Z" } : Jvm.MethodName) prog_13_method_136_code (2 : Nat) (Option.some Jvm.ClassFile.FieldType.boolean)) ∈ GT := GT_t 1886 (by decide +kernel) rfl
theorem tw1887 : (Jvm.Cond.fieldLink "java/lang/String" (9 : Nat) "java/lang/String" "value" "[B") ∈ GT := GT_t 1887 (by decide +kernel) rfl
theorem tw1888 : (Jvm.Cond.fieldLink "java/lang/String" (15 : Nat) "java/lang/String" "coder" "B") ∈ GT := GT_t 1888 (by decide +kernel) rfl
theorem tp0 : Cond.selects "OneBack$Reader" ⟨"OneBack$Reader", "begin", "([BI)V"⟩ ⟨"OneBack$Reader", "begin", "([BI)V"⟩ ∈ GT := GT_p (q := (⟨"OneBack$Reader", "begin", "([BI)V"⟩, 16)) 0 (by decide +kernel)
theorem tp1 : Cond.selects "OneBack$Reader" ⟨"OneBack$Reader", "step", "()V"⟩ ⟨"OneBack$Reader", "step", "()V"⟩ ∈ GT := GT_p (q := (⟨"OneBack$Reader", "step", "()V"⟩, 16)) 1 (by decide +kernel)
theorem tp2 : Cond.selects "OneBack$Reader" ⟨"OneBack$Reader", "byteAt", "(I)I"⟩ ⟨"OneBack$Reader", "byteAt", "(I)I"⟩ ∈ GT := GT_p (q := (⟨"OneBack$Reader", "byteAt", "(I)I"⟩, 16)) 2 (by decide +kernel)
theorem tp3 : Cond.selects "OneBack$Reader" ⟨"OneBack$Reader", "stepNumber", "()V"⟩ ⟨"OneBack$Reader", "stepNumber", "()V"⟩ ∈ GT := GT_p (q := (⟨"OneBack$Reader", "stepNumber", "()V"⟩, 16)) 3 (by decide +kernel)
theorem tp4 : Cond.selects "OneBack$Reader" ⟨"OneBack$Reader", "readLine", "(I)V"⟩ ⟨"OneBack$Reader", "readLine", "(I)V"⟩ ∈ GT := GT_p (q := (⟨"OneBack$Reader", "readLine", "(I)V"⟩, 16)) 4 (by decide +kernel)
theorem tp5 : Cond.selects "OneBack$Reader" ⟨"OneBack$Reader", "lineOf", "(I)I"⟩ ⟨"OneBack$Reader", "lineOf", "(I)I"⟩ ∈ GT := GT_p (q := (⟨"OneBack$Reader", "lineOf", "(I)I"⟩, 16)) 5 (by decide +kernel)
theorem tp6 : Cond.selects "OneBack$Reader" ⟨"OneBack$Reader", "isWord", "(Ljava/lang/String;)Z"⟩ ⟨"OneBack$Reader", "isWord", "(Ljava/lang/String;)Z"⟩ ∈ GT := GT_p (q := (⟨"OneBack$Reader", "isWord", "(Ljava/lang/String;)Z"⟩, 16)) 6 (by decide +kernel)
theorem tp7 : Cond.selects "OneBack$Reader" ⟨"OneBack$Reader", "breakOff", "()V"⟩ ⟨"OneBack$Reader", "breakOff", "()V"⟩ ∈ GT := GT_p (q := (⟨"OneBack$Reader", "breakOff", "()V"⟩, 16)) 7 (by decide +kernel)
theorem tp8 : Cond.selects "OneBack$Reader" ⟨"OneBack$Reader", "isFull", "(I)Z"⟩ ⟨"OneBack$Reader", "isFull", "(I)Z"⟩ ∈ GT := GT_p (q := (⟨"OneBack$Reader", "isFull", "(I)Z"⟩, 16)) 8 (by decide +kernel)
theorem tp9 : Cond.selects "OneBack$Reader" ⟨"OneBack$Reader", "note", "(II)V"⟩ ⟨"OneBack$Reader", "note", "(II)V"⟩ ∈ GT := GT_p (q := (⟨"OneBack$Reader", "note", "(II)V"⟩, 16)) 9 (by decide +kernel)
theorem tp10 : Cond.selects "OneBack$Reader" ⟨"OneBack$Reader", "readNumber", "(II)V"⟩ ⟨"OneBack$Reader", "readNumber", "(II)V"⟩ ∈ GT := GT_p (q := (⟨"OneBack$Reader", "readNumber", "(II)V"⟩, 16)) 10 (by decide +kernel)
theorem tp11 : Cond.selects "OneBack$Reader" ⟨"OneBack$Reader", "keepLine", "(I)V"⟩ ⟨"OneBack$Reader", "keepLine", "(I)V"⟩ ∈ GT := GT_p (q := (⟨"OneBack$Reader", "keepLine", "(I)V"⟩, 16)) 11 (by decide +kernel)
theorem tp12 : Cond.selects "OneBack$Reader" ⟨"OneBack$Reader", "keepTown", "(I)V"⟩ ⟨"OneBack$Reader", "keepTown", "(I)V"⟩ ∈ GT := GT_p (q := (⟨"OneBack$Reader", "keepTown", "(I)V"⟩, 16)) 12 (by decide +kernel)
theorem tp13 : Cond.selects "OneBack$Reader" ⟨"OneBack$Reader", "keepLaw", "(I)V"⟩ ⟨"OneBack$Reader", "keepLaw", "(I)V"⟩ ∈ GT := GT_p (q := (⟨"OneBack$Reader", "keepLaw", "(I)V"⟩, 16)) 13 (by decide +kernel)
theorem tp14 : Cond.selects "OneBack" ⟨"OneBack", "walkTo", "(IIII)Z"⟩ ⟨"OneBack", "walkTo", "(IIII)Z"⟩ ∈ GT := GT_p (q := (⟨"OneBack", "walkTo", "(IIII)Z"⟩, 6)) 14 (by decide +kernel)
theorem tp15 : Cond.selects "OneBack$Walk" ⟨"OneBack$Walk", "act", "(LOneBack$Nights;I)Z"⟩ ⟨"OneBack$Walk", "act", "(LOneBack$Nights;I)Z"⟩ ∈ GT := GT_p (q := (⟨"OneBack$Walk", "act", "(LOneBack$Nights;I)Z"⟩, 17)) 15 (by decide +kernel)
theorem tp16 : Cond.selects "OneBack" ⟨"OneBack", "walkJust", "(IIII)Z"⟩ ⟨"OneBack", "walkJust", "(IIII)Z"⟩ ∈ GT := GT_p (q := (⟨"OneBack", "walkJust", "(IIII)Z"⟩, 6)) 16 (by decide +kernel)
theorem tp17 : Cond.selects "OneBack$Supply" ⟨"OneBack$Supply", "carryGood", "(LOneBack$Town;I)I"⟩ ⟨"OneBack$Supply", "carryGood", "(LOneBack$Town;I)I"⟩ ∈ GT := GT_p (q := (⟨"OneBack$Supply", "carryGood", "(LOneBack$Town;I)I"⟩, 2)) 17 (by decide +kernel)
theorem tp18 : Cond.selects "OneBack$Supply" ⟨"OneBack$Supply", "leastOf", "(II)I"⟩ ⟨"OneBack$Supply", "leastOf", "(II)I"⟩ ∈ GT := GT_p (q := (⟨"OneBack$Supply", "leastOf", "(II)I"⟩, 2)) 18 (by decide +kernel)
theorem tp19 : Cond.selects "OneBack$Sight" ⟨"OneBack$Sight", "alike", "(III)I"⟩ ⟨"OneBack$Sight", "alike", "(III)I"⟩ ∈ GT := GT_p (q := (⟨"OneBack$Sight", "alike", "(III)I"⟩, 4)) 19 (by decide +kernel)
theorem tp20 : Cond.selects "OneBack$Sight" ⟨"OneBack$Sight", "waysOf", "(LOneBack$Walk;III)I"⟩ ⟨"OneBack$Sight", "waysOf", "(LOneBack$Walk;III)I"⟩ ∈ GT := GT_p (q := (⟨"OneBack$Sight", "waysOf", "(LOneBack$Walk;III)I"⟩, 4)) 20 (by decide +kernel)
theorem tp21 : Cond.selects "OneBack$Sight" ⟨"OneBack$Sight", "isTold", "(LOneBack$Town;I)Z"⟩ ⟨"OneBack$Sight", "isTold", "(LOneBack$Town;I)Z"⟩ ∈ GT := GT_p (q := (⟨"OneBack$Sight", "isTold", "(LOneBack$Town;I)Z"⟩, 4)) 21 (by decide +kernel)
theorem tp22 : Cond.selects "OneBack$Sight" ⟨"OneBack$Sight", "movedOf", "(LOneBack$Town;IZ)I"⟩ ⟨"OneBack$Sight", "movedOf", "(LOneBack$Town;IZ)I"⟩ ∈ GT := GT_p (q := (⟨"OneBack$Sight", "movedOf", "(LOneBack$Town;IZ)I"⟩, 4)) 22 (by decide +kernel)
theorem tp23 : Cond.selects "OneBack$Town" ⟨"OneBack$Town", "isBest", "(II)Z"⟩ ⟨"OneBack$Town", "isBest", "(II)Z"⟩ ∈ GT := GT_p (q := (⟨"OneBack$Town", "isBest", "(II)Z"⟩, 10)) 23 (by decide +kernel)
theorem tp24 : Cond.selects "OneBack$Walk" ⟨"OneBack$Walk", "drawDeeds", "(I)V"⟩ ⟨"OneBack$Walk", "drawDeeds", "(I)V"⟩ ∈ GT := GT_p (q := (⟨"OneBack$Walk", "drawDeeds", "(I)V"⟩, 17)) 24 (by decide +kernel)
theorem tp25 : Cond.selects "OneBack$Walk" ⟨"OneBack$Walk", "drawBelow", "(I)I"⟩ ⟨"OneBack$Walk", "drawBelow", "(I)I"⟩ ∈ GT := GT_p (q := (⟨"OneBack$Walk", "drawBelow", "(I)I"⟩, 17)) 25 (by decide +kernel)
theorem tp26 : Cond.selects "OneBack$Walk" ⟨"OneBack$Walk", "giveLeast", "(I)Z"⟩ ⟨"OneBack$Walk", "giveLeast", "(I)Z"⟩ ∈ GT := GT_p (q := (⟨"OneBack$Walk", "giveLeast", "(I)Z"⟩, 17)) 26 (by decide +kernel)
theorem tp27 : Cond.selects "OneBack$Porter" ⟨"OneBack$Porter", "pick", "(IIII)V"⟩ ⟨"OneBack$Porter", "pick", "(IIII)V"⟩ ∈ GT := GT_p (q := (⟨"OneBack$Porter", "pick", "(IIII)V"⟩, 5)) 27 (by decide +kernel)
theorem tp28 : Cond.selects "OneBackModel" ⟨"OneBackModel", "four", "(I)V"⟩ ⟨"OneBackModel", "four", "(I)V"⟩ ∈ GT := GT_p (q := (⟨"OneBackModel", "four", "(I)V"⟩, 51)) 28 (by decide +kernel)
theorem tp29 : Cond.selects "OneBackModel" ⟨"OneBackModel", "is", "(II)Z"⟩ ⟨"OneBackModel", "is", "(II)Z"⟩ ∈ GT := GT_p (q := (⟨"OneBackModel", "is", "(II)Z"⟩, 51)) 29 (by decide +kernel)
theorem tp30 : Cond.selects "OneBackModel" ⟨"OneBackModel", "readText", "(I)Z"⟩ ⟨"OneBackModel", "readText", "(I)Z"⟩ ∈ GT := GT_p (q := (⟨"OneBackModel", "readText", "(I)Z"⟩, 51)) 30 (by decide +kernel)
theorem tp31 : Cond.selects "OneBackModel" ⟨"OneBackModel", "blank", "(I)V"⟩ ⟨"OneBackModel", "blank", "(I)V"⟩ ∈ GT := GT_p (q := (⟨"OneBackModel", "blank", "(I)V"⟩, 51)) 31 (by decide +kernel)
theorem tp32 : Cond.selects "OneBackModel" ⟨"OneBackModel", "blankTown", "()V"⟩ ⟨"OneBackModel", "blankTown", "()V"⟩ ∈ GT := GT_p (q := (⟨"OneBackModel", "blankTown", "()V"⟩, 51)) 32 (by decide +kernel)
theorem tp33 : Cond.selects "OneBackModel" ⟨"OneBackModel", "token", "()V"⟩ ⟨"OneBackModel", "token", "()V"⟩ ∈ GT := GT_p (q := (⟨"OneBackModel", "token", "()V"⟩, 51)) 33 (by decide +kernel)
theorem tp34 : Cond.selects "OneBackModel" ⟨"OneBackModel", "see", "()I"⟩ ⟨"OneBackModel", "see", "()I"⟩ ∈ GT := GT_p (q := (⟨"OneBackModel", "see", "()I"⟩, 51)) 34 (by decide +kernel)
theorem tp35 : Cond.selects "OneBackModel" ⟨"OneBackModel", "lines", "(I)Z"⟩ ⟨"OneBackModel", "lines", "(I)Z"⟩ ∈ GT := GT_p (q := (⟨"OneBackModel", "lines", "(I)Z"⟩, 51)) 35 (by decide +kernel)
theorem tp36 : Cond.selects "OneBackModel" ⟨"OneBackModel", "lineOf", "(IJI)Z"⟩ ⟨"OneBackModel", "lineOf", "(IJI)Z"⟩ ∈ GT := GT_p (q := (⟨"OneBackModel", "lineOf", "(IJI)Z"⟩, 51)) 36 (by decide +kernel)
theorem tp37 : Cond.selects "OneBackModel" ⟨"OneBackModel", "townLine", "(JI)Z"⟩ ⟨"OneBackModel", "townLine", "(JI)Z"⟩ ∈ GT := GT_p (q := (⟨"OneBackModel", "townLine", "(JI)Z"⟩, 51)) 37 (by decide +kernel)
theorem tp38 : Cond.selects "OneBackModel" ⟨"OneBackModel", "fails", "()Z"⟩ ⟨"OneBackModel", "fails", "()Z"⟩ ∈ GT := GT_p (q := (⟨"OneBackModel", "fails", "()Z"⟩, 51)) 38 (by decide +kernel)
theorem tp39 : Cond.selects "OneBackModel" ⟨"OneBackModel", "full", "(III)V"⟩ ⟨"OneBackModel", "full", "(III)V"⟩ ∈ GT := GT_p (q := (⟨"OneBackModel", "full", "(III)V"⟩, 51)) 39 (by decide +kernel)
theorem tp40 : Cond.selects "OneBackModel" ⟨"OneBackModel", "later", "(II)V"⟩ ⟨"OneBackModel", "later", "(II)V"⟩ ∈ GT := GT_p (q := (⟨"OneBackModel", "later", "(II)V"⟩, 51)) 40 (by decide +kernel)
theorem tp41 : Cond.selects "OneBackModel" ⟨"OneBackModel", "goodsLine", "(I)Z"⟩ ⟨"OneBackModel", "goodsLine", "(I)Z"⟩ ∈ GT := GT_p (q := (⟨"OneBackModel", "goodsLine", "(I)Z"⟩, 51)) 41 (by decide +kernel)
theorem tp42 : Cond.selects "OneBackModel" ⟨"OneBackModel", "takeHouse", "(I)Z"⟩ ⟨"OneBackModel", "takeHouse", "(I)Z"⟩ ∈ GT := GT_p (q := (⟨"OneBackModel", "takeHouse", "(I)Z"⟩, 51)) 42 (by decide +kernel)
theorem tp43 : Cond.selects "OneBackModel" ⟨"OneBackModel", "take", "(III)Z"⟩ ⟨"OneBackModel", "take", "(III)Z"⟩ ∈ GT := GT_p (q := (⟨"OneBackModel", "take", "(III)Z"⟩, 51)) 43 (by decide +kernel)
theorem tp44 : Cond.selects "OneBackModel" ⟨"OneBackModel", "takeBut", "(IIII)Z"⟩ ⟨"OneBackModel", "takeBut", "(IIII)Z"⟩ ∈ GT := GT_p (q := (⟨"OneBackModel", "takeBut", "(IIII)Z"⟩, 51)) 44 (by decide +kernel)
theorem tp45 : Cond.selects "OneBackModel" ⟨"OneBackModel", "lay", "(II)V"⟩ ⟨"OneBackModel", "lay", "(II)V"⟩ ∈ GT := GT_p (q := (⟨"OneBackModel", "lay", "(II)V"⟩, 51)) 45 (by decide +kernel)
theorem tp46 : Cond.selects "OneBackModel" ⟨"OneBackModel", "houseLine", "(J)Z"⟩ ⟨"OneBackModel", "houseLine", "(J)Z"⟩ ∈ GT := GT_p (q := (⟨"OneBackModel", "houseLine", "(J)Z"⟩, 51)) 46 (by decide +kernel)
theorem tp47 : Cond.selects "OneBackModel" ⟨"OneBackModel", "goodLine", "(J)Z"⟩ ⟨"OneBackModel", "goodLine", "(J)Z"⟩ ∈ GT := GT_p (q := (⟨"OneBackModel", "goodLine", "(J)Z"⟩, 51)) 47 (by decide +kernel)
theorem tp48 : Cond.selects "OneBackModel" ⟨"OneBackModel", "sonLine", "()Z"⟩ ⟨"OneBackModel", "sonLine", "()Z"⟩ ∈ GT := GT_p (q := (⟨"OneBackModel", "sonLine", "()Z"⟩, 51)) 48 (by decide +kernel)
theorem tp49 : Cond.selects "OneBackModel" ⟨"OneBackModel", "keep", "(IIII)V"⟩ ⟨"OneBackModel", "keep", "(IIII)V"⟩ ∈ GT := GT_p (q := (⟨"OneBackModel", "keep", "(IIII)V"⟩, 51)) 49 (by decide +kernel)
theorem tp50 : Cond.selects "OneBackModel" ⟨"OneBackModel", "lawLine", "(J)Z"⟩ ⟨"OneBackModel", "lawLine", "(J)Z"⟩ ∈ GT := GT_p (q := (⟨"OneBackModel", "lawLine", "(J)Z"⟩, 51)) 50 (by decide +kernel)
theorem tp51 : Cond.selects "OneBackModel" ⟨"OneBackModel", "nightsLine", "(JI)Z"⟩ ⟨"OneBackModel", "nightsLine", "(JI)Z"⟩ ∈ GT := GT_p (q := (⟨"OneBackModel", "nightsLine", "(JI)Z"⟩, 51)) 51 (by decide +kernel)
theorem tp52 : Cond.selects "OneBackModel" ⟨"OneBackModel", "sightLine", "(JI)Z"⟩ ⟨"OneBackModel", "sightLine", "(JI)Z"⟩ ∈ GT := GT_p (q := (⟨"OneBackModel", "sightLine", "(JI)Z"⟩, 51)) 52 (by decide +kernel)
theorem tp53 : Cond.selects "OneBackModel" ⟨"OneBackModel", "storeAll", "(II)V"⟩ ⟨"OneBackModel", "storeAll", "(II)V"⟩ ∈ GT := GT_p (q := (⟨"OneBackModel", "storeAll", "(II)V"⟩, 51)) 53 (by decide +kernel)
theorem tp54 : Cond.selects "OneBackModel" ⟨"OneBackModel", "store", "([III)V"⟩ ⟨"OneBackModel", "store", "([III)V"⟩ ∈ GT := GT_p (q := (⟨"OneBackModel", "store", "([III)V"⟩, 51)) 54 (by decide +kernel)
theorem tp55 : Cond.selects "OneBackModel" ⟨"OneBackModel", "hand", "(I)Z"⟩ ⟨"OneBackModel", "hand", "(I)Z"⟩ ∈ GT := GT_p (q := (⟨"OneBackModel", "hand", "(I)Z"⟩, 51)) 55 (by decide +kernel)
theorem tp56 : Cond.selects "OneBackModel" ⟨"OneBackModel", "of", "(I)I"⟩ ⟨"OneBackModel", "of", "(I)I"⟩ ∈ GT := GT_p (q := (⟨"OneBackModel", "of", "(I)I"⟩, 51)) 56 (by decide +kernel)
theorem tp57 : Cond.selects "OneBackModel" ⟨"OneBackModel", "isHouse", "(I)Z"⟩ ⟨"OneBackModel", "isHouse", "(I)Z"⟩ ∈ GT := GT_p (q := (⟨"OneBackModel", "isHouse", "(I)Z"⟩, 51)) 57 (by decide +kernel)
theorem tp58 : Cond.selects "OneBackModel" ⟨"OneBackModel", "isThief", "(I)Z"⟩ ⟨"OneBackModel", "isThief", "(I)Z"⟩ ∈ GT := GT_p (q := (⟨"OneBackModel", "isThief", "(I)Z"⟩, 51)) 58 (by decide +kernel)
theorem tp59 : Cond.selects "OneBackModel" ⟨"OneBackModel", "spare", "(II)I"⟩ ⟨"OneBackModel", "spare", "(II)I"⟩ ∈ GT := GT_p (q := (⟨"OneBackModel", "spare", "(II)I"⟩, 51)) 59 (by decide +kernel)
theorem tp60 : Cond.selects "OneBackModel" ⟨"OneBackModel", "lacks", "(II)I"⟩ ⟨"OneBackModel", "lacks", "(II)I"⟩ ∈ GT := GT_p (q := (⟨"OneBackModel", "lacks", "(II)I"⟩, 51)) 60 (by decide +kernel)
theorem tp61 : Cond.selects "OneBackModel" ⟨"OneBackModel", "hasLaw", "(I)Z"⟩ ⟨"OneBackModel", "hasLaw", "(I)Z"⟩ ∈ GT := GT_p (q := (⟨"OneBackModel", "hasLaw", "(I)Z"⟩, 51)) 61 (by decide +kernel)
theorem tp62 : Cond.selects "OneBackModel" ⟨"OneBackModel", "lawOf", "(I)I"⟩ ⟨"OneBackModel", "lawOf", "(I)I"⟩ ∈ GT := GT_p (q := (⟨"OneBackModel", "lawOf", "(I)I"⟩, 51)) 62 (by decide +kernel)
theorem tp63 : Cond.selects "OneBackModel" ⟨"OneBackModel", "isDouble", "(I)Z"⟩ ⟨"OneBackModel", "isDouble", "(I)Z"⟩ ∈ GT := GT_p (q := (⟨"OneBackModel", "isDouble", "(I)Z"⟩, 51)) 63 (by decide +kernel)
theorem tp64 : Cond.selects "OneBackModel" ⟨"OneBackModel", "hasNights", "(I)Z"⟩ ⟨"OneBackModel", "hasNights", "(I)Z"⟩ ∈ GT := GT_p (q := (⟨"OneBackModel", "hasNights", "(I)Z"⟩, 51)) 64 (by decide +kernel)
theorem tp65 : Cond.selects "OneBackModel" ⟨"OneBackModel", "deeds", "()I"⟩ ⟨"OneBackModel", "deeds", "()I"⟩ ∈ GT := GT_p (q := (⟨"OneBackModel", "deeds", "()I"⟩, 51)) 65 (by decide +kernel)
theorem tp66 : Cond.selects "OneBackModel" ⟨"OneBackModel", "deedOf", "(II)I"⟩ ⟨"OneBackModel", "deedOf", "(II)I"⟩ ∈ GT := GT_p (q := (⟨"OneBackModel", "deedOf", "(II)I"⟩, 51)) 66 (by decide +kernel)
theorem tp67 : Cond.selects "OneBackModel" ⟨"OneBackModel", "layAll", "(III)Z"⟩ ⟨"OneBackModel", "layAll", "(III)Z"⟩ ∈ GT := GT_p (q := (⟨"OneBackModel", "layAll", "(III)Z"⟩, 51)) 67 (by decide +kernel)
theorem tp68 : Cond.selects "OneBackModel" ⟨"OneBackModel", "play", "(I)I"⟩ ⟨"OneBackModel", "play", "(I)I"⟩ ∈ GT := GT_p (q := (⟨"OneBackModel", "play", "(I)I"⟩, 51)) 68 (by decide +kernel)
theorem tp69 : Cond.selects "OneBackModel" ⟨"OneBackModel", "begin", "()V"⟩ ⟨"OneBackModel", "begin", "()V"⟩ ∈ GT := GT_p (q := (⟨"OneBackModel", "begin", "()V"⟩, 51)) 69 (by decide +kernel)
theorem tp70 : Cond.selects "OneBackModel" ⟨"OneBackModel", "does", "(I)Z"⟩ ⟨"OneBackModel", "does", "(I)Z"⟩ ∈ GT := GT_p (q := (⟨"OneBackModel", "does", "(I)Z"⟩, 51)) 70 (by decide +kernel)
theorem tp71 : Cond.selects "OneBackModel" ⟨"OneBackModel", "takes", "(III)Z"⟩ ⟨"OneBackModel", "takes", "(III)Z"⟩ ∈ GT := GT_p (q := (⟨"OneBackModel", "takes", "(III)Z"⟩, 51)) 71 (by decide +kernel)
theorem tp72 : Cond.selects "OneBackModel" ⟨"OneBackModel", "isFree", "(I)Z"⟩ ⟨"OneBackModel", "isFree", "(I)Z"⟩ ∈ GT := GT_p (q := (⟨"OneBackModel", "isFree", "(I)Z"⟩, 51)) 72 (by decide +kernel)
theorem tp73 : Cond.selects "OneBackModel" ⟨"OneBackModel", "gives", "(III)Z"⟩ ⟨"OneBackModel", "gives", "(III)Z"⟩ ∈ GT := GT_p (q := (⟨"OneBackModel", "gives", "(III)Z"⟩, 51)) 73 (by decide +kernel)
theorem tp74 : Cond.selects "OneBackModel" ⟨"OneBackModel", "mayGive", "(III)Z"⟩ ⟨"OneBackModel", "mayGive", "(III)Z"⟩ ∈ GT := GT_p (q := (⟨"OneBackModel", "mayGive", "(III)Z"⟩, 51)) 74 (by decide +kernel)
theorem tp75 : Cond.selects "OneBackModel" ⟨"OneBackModel", "sets", "(III)Z"⟩ ⟨"OneBackModel", "sets", "(III)Z"⟩ ∈ GT := GT_p (q := (⟨"OneBackModel", "sets", "(III)Z"⟩, 51)) 75 (by decide +kernel)
theorem tp76 : Cond.selects "OneBackModel" ⟨"OneBackModel", "owes", "(I)I"⟩ ⟨"OneBackModel", "owes", "(I)I"⟩ ∈ GT := GT_p (q := (⟨"OneBackModel", "owes", "(I)I"⟩, 51)) 76 (by decide +kernel)
theorem tp77 : Cond.selects "OneBackModel" ⟨"OneBackModel", "ends", "()V"⟩ ⟨"OneBackModel", "ends", "()V"⟩ ∈ GT := GT_p (q := (⟨"OneBackModel", "ends", "()V"⟩, 51)) 77 (by decide +kernel)
theorem tp78 : Cond.selects "OneBackModel" ⟨"OneBackModel", "layState", "(IIII)Z"⟩ ⟨"OneBackModel", "layState", "(IIII)Z"⟩ ∈ GT := GT_p (q := (⟨"OneBackModel", "layState", "(IIII)Z"⟩, 51)) 78 (by decide +kernel)
theorem tp79 : Cond.selects "OneBackModel" ⟨"OneBackModel", "queued", "(I)I"⟩ ⟨"OneBackModel", "queued", "(I)I"⟩ ∈ GT := GT_p (q := (⟨"OneBackModel", "queued", "(I)I"⟩, 51)) 79 (by decide +kernel)
theorem tp80 : Cond.selects "OneBackModel" ⟨"OneBackModel", "odd", "(I)I"⟩ ⟨"OneBackModel", "odd", "(I)I"⟩ ∈ GT := GT_p (q := (⟨"OneBackModel", "odd", "(I)I"⟩, 51)) 80 (by decide +kernel)
theorem tp81 : Cond.selects "OneBackModel" ⟨"OneBackModel", "ofState", "(I)I"⟩ ⟨"OneBackModel", "ofState", "(I)I"⟩ ∈ GT := GT_p (q := (⟨"OneBackModel", "ofState", "(I)I"⟩, 51)) 81 (by decide +kernel)
theorem tp82 : Cond.selects "OneBackModel" ⟨"OneBackModel", "want", "()I"⟩ ⟨"OneBackModel", "want", "()I"⟩ ∈ GT := GT_p (q := (⟨"OneBackModel", "want", "()I"⟩, 51)) 82 (by decide +kernel)
theorem tp83 : Cond.selects "OneBackModel" ⟨"OneBackModel", "pious", "()I"⟩ ⟨"OneBackModel", "pious", "()I"⟩ ∈ GT := GT_p (q := (⟨"OneBackModel", "pious", "()I"⟩, 51)) 83 (by decide +kernel)
theorem tp84 : Cond.selects "OneBackModel" ⟨"OneBackModel", "ofEach", "(I)I"⟩ ⟨"OneBackModel", "ofEach", "(I)I"⟩ ∈ GT := GT_p (q := (⟨"OneBackModel", "ofEach", "(I)I"⟩, 51)) 84 (by decide +kernel)
theorem tp85 : Cond.selects "OneBackModel" ⟨"OneBackModel", "findAid", "()Z"⟩ ⟨"OneBackModel", "findAid", "()Z"⟩ ∈ GT := GT_p (q := (⟨"OneBackModel", "findAid", "()Z"⟩, 51)) 85 (by decide +kernel)
theorem tp86 : Cond.selects "OneBackModel" ⟨"OneBackModel", "aidGood", "(I)Z"⟩ ⟨"OneBackModel", "aidGood", "(I)Z"⟩ ∈ GT := GT_p (q := (⟨"OneBackModel", "aidGood", "(I)Z"⟩, 51)) 86 (by decide +kernel)
theorem tp87 : Cond.selects "OneBackModel" ⟨"OneBackModel", "aidNights", "()I"⟩ ⟨"OneBackModel", "aidNights", "()I"⟩ ∈ GT := GT_p (q := (⟨"OneBackModel", "aidNights", "()I"⟩, 51)) 87 (by decide +kernel)
theorem tp88 : Cond.selects "OneBackModel" ⟨"OneBackModel", "carryGood", "(I)I"⟩ ⟨"OneBackModel", "carryGood", "(I)I"⟩ ∈ GT := GT_p (q := (⟨"OneBackModel", "carryGood", "(I)I"⟩, 51)) 88 (by decide +kernel)
theorem tp89 : Cond.selects "OneBackModel" ⟨"OneBackModel", "carryOn", "(II)V"⟩ ⟨"OneBackModel", "carryOn", "(II)V"⟩ ∈ GT := GT_p (q := (⟨"OneBackModel", "carryOn", "(II)V"⟩, 51)) 89 (by decide +kernel)
theorem tp90 : Cond.selects "OneBackModel" ⟨"OneBackModel", "roundOf", "(I)I"⟩ ⟨"OneBackModel", "roundOf", "(I)I"⟩ ∈ GT := GT_p (q := (⟨"OneBackModel", "roundOf", "(I)I"⟩, 51)) 90 (by decide +kernel)
theorem tp91 : Cond.selects "OneBackModel" ⟨"OneBackModel", "hasSight", "(I)Z"⟩ ⟨"OneBackModel", "hasSight", "(I)Z"⟩ ∈ GT := GT_p (q := (⟨"OneBackModel", "hasSight", "(I)Z"⟩, 51)) 91 (by decide +kernel)
theorem tp92 : Cond.selects "OneBackModel" ⟨"OneBackModel", "gifts", "()I"⟩ ⟨"OneBackModel", "gifts", "()I"⟩ ∈ GT := GT_p (q := (⟨"OneBackModel", "gifts", "()I"⟩, 51)) 92 (by decide +kernel)
theorem tp93 : Cond.selects "OneBackModel" ⟨"OneBackModel", "giftOf", "(II)I"⟩ ⟨"OneBackModel", "giftOf", "(II)I"⟩ ∈ GT := GT_p (q := (⟨"OneBackModel", "giftOf", "(II)I"⟩, 51)) 93 (by decide +kernel)
theorem tp94 : Cond.selects "OneBackModel" ⟨"OneBackModel", "left", "(II)I"⟩ ⟨"OneBackModel", "left", "(II)I"⟩ ∈ GT := GT_p (q := (⟨"OneBackModel", "left", "(II)I"⟩, 51)) 94 (by decide +kernel)
theorem tp95 : Cond.selects "OneBackModel" ⟨"OneBackModel", "canBe", "(I)Z"⟩ ⟨"OneBackModel", "canBe", "(I)Z"⟩ ∈ GT := GT_p (q := (⟨"OneBackModel", "canBe", "(I)Z"⟩, 51)) 95 (by decide +kernel)
theorem tp96 : Cond.selects "OneBackModel" ⟨"OneBackModel", "isToldAll", "(I)Z"⟩ ⟨"OneBackModel", "isToldAll", "(I)Z"⟩ ∈ GT := GT_p (q := (⟨"OneBackModel", "isToldAll", "(I)Z"⟩, 51)) 96 (by decide +kernel)
theorem tp97 : Cond.selects "OneBackModel" ⟨"OneBackModel", "giftsBy", "(IIII)I"⟩ ⟨"OneBackModel", "giftsBy", "(IIII)I"⟩ ∈ GT := GT_p (q := (⟨"OneBackModel", "giftsBy", "(IIII)I"⟩, 51)) 97 (by decide +kernel)
theorem tp98 : Cond.selects "OneBackModel" ⟨"OneBackModel", "doubles", "(II)I"⟩ ⟨"OneBackModel", "doubles", "(II)I"⟩ ∈ GT := GT_p (q := (⟨"OneBackModel", "doubles", "(II)I"⟩, 51)) 98 (by decide +kernel)
theorem tp99 : Cond.selects "OneBackModel" ⟨"OneBackModel", "prizeOf", "(II)I"⟩ ⟨"OneBackModel", "prizeOf", "(II)I"⟩ ∈ GT := GT_p (q := (⟨"OneBackModel", "prizeOf", "(II)I"⟩, 51)) 99 (by decide +kernel)
theorem tp100 : Cond.selects "OneBackModel" ⟨"OneBackModel", "worthOf", "(I)I"⟩ ⟨"OneBackModel", "worthOf", "(I)I"⟩ ∈ GT := GT_p (q := (⟨"OneBackModel", "worthOf", "(I)I"⟩, 51)) 100 (by decide +kernel)
theorem tp101 : Cond.selects "OneBackModel" ⟨"OneBackModel", "isRest", "(II)Z"⟩ ⟨"OneBackModel", "isRest", "(II)Z"⟩ ∈ GT := GT_p (q := (⟨"OneBackModel", "isRest", "(II)Z"⟩, 51)) 101 (by decide +kernel)
theorem tp102 : Cond.selects "OneBackModel" ⟨"OneBackModel", "drawThief", "(I)V"⟩ ⟨"OneBackModel", "drawThief", "(I)V"⟩ ∈ GT := GT_p (q := (⟨"OneBackModel", "drawThief", "(I)V"⟩, 51)) 102 (by decide +kernel)
theorem tp103 : Cond.selects "OneBackModel" ⟨"OneBackModel", "draw", "(I)I"⟩ ⟨"OneBackModel", "draw", "(I)I"⟩ ∈ GT := GT_p (q := (⟨"OneBackModel", "draw", "(I)I"⟩, 51)) 103 (by decide +kernel)
theorem tp104 : Cond.selects "OneBackModel" ⟨"OneBackModel", "givesOne", "(I)Z"⟩ ⟨"OneBackModel", "givesOne", "(I)Z"⟩ ∈ GT := GT_p (q := (⟨"OneBackModel", "givesOne", "(I)Z"⟩, 51)) 104 (by decide +kernel)
theorem tp105 : Cond.selects "OneBackModel" ⟨"OneBackModel", "can", "(I)I"⟩ ⟨"OneBackModel", "can", "(I)I"⟩ ∈ GT := GT_p (q := (⟨"OneBackModel", "can", "(I)I"⟩, 51)) 105 (by decide +kernel)
theorem tp106 : Cond.selects "OneBackModel" ⟨"OneBackModel", "wealthOf", "(I)I"⟩ ⟨"OneBackModel", "wealthOf", "(I)I"⟩ ∈ GT := GT_p (q := (⟨"OneBackModel", "wealthOf", "(I)I"⟩, 51)) 106 (by decide +kernel)
theorem tp107 : Cond.selects "OneBackModel" ⟨"OneBackModel", "ranked", "(I)I"⟩ ⟨"OneBackModel", "ranked", "(I)I"⟩ ∈ GT := GT_p (q := (⟨"OneBackModel", "ranked", "(I)I"⟩, 51)) 107 (by decide +kernel)
theorem tp108 : Cond.selects "OneBackModel" ⟨"OneBackModel", "settle", "()I"⟩ ⟨"OneBackModel", "settle", "()I"⟩ ∈ GT := GT_p (q := (⟨"OneBackModel", "settle", "()I"⟩, 51)) 108 (by decide +kernel)
theorem tp109 : Cond.selects "OneBackModel" ⟨"OneBackModel", "areKin", "(II)Z"⟩ ⟨"OneBackModel", "areKin", "(II)Z"⟩ ∈ GT := GT_p (q := (⟨"OneBackModel", "areKin", "(II)Z"⟩, 51)) 109 (by decide +kernel)
theorem tp110 : Cond.selects "OneBackModel" ⟨"OneBackModel", "gap", "()I"⟩ ⟨"OneBackModel", "gap", "()I"⟩ ∈ GT := GT_p (q := (⟨"OneBackModel", "gap", "()I"⟩, 51)) 110 (by decide +kernel)
theorem tp111 : Cond.selects "OneBackModel" ⟨"OneBackModel", "unlike", "(Z)I"⟩ ⟨"OneBackModel", "unlike", "(Z)I"⟩ ∈ GT := GT_p (q := (⟨"OneBackModel", "unlike", "(Z)I"⟩, 51)) 111 (by decide +kernel)
theorem tp112 : Cond.selects "OneBackModel" ⟨"OneBackModel", "robbed", "()I"⟩ ⟨"OneBackModel", "robbed", "()I"⟩ ∈ GT := GT_p (q := (⟨"OneBackModel", "robbed", "()I"⟩, 51)) 112 (by decide +kernel)
theorem tp113 : Cond.selects "OneBackModel" ⟨"OneBackModel", "haulWorth", "(IIII)I"⟩ ⟨"OneBackModel", "haulWorth", "(IIII)I"⟩ ∈ GT := GT_p (q := (⟨"OneBackModel", "haulWorth", "(IIII)I"⟩, 51)) 113 (by decide +kernel)
theorem tp114 : Cond.selects "OneBackModel" ⟨"OneBackModel", "limits", "(I)I"⟩ ⟨"OneBackModel", "limits", "(I)I"⟩ ∈ GT := GT_p (q := (⟨"OneBackModel", "limits", "(I)I"⟩, 51)) 114 (by decide +kernel)
theorem tp115 : Cond.selects "OneBackModel" ⟨"OneBackModel", "heads", "(I)I"⟩ ⟨"OneBackModel", "heads", "(I)I"⟩ ∈ GT := GT_p (q := (⟨"OneBackModel", "heads", "(I)I"⟩, 51)) 115 (by decide +kernel)
theorem tp116 : Cond.selects "OneBackModel" ⟨"OneBackModel", "helps", "(II)Z"⟩ ⟨"OneBackModel", "helps", "(II)Z"⟩ ∈ GT := GT_p (q := (⟨"OneBackModel", "helps", "(II)Z"⟩, 51)) 116 (by decide +kernel)
theorem tp117 : Cond.selects "OneBackModel" ⟨"OneBackModel", "copyAll", "(II)V"⟩ ⟨"OneBackModel", "copyAll", "(II)V"⟩ ∈ GT := GT_p (q := (⟨"OneBackModel", "copyAll", "(II)V"⟩, 51)) 117 (by decide +kernel)
theorem inX0 : ∀ w ∈ u_ws RX0 TX0 3, w ∈ GT := inGT (by decide +kernel)
theorem ftX0 : ∀ j, j < 3 → tOKb (tyX0 j) = true := by decide +kernel
theorem inX1 : ∀ w ∈ u_ws RX1 TX1 5, w ∈ GT := inGT (by decide +kernel)
theorem ftX1 : ∀ j, j < 5 → tOKb (tyX1 j) = true := by decide +kernel
theorem inX2 : ∀ w ∈ u_ws RX2 TX2 5, w ∈ GT := inGT (by decide +kernel)
theorem ftX2 : ∀ j, j < 5 → tOKb (tyX2 j) = true := by decide +kernel
theorem inX3 : ∀ w ∈ u_ws RX3 TX3 16, w ∈ GT := inGT (by decide +kernel)
theorem ftX3 : ∀ j, j < 16 → tOKb (tyX3 j) = true := by decide +kernel
theorem inX4 : ∀ w ∈ u_ws RX4 TX4 4, w ∈ GT := inGT (by decide +kernel)
theorem ftX4 : ∀ j, j < 4 → tOKb (tyX4 j) = true := by decide +kernel
theorem inX5 : ∀ w ∈ u_ws RX5 TX5 2, w ∈ GT := inGT (by decide +kernel)
theorem ftX5 : ∀ j, j < 2 → tOKb (tyX5 j) = true := by decide +kernel
theorem inX6 : ∀ w ∈ u_ws RX6 TX6 9, w ∈ GT := inGT (by decide +kernel)
theorem ftX6 : ∀ j, j < 9 → tOKb (tyX6 j) = true := by decide +kernel
theorem inX7 : ∀ w ∈ u_ws RX7 TX7 10, w ∈ GT := inGT (by decide +kernel)
theorem ftX7 : ∀ j, j < 10 → tOKb (tyX7 j) = true := by decide +kernel
theorem inX9 : ∀ w ∈ u_ws RX9 TX9 17, w ∈ GT := inGT (by decide +kernel)
theorem ftX9 : ∀ j, j < 17 → tOKb (tyX9 j) = true := by decide +kernel
theorem inX10 : ∀ w ∈ u_ws RX10 TX10 6, w ∈ GT := inGT (by decide +kernel)
theorem ftX10 : ∀ j, j < 6 → tOKb (tyX10 j) = true := by decide +kernel
theorem inX11 : ∀ w ∈ u_ws RX11 TX11 51, w ∈ GT := inGT (by decide +kernel)
theorem ftX11 : ∀ j, j < 51 → tOKb (tyX11 j) = true := by decide +kernel
end
section
def imax (x y : Int) : Int := if x < y then y else x
def imin (x y : Int) : Int := if y < x then y else x
def iabs (x : Int) : Int := if 0 ≤ x then x else w32 (0 - x)
section RulesK
variable {ρ : Type} {mi : MI} {d b0 b1 bc bs pc : Nat} {ls ls' : List (Option PV)} {st : List PV} {M : Mem} {dec : ρ → Option PV × Mem} {X A B : Option ρ}
theorem v_mmax {x y : Int} {index : Nat} (hlk : Cond.methodLink mi.1.cls index Lib.Math.max.name ∈ GT) (h2 : Cond.static Lib.Math.max.name ∈ GT) (h3 : Cond.initialized "java/lang/Math" ∈ GT) (h4 : Cond.code Lib.Math.max.name Lib.Math.max.code 2 (some .int) ∈ GT) (hst : st.length ≤ 10) (hd : decode mi.2.1 pc = .ok (.invokestatic index, 3))
    (kk : V mi (d + 1) b0 b1 bc bs (pc + 3) ls (pI (imax x y) :: st) M dec X) : V mi (d + 1) b0 b1 bc bs pc ls (pI y :: pI x :: st) M dec X := by
  refine v_step kk (fun hM hL hS => ⟨hM, hL, okS_cons.mpr ⟨?_, (okS_cons.mp (okS_cons.mp hS).2).2⟩⟩) (fun hM hL hS G b p l e s m args below meth c Q Cc H locs cells slots lsA D w => ?_)
  · have h1 := (okS_cons.mp hS).1; have h2 := (okS_cons.mp (okS_cons.mp hS).2).1
    show r32 (imax x y); unfold imax; split
    · exact h1
    · exact h2
  have hy := (okS_cons.mp hS).1; have hx := (okS_cons.mp (okS_cons.mp hS).2).1
  have hts := Cc.2.2.2.2.2.1
  have hs := wd_sum (b := b) (cs := G.2.2.2.1) st
  have w2 := w H locs cells slots lsA D
  refine va_mmax Cc.1 Cc.2.1 (by rw [Cc.2.2.2.1]; exact D.2.2.2.1.1.symm) Cc.2.2.2.2.1 (hts _ hlk) (hts _ h2) (hts _ h3) (hts _ h4) (show 1 ≤ d + 1 by omega) (by show _ ≤ 64 * (d + 1); omega) (by have := D.2.2.2.2.1; show cells ≤ b0; omega) (by have := D.2.2.2.2.2; show slots ≤ b1; omega) hd ?_
  simp only [List.map_cons, eV, imax] at w2
  by_cases hq : x < y
  · rw [if_pos hq] at w2; rw [if_pos ((q_lt hx hy).mpr hq)]; exact w2
  · rw [if_neg hq] at w2; rw [if_neg (fun z => hq ((q_lt hx hy).mp z))]; exact w2
theorem v_mmin {x y : Int} {index : Nat} (hlk : Cond.methodLink mi.1.cls index Lib.Math.min.name ∈ GT) (h2 : Cond.static Lib.Math.min.name ∈ GT) (h3 : Cond.initialized "java/lang/Math" ∈ GT) (h4 : Cond.code Lib.Math.min.name Lib.Math.min.code 2 (some .int) ∈ GT) (hst : st.length ≤ 10) (hd : decode mi.2.1 pc = .ok (.invokestatic index, 3))
    (kk : V mi (d + 1) b0 b1 bc bs (pc + 3) ls (pI (imin x y) :: st) M dec X) : V mi (d + 1) b0 b1 bc bs pc ls (pI y :: pI x :: st) M dec X := by
  refine v_step kk (fun hM hL hS => ⟨hM, hL, okS_cons.mpr ⟨?_, (okS_cons.mp (okS_cons.mp hS).2).2⟩⟩) (fun hM hL hS G b p l e s m args below meth c Q Cc H locs cells slots lsA D w => ?_)
  · have h1 := (okS_cons.mp hS).1; have h2 := (okS_cons.mp (okS_cons.mp hS).2).1
    show r32 (imin x y); unfold imin; split
    · exact h1
    · exact h2
  have hy := (okS_cons.mp hS).1; have hx := (okS_cons.mp (okS_cons.mp hS).2).1
  have hts := Cc.2.2.2.2.2.1
  have hs := wd_sum (b := b) (cs := G.2.2.2.1) st
  have w2 := w H locs cells slots lsA D
  refine va_mmin Cc.1 Cc.2.1 (by rw [Cc.2.2.2.1]; exact D.2.2.2.1.1.symm) Cc.2.2.2.2.1 (hts _ hlk) (hts _ h2) (hts _ h3) (hts _ h4) (show 1 ≤ d + 1 by omega) (by show _ ≤ 64 * (d + 1); omega) (by have := D.2.2.2.2.1; show cells ≤ b0; omega) (by have := D.2.2.2.2.2; show slots ≤ b1; omega) hd ?_
  simp only [List.map_cons, eV, imin] at w2
  by_cases hq : y < x
  · rw [if_pos hq] at w2; rw [if_pos ((q_lt hy hx).mpr hq)]; exact w2
  · rw [if_neg hq] at w2; rw [if_neg (fun z => hq ((q_lt hy hx).mp z))]; exact w2
theorem v_mabs {x : Int} {index : Nat} (hlk : Cond.methodLink mi.1.cls index Lib.Math.abs.name ∈ GT) (h2 : Cond.static Lib.Math.abs.name ∈ GT) (h3 : Cond.initialized "java/lang/Math" ∈ GT) (h4 : Cond.code Lib.Math.abs.name Lib.Math.abs.code 1 (some .int) ∈ GT) (hst : st.length ≤ 10) (hd : decode mi.2.1 pc = .ok (.invokestatic index, 3))
    (kk : V mi (d + 1) b0 b1 bc bs (pc + 3) ls (pI (iabs x) :: st) M dec X) : V mi (d + 1) b0 b1 bc bs pc ls (pI x :: st) M dec X := by
  refine v_step kk (fun hM hL hS => ⟨hM, hL, okS_cons.mpr ⟨?_, (okS_cons.mp hS).2⟩⟩) (fun hM hL hS G b p l e s m args below meth c Q Cc H locs cells slots lsA D w => ?_)
  · have h1 := (okS_cons.mp hS).1
    show r32 (iabs x); unfold iabs; split
    · exact h1
    · exact w32_r _
  have hx := (okS_cons.mp hS).1
  have hts := Cc.2.2.2.2.2.1
  have hs := wd_sum (b := b) (cs := G.2.2.2.1) st
  have w2 := w H locs cells slots lsA D
  refine va_mabs Cc.1 Cc.2.1 (by rw [Cc.2.2.2.1]; exact D.2.2.2.1.1.symm) Cc.2.2.2.2.1 (hts _ hlk) (hts _ h2) (hts _ h3) (hts _ h4) (show 1 ≤ d + 1 by omega) (by show _ ≤ 64 * (d + 1); omega) (by have := D.2.2.2.2.1; show cells ≤ b0; omega) (by have := D.2.2.2.2.2; show slots ≤ b1; omega) hd ?_
  simp only [List.map_cons, eV, iabs] at w2
  by_cases hq : 0 ≤ x
  · rw [if_pos hq] at w2; rw [if_pos (by have := (q_le r32_0 hx).mpr hq; rw [q_0] at this; exact this)]; exact w2
  · rw [if_neg hq] at w2; rw [if_neg (fun z => hq ((q_le r32_0 hx).mp (by rw [q_0]; exact z)))]
    rw [← q_sub, q_0] at w2; exact w2
def wsz : List PV → Nat
  | [] => 0
  | .inr (.inl _) :: r => 2 + wsz r
  | _ :: r => 1 + wsz r
theorem wsz_sum {b : Nat} {cs : Nat → Nat} : ∀ (st : List PV), ((st.map (eV b cs)).map fun v => v.category).sum = wsz st
  | [] => rfl
  | .inl x :: st => by
    have := wsz_sum (b := b) (cs := cs) st
    simp only [List.map_cons, List.sum_cons, this, wsz]; rfl
  | .inr (.inl x) :: st => by
    have := wsz_sum (b := b) (cs := cs) st
    simp only [List.map_cons, List.sum_cons, this, wsz]; rfl
  | .inr (.inr x) :: st => by
    have := wsz_sum (b := b) (cs := cs) st
    simp only [List.map_cons, List.sum_cons, this, wsz]
    rw [show (eV b cs (.inr (.inr x))).category = 1 from eR_cat b cs x]
theorem hW_of2 {b : Nat} {cs : Nat → Nat} {m : MethodId} {pc : Nat} {lsA : Array Slot} {rest : List Value} (h : wsz st ≤ 8) : 2 * (F0 m pc lsA rest).monitorRoom + ((st.map (eV b cs)).map fun v => v.category).sum ≤ 8 :=
  lv_room (by rw [wsz_sum]; exact h)
theorem v_dV {ρ' : Type} {dec' : ρ' → Option PV × Mem} {X' : Option ρ'} {K : ρ' → Option ρ} {mi' : MI} {c0 c1 index ci n : Nat} {C : String} {T : u_T} {N : Nat} {a : Int} {As : List PV} (hC : Ct mi' d c0 c1 (pA a :: As) M dec' X') (hc : vwCl[ci]? = some (C, T, N)) (ha : M.2.1 a = (ci : Int)) (hcls : mi'.1.cls = C) (ho : cok mi' n)
    (hlk : Cond.methodLink mi.1.cls index mi'.1 ∈ GT ∨ (mi.1.cls, index, mi'.1, "OneBack") ∈ NW) (him : Cond.instanceMethod mi'.1 ∈ GT) (hse : Cond.selects C mi'.1 mi'.1 ∈ GT) (hn : As.length = n) (hst : wsz st ≤ 8) (hd : decode mi.2.1 pc = .ok (.invokevirtual index, 3))
    (k : ∀ r, X' = some r → V mi (d + 1) b0 b1 bc bs (pc + 3) ls ((dec' r).1.toList ++ st) (dec' r).2 dec (K r)) {st0 : List PV} (hs0 : st0 = As.reverse ++ pA a :: st) : V mi (d + 1) b0 b1 (bc + c0) (bs + c1) pc ls st0 M dec (X'.bind K) := by
  subst hs0
  obtain ⟨c10, -⟩ := cls_n hc
  refine v_callR hC (fun h => ⟨fun v hv => h v (by simp only [List.mem_append, List.mem_cons, List.mem_reverse] at hv ⊢; rcases hv with q | q <;> simp [q]), fun v hv => h v (by simp [hv])⟩) k (fun hM G b p l e s m args below meth c r Cc H locs cells slots lsA D mt => ?_)
  obtain ⟨o1, o2, o3, o4, o5, o6⟩ := ho
  obtain ⟨a0, a1, a2⟩ := wsM_get (cA := G.2.2.1) (b := b) hM (a := a) (by rw [ha]; omega)
  rw [cE_obj (k := (ci : Int)) (by rw [toNat_c a0]; exact ha) (by omega), Int.toNat_natCast] at a2
  have hts := Cc.2.2.2.2.2.1
  have hA := Cc.2.2.2.2.2.2.2.2.1
  have hgood : GoodIn GT (.code mi'.1 mi'.2.1 mi'.2.2.1 mi'.2.2.2 :: GT) := gIn (fun w hw => (List.mem_cons.mp hw).elim (fun e => by rw [e]; exact o1) id)
  have hp : PreV s H C (b + a.toNat) (PcR G b (pA a :: As) M) (As.map (eV b G.2.2.2.1)) := ⟨pcR_blind, va_recv hA.1 D.2.1 hc a2, fun U hU hW => by
    have := pcR_at (As := pA a :: As) hA D U hU hW
    simp only [List.map_cons, eV] at this
    rw [eR_nn a0] at this
    exact this⟩
  have e9 : ((pA a :: As).map (eV b G.2.2.2.1)).toArray = (Value.ref (b + a.toNat) :: As.map (eV b G.2.2.2.1)).toArray := by simp only [List.map_cons, eV]; rw [eR_nn a0]
  have e8 : (As.reverse ++ pA a :: st).map (eV b G.2.2.2.1) = (As.map (eV b G.2.2.2.1)).reverse ++ .ref (b + a.toNat) :: st.map (eV b G.2.2.2.1) := by
    rw [List.map_append, List.map_reverse, List.map_cons]; simp only [eV]; rw [eR_nn a0]
  have hR : (rmD d c0 c1).frames + 1 ≤ (rmD (d + 1) b0 b1).frames ∧ 8 + (mi'.2.2.1 + 11) + (rmD d c0 c1).locals ≤ (rmD (d + 1) b0 b1).locals := ⟨Nat.le_refl _, by show 8 + (mi'.2.2.1 + 11) + 64 * d ≤ 64 * (d + 1); omega⟩
  obtain ⟨D1, D2, D3, D4, D5, D6⟩ := id D
  rw [e9, e8]
  rcases hlk with hlk | hlk
  · refine va_runV (Ts := GT) (nL := mi.2.2.1) (n := n) ⟨Cc.1, Cc.2.1, Cc.2.2.2.1, Cc.2.2.2.2.1, hts⟩ mt (cwV n hts (C := C) (gIn (fun w hw => ?_)) rfl rfl rfl ⟨hcls, o4, o5, o6⟩ hR) hp rfl (by rw [List.length_map]; exact hn) D4.1 rfl (hW_of2 hst) hd ⟨by show cells + c0 ≤ b0; omega, by show slots + c1 ≤ b1; omega⟩
    unfold wsV at hw
    rcases List.mem_append.mp hw with h | h
    · simp only [List.mem_cons, List.not_mem_nil, or_false] at h
      rcases h with rfl | rfl | rfl | rfl
      · exact hlk
      · exact him
      · exact hse
      · rw [← hcls]; exact o2
    · exact (hgood w h).1
  · exact va_runVN (Ts := GT) (nL := mi.2.2.1) (n := n) (C := C) ⟨Cc.1, Cc.2.1, Cc.2.2.2.1, Cc.2.2.2.2.1, hts⟩ mt ⟨va_cnB n hts hgood rfl rfl rfl (hA.2.1 _ hlk) (hts _ o2) ⟨o4, o5, o6⟩ hR, hts _ him, hts _ hse⟩ hp rfl (by rw [List.length_map]; exact hn) D4.1 rfl (hW_of2 hst) hd ⟨by show cells + c0 ≤ b0; omega, by show slots + c1 ≤ b1; omega⟩
theorem v_dS {ρ' : Type} {dec' : ρ' → Option PV × Mem} {X' : Option ρ'} {K : ρ' → Option ρ} {mi' : MI} {c0 c1 index n : Nat} {As : List PV} (hC : Ct mi' d c0 c1 As M dec' X') (ho : cok mi' n)
    (hlk : Cond.methodLink mi.1.cls index mi'.1 ∈ GT ∨ (mi.1.cls, index, mi'.1, "OneBack") ∈ NW) (hsta : Cond.static mi'.1 ∈ GT) (hn : As.length = n) (hst : wsz st ≤ 8) (hd : decode mi.2.1 pc = .ok (.invokestatic index, 3))
    (k : ∀ r, X' = some r → V mi (d + 1) b0 b1 bc bs (pc + 3) ls ((dec' r).1.toList ++ st) (dec' r).2 dec (K r)) {st0 : List PV} (hs0 : st0 = As.reverse ++ st) : V mi (d + 1) b0 b1 (bc + c0) (bs + c1) pc ls st0 M dec (X'.bind K) := by
  subst hs0
  refine v_callR hC (fun h => ⟨fun v hv => h v (by simp [hv]), fun v hv => h v (by simp [hv])⟩) k (fun hM G b p l e s m args below meth c r Cc H locs cells slots lsA D mt => ?_)
  obtain ⟨o1, o2, o3, o4, o5, o6⟩ := ho
  have hts := Cc.2.2.2.2.2.1
  have hA := Cc.2.2.2.2.2.2.2.2.1
  have hgood : GoodIn GT (.code mi'.1 mi'.2.1 mi'.2.2.1 mi'.2.2.2 :: GT) := gIn (fun w hw => (List.mem_cons.mp hw).elim (fun e => by rw [e]; exact o1) id)
  have hp : PreS s H (PcR G b As M) (As.map (eV b G.2.2.2.1)) := ⟨pcR_blind, pcR_at hA D⟩
  have e8 : (As.reverse ++ st).map (eV b G.2.2.2.1) = (As.map (eV b G.2.2.2.1)).reverse ++ st.map (eV b G.2.2.2.1) := by rw [List.map_append, List.map_reverse]
  have hR : (rmD d c0 c1).frames + 1 ≤ (rmD (d + 1) b0 b1).frames ∧ 8 + (mi'.2.2.1 + 11) + (rmD d c0 c1).locals ≤ (rmD (d + 1) b0 b1).locals := ⟨Nat.le_refl _, by show 8 + (mi'.2.2.1 + 11) + 64 * d ≤ 64 * (d + 1); omega⟩
  obtain ⟨D1, D2, D3, D4, D5, D6⟩ := id D
  rw [e8]
  rcases hlk with hlk | hlk
  · exact va_runS (Ts := GT) (nL := mi.2.2.1) (n := n) ⟨Cc.1, Cc.2.1, Cc.2.2.2.1, Cc.2.2.2.2.1, hts⟩ mt ⟨callB_of n hts hgood rfl rfl rfl (hts _ o2) (hts _ hlk) ⟨o4, o5, o6⟩ hR, hts _ hsta⟩ hp rfl (by rw [List.length_map]; exact hn) D4.1 rfl (hW_of2 hst) hd ⟨by show cells + c0 ≤ b0; omega, by show slots + c1 ≤ b1; omega⟩
  · exact va_runSN (Ts := GT) (nL := mi.2.2.1) (n := n) ⟨Cc.1, Cc.2.1, Cc.2.2.2.1, Cc.2.2.2.2.1, hts⟩ mt ⟨va_cnB n hts hgood rfl rfl rfl (hA.2.1 _ hlk) (hts _ o2) ⟨o4, o5, o6⟩ hR, hts _ hsta, trivial⟩ hp rfl (by rw [List.length_map]; exact hn) D4.1 rfl (hW_of2 hst) hd ⟨by show cells + c0 ≤ b0; omega, by show slots + c1 ≤ b1; omega⟩
theorem v_dI {ρ' : Type} {dec' : ρ' → Option PV × Mem} {X' : Option ρ'} {K : ρ' → Option ρ} {mi' : MI} {c0 c1 index n : Nat} {a : Int} {As : List PV} (hC : Ct mi' d c0 c1 (pA a :: As) M dec' X') (ha : 0 ≤ a) (ho : cok mi' n) (hret : mi'.2.2.2 = none) (hnm : mi'.1.name = "<init>")
    (hlk : Cond.methodLink mi.1.cls index mi'.1 ∈ GT ∨ (mi.1.cls, index, mi'.1, "OneBack") ∈ NW) (him : Cond.instanceMethod mi'.1 ∈ GT) (hn : As.length = n) (hst : wsz st ≤ 8) (hd : decode mi.2.1 pc = .ok (.invokespecial index, 3))
    (k : ∀ r, X' = some r → V mi (d + 1) b0 b1 bc bs (pc + 3) ls ((dec' r).1.toList ++ st) (dec' r).2 dec (K r)) {st0 : List PV} (hs0 : st0 = As.reverse ++ pA a :: st) : V mi (d + 1) b0 b1 (bc + c0) (bs + c1) pc ls st0 M dec (X'.bind K) := by
  subst hs0
  refine v_callR hC (fun h => ⟨fun v hv => h v (by simp only [List.mem_append, List.mem_cons, List.mem_reverse] at hv ⊢; rcases hv with q | q <;> simp [q]), fun v hv => h v (by simp [hv])⟩) k (fun hM G b p l e s m args below meth c r Cc H locs cells slots lsA D mt => ?_)
  obtain ⟨o1, o2, o3, o4, o5, o6⟩ := ho
  have hts := Cc.2.2.2.2.2.1
  have hA := Cc.2.2.2.2.2.2.2.2.1
  have hgood : GoodIn GT (.code mi'.1 mi'.2.1 mi'.2.2.1 mi'.2.2.2 :: GT) := gIn (fun w hw => (List.mem_cons.mp hw).elim (fun e => by rw [e]; exact o1) id)
  have e7 : (pA a :: As).map (eV b G.2.2.2.1) = Value.ref (b + a.toNat) :: As.map (eV b G.2.2.2.1) := by simp only [List.map_cons, eV]; rw [eR_nn ha]
  have hp : PreS s H (PcR G b (pA a :: As) M) (.ref (b + a.toNat) :: As.map (eV b G.2.2.2.1)) := ⟨pcR_blind, fun U hU hW => by
    have := pcR_at (As := pA a :: As) hA D U hU hW
    rw [e7] at this
    exact this⟩
  have e8 : (As.reverse ++ pA a :: st).map (eV b G.2.2.2.1) = (As.map (eV b G.2.2.2.1)).reverse ++ .ref (b + a.toNat) :: st.map (eV b G.2.2.2.1) := by
    rw [List.map_append, List.map_reverse, List.map_cons]; simp only [eV]; rw [eR_nn ha]
  have hR : (rmD d c0 c1).frames + 1 ≤ (rmD (d + 1) b0 b1).frames ∧ 8 + (mi'.2.2.1 + 11) + (rmD d c0 c1).locals ≤ (rmD (d + 1) b0 b1).locals := ⟨Nat.le_refl _, by show 8 + (mi'.2.2.1 + 11) + 64 * d ≤ 64 * (d + 1); omega⟩
  obtain ⟨D1, D2, D3, D4, D5, D6⟩ := id D
  rw [e7, e8]
  rw [hret] at mt hgood
  rcases hlk with hlk | hlk
  · exact va_runI (Ts := GT) (nL := mi.2.2.1) (n := n) ⟨Cc.1, Cc.2.1, Cc.2.2.2.1, Cc.2.2.2.2.1, hts⟩ mt (cwI n hts hgood rfl rfl rfl (hts _ o2) (hts _ hlk) (hts _ him) hnm ⟨o4, o5, o6⟩ hR) hp rfl (by rw [List.length_map]; exact hn) D4.1 rfl (hW_of2 hst) hd ⟨by show cells + c0 ≤ b0; omega, by show slots + c1 ≤ b1; omega⟩
  · exact va_runIN (Ts := GT) (nL := mi.2.2.1) (n := n) ⟨Cc.1, Cc.2.1, Cc.2.2.2.1, Cc.2.2.2.2.1, hts⟩ mt ⟨va_cnB n hts hgood rfl rfl rfl (hA.2.1 _ hlk) (hts _ o2) ⟨o4, o5, o6⟩ hR, hnm, hts _ him⟩ hp rfl (by rw [List.length_map]; exact hn) D4.1 rfl (hW_of2 hst) hd ⟨by show cells + c0 ≤ b0; omega, by show slots + c1 ≤ b1; omega⟩
theorem v_cV {ρ' : Type} {dec' : ρ' → Option PV × Mem} {X' : Option ρ'} {K : ρ' → Option ρ} {mi' : MI} {c0 c1 index ci n : Nat} {C : String} {T : u_T} {N : Nat} {a : Int} {As : List PV} (hC : Ct mi' d c0 c1 (pA a :: As) M dec' X') (hc : vwCl[ci]? = some (C, T, N)) (ha : M.2.1 a = (ci : Int)) (hcls : mi'.1.cls = C) (ho : cok mi' n)
    (hlk : Cond.methodLink mi.1.cls index mi'.1 ∈ GT ∨ (mi.1.cls, index, mi'.1, "OneBack") ∈ NW) (him : Cond.instanceMethod mi'.1 ∈ GT) (hse : Cond.selects C mi'.1 mi'.1 ∈ GT) (hn : As.length = n) (hst : wsz st ≤ 8) (hd : decode mi.2.1 pc = .ok (.invokevirtual index, 3))
    (st1 : ρ' → List PV) (M1 : ρ' → Mem) (h1 : ∀ r, (dec' r).1.toList ++ st = st1 r) (h2 : ∀ r, (dec' r).2 = M1 r) (k : ∀ r, X' = some r → V mi (d + 1) b0 b1 bc bs (pc + 3) ls (st1 r) (M1 r) dec (K r)) {st0 : List PV} (hs0 : st0 = As.reverse ++ pA a :: st) : V mi (d + 1) b0 b1 (bc + c0) (bs + c1) pc ls st0 M dec (X'.bind K) :=
  v_dV hC hc ha hcls ho hlk him hse hn hst hd (fun r hr => by rw [h1, h2]; exact k r hr) hs0
theorem v_cS {ρ' : Type} {dec' : ρ' → Option PV × Mem} {X' : Option ρ'} {K : ρ' → Option ρ} {mi' : MI} {c0 c1 index n : Nat} {As : List PV} (hC : Ct mi' d c0 c1 As M dec' X') (ho : cok mi' n)
    (hlk : Cond.methodLink mi.1.cls index mi'.1 ∈ GT ∨ (mi.1.cls, index, mi'.1, "OneBack") ∈ NW) (hsta : Cond.static mi'.1 ∈ GT) (hn : As.length = n) (hst : wsz st ≤ 8) (hd : decode mi.2.1 pc = .ok (.invokestatic index, 3))
    (st1 : ρ' → List PV) (M1 : ρ' → Mem) (h1 : ∀ r, (dec' r).1.toList ++ st = st1 r) (h2 : ∀ r, (dec' r).2 = M1 r) (k : ∀ r, X' = some r → V mi (d + 1) b0 b1 bc bs (pc + 3) ls (st1 r) (M1 r) dec (K r)) {st0 : List PV} (hs0 : st0 = As.reverse ++ st) : V mi (d + 1) b0 b1 (bc + c0) (bs + c1) pc ls st0 M dec (X'.bind K) :=
  v_dS hC ho hlk hsta hn hst hd (fun r hr => by rw [h1, h2]; exact k r hr) hs0
theorem v_cI {ρ' : Type} {dec' : ρ' → Option PV × Mem} {X' : Option ρ'} {K : ρ' → Option ρ} {mi' : MI} {c0 c1 index n : Nat} {a : Int} {As : List PV} (hC : Ct mi' d c0 c1 (pA a :: As) M dec' X') (ha : 0 ≤ a) (ho : cok mi' n) (hret : mi'.2.2.2 = none) (hnm : mi'.1.name = "<init>")
    (hlk : Cond.methodLink mi.1.cls index mi'.1 ∈ GT ∨ (mi.1.cls, index, mi'.1, "OneBack") ∈ NW) (him : Cond.instanceMethod mi'.1 ∈ GT) (hn : As.length = n) (hst : wsz st ≤ 8) (hd : decode mi.2.1 pc = .ok (.invokespecial index, 3))
    (st1 : ρ' → List PV) (M1 : ρ' → Mem) (h1 : ∀ r, (dec' r).1.toList ++ st = st1 r) (h2 : ∀ r, (dec' r).2 = M1 r) (k : ∀ r, X' = some r → V mi (d + 1) b0 b1 bc bs (pc + 3) ls (st1 r) (M1 r) dec (K r)) {st0 : List PV} (hs0 : st0 = As.reverse ++ pA a :: st) : V mi (d + 1) b0 b1 (bc + c0) (bs + c1) pc ls st0 M dec (X'.bind K) :=
  v_dI hC ha ho hret hnm hlk him hn hst hd (fun r hr => by rw [h1, h2]; exact k r hr) hs0
/-! arrays copied whole, from their first places -/
def mcp (M : Mem) (a0 a1 n : Int) : Mem := (fun x y => if x = a1 ∧ 0 ≤ y ∧ y < n then M.1 a0 y else M.1 x y, M.2)
theorem wsM_row {cA : Nat → ClassId} {b : Nat} {M M' : Mem} {a : Nat} (h2 : M'.2 = M.2) (h1 : ∀ x : Int, x ≠ a → M'.1 x = M.1 x) (h : a < M.2.2.2) : (wsM cA b M).set a (b + a, cE cA b M' a) = wsM cA b M' := by
  apply List.ext_getElem?
  intro j
  rw [List.getElem?_set]
  by_cases hj : a = j
  · subst hj
    have hl : a < (wsM cA b M).length := by unfold wsM; rw [List.length_map, List.length_range]; exact h
    rw [if_pos rfl, if_pos hl, wsM_at (M := M') (by rw [h2]; exact h)]
  · rw [if_neg hj]
    unfold wsM
    rw [List.getElem?_map, List.getElem?_map, h2]
    cases hr : (List.range M.2.2.2)[j]? with
    | none => rfl
    | some j' =>
      obtain ⟨hjl, e⟩ := List.getElem?_eq_some_iff.mp hr
      rw [List.getElem_range] at e
      subst e
      show some (b + j, cE cA b M j) = some (b + j, cE cA b M' j)
      congr 2
      unfold cE
      rw [h2, h1 j (by omega)]
theorem q_nn {x : Int} (h : r32 x) (h0 : 0 ≤ x) : ¬ Int32.ofInt x < 0 := fun q => by have := (q_lt h r32_0).mp (by rw [q_0]; exact q); omega
theorem fits_T {k : Int} {x : Int} (h : k = 11 ∨ k = 12) (hx : okT (tOf k 0) x) : fits (if k = 11 then .byte else .int) (.int (Int32.ofInt x)) = true := by
  rcases h with rfl | rfl
  · obtain ⟨h1, h2⟩ := hx
    rw [if_pos rfl]
    have hr : r32 x := by unfold r32; omega
    have a1 : (-128 : Int32) ≤ Int32.ofInt x := (q_le (x := -128) (by unfold r32; omega) hr).mpr h1
    have a2 : Int32.ofInt x ≤ (127 : Int32) := (q_le (y := 127) hr (by unfold r32; omega)).mpr h2
    simp [fits, a1, a2]
  · rfl
theorem v_acopy {a0 a1 n : Int} {index : Nat} (h : (M.2.1 a0 = 11 ∨ M.2.1 a0 = 12) ∧ M.2.1 a1 = M.2.1 a0 ∧ 0 ≤ n ∧ n ≤ M.2.2.1 a0 ∧ n ≤ M.2.2.1 a1) (hlk : Cond.methodLink mi.1.cls index arraycopyName ∈ GT) (h2 : Cond.static arraycopyName ∈ GT) (h3 : Cond.native arraycopyName ∈ GT) (h4 : Cond.initialized "java/lang/System" ∈ GT) (hst : st.length ≤ 4) (hd : decode mi.2.1 pc = .ok (.invokestatic index, 3))
    (kk : V mi (d + 1) b0 b1 bc bs (pc + 3) ls st (mcp M a0 a1 n) dec X) : V mi (d + 1) b0 b1 bc bs pc ls (pI n :: pI 0 :: pA a1 :: pI 0 :: pA a0 :: st) M dec X := by
  obtain ⟨hk, hk1, hn0, hn1, hn2⟩ := h
  refine v_step kk (fun hM hL hS => ⟨?_, hL, (okS_cons.mp (okS_cons.mp (okS_cons.mp (okS_cons.mp (okS_cons.mp hS).2).2).2).2).2⟩) (fun hM hL hS G b p l e s m args below meth c Q Cc H locs cells slots lsA D w => ?_)
  · obtain ⟨g1, g2, g3, g4⟩ := hM
    refine ⟨g1, g2, g3, fun a i ha => ?_⟩
    show okT (tOf (M.2.1 a) i) (if a = a1 ∧ 0 ≤ (i : Int) ∧ (i : Int) < n then M.1 a0 i else M.1 a i)
    split
    · rename_i hq
      rw [hq.1, hk1]
      exact g4 a0 i (by omega)
    · exact g4 a i ha
  obtain ⟨p0, p1, p2⟩ := wsM_get (cA := G.2.2.1) (b := b) hM (a := a0) (by omega)
  obtain ⟨r0, r1, r2⟩ := wsM_get (cA := G.2.2.1) (b := b) hM (a := a1) (by omega)
  obtain ⟨k, hke⟩ : ∃ k : Nat, M.2.1 a0 = (k : Int) := ⟨(M.2.1 a0).toNat, by omega⟩
  have hk3 : (k : Int) = 11 ∨ (k : Int) = 12 ∨ (k : Int) = 13 := by omega
  rw [cE_arr (k := (k : Int)) (by rw [toNat_c p0]; exact hke) hk3, toNat_c p0, Int.toNat_natCast] at p2
  rw [cE_arr (k := (k : Int)) (by rw [toNat_c r0, hk1]; exact hke) hk3, toNat_c r0, Int.toNat_natCast] at r2
  have hA := Cc.2.2.2.2.2.2.2.2.1
  have hts := Cc.2.2.2.2.2.1
  have hs := wd_sum (b := b) (cs := G.2.2.2.1) st
  have hnr : r32 n := (okS_cons.mp hS).1
  have hcn : (Int32.ofInt n).toNatClampNeg = n.toNat := q_clamp hnr hn0
  have hc0 : (Int32.ofInt 0).toNatClampNeg = 0 := rfl
  have hty : (tysG G.2.2.1)[k - 11]? = some (G.2.2.1 k, if (k : Int) = 11 then .byte else .int) := by
    rcases (show k = 11 ∨ k = 12 by omega) with rfl | rfl <;> rfl
  have hz0 : ∀ (H1 : Heap) (locs1 : List Loc), True := fun _ _ => trivial
  have e1 : (arrV (G.2.2.1 k) (M.2.2.1 a0).toNat fun j => Value.int (Int32.ofInt (M.1 a0 j))) = vp_cell (G.2.2.1 k) ((M.2.2.1 a0).toNat, .inl fun j => Int32.ofInt (M.1 a0 j)) := rfl
  simp only [List.map_cons, eV]
  rw [eR_nn p0, eR_nn r0]
  intro T hT X0
  have hc0' : H[b + a0.toNat]? = some (vp_cell (G.2.2.1 k) ((M.2.2.1 a0).toNat, .inl fun j => Int32.ofInt (M.1 a0 j))) := D.2.1 a0.toNat _ p2
  have hc1' : H[b + a1.toNat]? = some (vp_cell (G.2.2.1 k) ((M.2.2.1 a1).toNat, .inl fun j => Int32.ofInt (M.1 a1 j))) := D.2.1 a1.toNat _ r2
  obtain ⟨-, k0, hk0, cm0, hkk0⟩ := (hA.1.2 (k - 11) _ hty).1 (M.2.2.1 a0).toNat (fun j => .int (Int32.ofInt (M.1 a0 j)))
  obtain ⟨-, k1, hk1', cm1, hkk1⟩ := (hA.1.2 (k - 11) _ hty).1 (M.2.2.1 a1).toNat (fun j => .int (Int32.ofInt (M.1 a1 j)))
  have hprim : refKind (if (k : Int) = 11 then FieldType.byte else FieldType.int) = false := by split <;> rfl
  have nn : (Int32.ofInt n).toInt = ((n.toNat : Nat) : Int) := by rw [q_in hnr]; omega
  obtain ⟨vm', X', step⟩ := X0.arraycopy Cc.1 Cc.2.2.2.2.1 (hts _ hlk) (hts _ h3) (hts _ h2) (hts _ h4) (src := b + a0.toNat) (dst := b + a1.toNat) (srcPos := Int32.ofInt 0) (cs := vp_cell (G.2.2.1 k) ((M.2.2.1 a0).toNat, .inl fun j => Int32.ofInt (M.1 a0 j))) (cd := vp_cell (G.2.2.1 k) ((M.2.2.1 a1).toNat, .inl fun j => Int32.ofInt (M.1 a1 j))) (destPos := Int32.ofInt 0) (n := Int32.ofInt n) (by rw [hT]; exact hc0') (by rw [hT]; exact hc1')
    (fun _ h => by cases h) (fun _ h => by cases h) (fun h => by cases h) (fun h => by cases h) hk0 hk1' hkk0 hkk1 (by simp [hprim]) (q_nn r32_0 (by omega)) (q_nn r32_0 (by omega)) (q_nn hnr hn0)
    (by rw [nn]; show ¬ _ > ((arrV _ (M.2.2.1 a0).toNat _).slots.size : Int); rw [arrV_size, q_in r32_0]; omega)
    (by rw [nn]; show ¬ _ > ((arrV _ (M.2.2.1 a1).toNat _).slots.size : Int); rw [arrV_size, q_in r32_0]; omega)
    (fun vm₁ _ i hi => by
      rw [hcn] at hi
      rw [hc0]
      have e : (vp_cell (G.2.2.1 k) ((M.2.2.1 a0).toNat, .inl fun j => Int32.ofInt (M.1 a0 j))).slots.getD (0 + i) .null = .int (Int32.ofInt (M.1 a0 i)) := by
        show (arrV _ _ _).slots.getD _ _ = _
        rw [Array.getD_eq_getD_getElem?, arrV_read _ _ (by omega), Nat.zero_add]
        rfl
      refine ⟨?_, ?_⟩
      · rw [e]
        have hok := hM.2.2.2 a0 i (by omega)
        rw [hke] at hok
        have := fits_T (k := (k : Int)) (x := M.1 a0 i) (by omega) (by rcases (show k = 11 ∨ k = 12 by omega) with rfl | rfl <;> exact hok)
        exact this
      · rw [e]; exact trivial)
    (g := F0 m pc lsA (.int (Int32.ofInt n) :: .int (Int32.ofInt 0) :: .ref (b + a1.toNat) :: .int (Int32.ofInt 0) :: .ref (b + a0.toNat) :: st.map (eV b G.2.2.2.1))) rfl (by rw [Cc.2.2.2.1]; exact D.2.2.2.1.1) (rest := st.map (eV b G.2.2.2.1)) rfl (by rw [Cc.2.1]; exact hd) (show 1 ≤ d + 1 by omega) (by
      have : nativeFrameWords "java/lang/System" "arraycopy" 5 ≤ 40 := by decide +kernel
      show 2 * 0 + _ + _ ≤ 64 * (d + 1)
      omega)
  have e1 : copied (vp_cell (G.2.2.1 k) ((M.2.2.1 a0).toNat, .inl fun j => Int32.ofInt (M.1 a0 j))) (vp_cell (G.2.2.1 k) ((M.2.2.1 a1).toNat, .inl fun j => Int32.ofInt (M.1 a1 j))) (Int32.ofInt 0) (Int32.ofInt 0) (Int32.ofInt n) = vp_cell (G.2.2.1 k) ((M.2.2.1 a1).toNat, .inl (va_cpy (fun j => Int32.ofInt (M.1 a0 j)) (fun j => Int32.ofInt (M.1 a1 j)) (Int32.ofInt 0).toNatClampNeg (Int32.ofInt 0).toNatClampNeg (Int32.ofInt n).toNatClampNeg)) := va_copied (fun z => .int z) (G.2.2.1 k) (G.2.2.1 k) (fun j => Int32.ofInt (M.1 a0 j)) (fun j => Int32.ofInt (M.1 a1 j)) (show (Int32.ofInt 0).toNatClampNeg + (Int32.ofInt n).toNatClampNeg ≤ (M.2.2.1 a0).toNat by rw [hcn, hc0]; omega)
  rw [e1, hcn, hc0] at X' step
  have hl : b + a1.toNat < H.size := (Array.getElem?_eq_some_iff.mp hc1').1
  have hcE : cE G.2.2.1 b (mcp M a0 a1 n) a1.toNat = .inl (G.2.2.1 k, (M.2.2.1 a1).toNat, .inl (va_cpy (fun j => Int32.ofInt (M.1 a0 j)) (fun j => Int32.ofInt (M.1 a1 j)) 0 0 n.toNat)) := by
    rw [cE_arr (k := (k : Int)) (by rw [toNat_c r0]; show M.2.1 a1 = _; rw [hk1]; exact hke) hk3, Int.toNat_natCast, toNat_c r0]
    show Sum.inl (_, (M.2.2.1 a1).toNat, _) = _
    congr 4
    funext j
    show Int32.ofInt (if a1 = a1 ∧ 0 ≤ (j : Int) ∧ (j : Int) < n then M.1 a0 j else M.1 a1 j) = if 0 ≤ j ∧ j < 0 + n.toNat then Int32.ofInt (M.1 a0 ((0 + (j - 0) : Nat) : Int)) else Int32.ofInt (M.1 a1 j)
    by_cases hj : j < n.toNat
    · rw [if_pos ⟨rfl, by omega, by omega⟩, if_pos ⟨by omega, by omega⟩]
      rw [show 0 + (j - 0) = j by omega]
    · rw [if_neg (by rintro ⟨-, -, q⟩; omega), if_neg (by rintro ⟨-, q⟩; omega)]
  have hheap : ((T.setVm vm').setCell (b + a1.toNat) (vp_cell (G.2.2.1 k) ((M.2.2.1 a1).toNat, .inl (va_cpy (fun j => Int32.ofInt (M.1 a0 j)) (fun j => Int32.ofInt (M.1 a1 j)) 0 0 n.toNat)))).heap = H.setIfInBounds (b + a1.toNat) (vp_cell (G.2.2.1 k) ((M.2.2.1 a1).toNat, .inl (va_cpy (fun j => Int32.ofInt (M.1 a0 j)) (fun j => Int32.ofInt (M.1 a1 j)) 0 0 n.toNat))) := by rw [← hT]; rfl
  have oq : ∀ q : Nat, q ≠ b + a1.toNat → (H.setIfInBounds (b + a1.toNat) (vp_cell (G.2.2.1 k) ((M.2.2.1 a1).toNat, .inl (va_cpy (fun j => Int32.ofInt (M.1 a0 j)) (fun j => Int32.ofInt (M.1 a1 j)) 0 0 n.toNat))))[q]? = H[q]? := fun q hq => by simp [Array.getElem?_setIfInBounds, Ne.symm hq]
  obtain ⟨D1, D2, D3, D4, D5⟩ := D
  have hrow := wsM_row (cA := G.2.2.1) (b := b) (M := M) (M' := mcp M a0 a1 n) (a := a1.toNat) rfl (fun x hx => by
    funext y
    show (if x = a1 ∧ 0 ≤ y ∧ y < n then M.1 a0 y else M.1 x y) = _
    rw [if_neg (by rintro ⟨q, -⟩; omega)]) r1
  obtain ⟨t, a1', b1'⟩ := w _ _ cells slots lsA ⟨by rw [Array.size_setIfInBounds]; exact D1, by
    rw [← hrow]
    refine D2.set wsM_D (wsM_at r1) ?_ oq
    rw [hcE]
    show (H.setIfInBounds _ _)[_]? = some _
    simp [Array.getElem?_setIfInBounds, hl], ⟨by rw [Array.size_setIfInBounds]; exact D3.1, fun q g1 g2 => by
      rw [oq q (fun e => g2 (by rw [e]; exact Nat.le_add_right _ _))]
      exact D3.2.1 q g1 g2, fun q hq => by
      rcases List.mem_append.mp hq with h | h
      · exact D3.2.2 q h
      · obtain ⟨z, -, hz⟩ := List.mem_map.mp h
        rw [← hz]
        exact Nat.le_add_right _ _⟩, D4, D5⟩ _ hheap X'
  exact ⟨t, step t a1', b1'⟩
end RulesK
theorem nw0 : (("OneBack$Town", 46, ⟨"OneBack", "fillRow", "([II)V"⟩, "OneBack") : String × Nat × MethodName × String) ∈ NW := List.mem_of_getElem? (i := 0) rfl
theorem nw1 : (("OneBack$Told", 54, ⟨"OneBack$Law", "<init>", "()V"⟩, "OneBack") : String × Nat × MethodName × String) ∈ NW := List.mem_of_getElem? (i := 1) rfl
theorem nw2 : (("OneBack$Told", 55, ⟨"OneBack$Nights", "<init>", "()V"⟩, "OneBack") : String × Nat × MethodName × String) ∈ NW := List.mem_of_getElem? (i := 2) rfl
theorem nw3 : (("OneBack$Sight", 28, ⟨"OneBack", "fillRow", "([II)V"⟩, "OneBack") : String × Nat × MethodName × String) ∈ NW := List.mem_of_getElem? (i := 3) rfl
theorem nw4 : (("OneBack", 22, ⟨"OneBack$Reader", "<init>", "()V"⟩, "OneBack") : String × Nat × MethodName × String) ∈ NW := List.mem_of_getElem? (i := 4) rfl
theorem nw5 : (("OneBack$Reader", 27, ⟨"OneBack$Law", "<init>", "()V"⟩, "OneBack") : String × Nat × MethodName × String) ∈ NW := List.mem_of_getElem? (i := 5) rfl
theorem nw6 : (("OneBack$Reader", 34, ⟨"OneBack$Nights", "<init>", "()V"⟩, "OneBack") : String × Nat × MethodName × String) ∈ NW := List.mem_of_getElem? (i := 6) rfl
theorem nw7 : (("OneBack", 46, ⟨"OneBack$Supply", "<init>", "()V"⟩, "OneBack") : String × Nat × MethodName × String) ∈ NW := List.mem_of_getElem? (i := 7) rfl
theorem nw8 : (("OneBack$Reader", 216, ⟨"OneBack", "cell", "(II)I"⟩, "OneBack") : String × Nat × MethodName × String) ∈ NW := List.mem_of_getElem? (i := 8) rfl
theorem nw9 : (("OneBack$Town", 50, ⟨"OneBack", "copyRow", "([I[I)V"⟩, "OneBack") : String × Nat × MethodName × String) ∈ NW := List.mem_of_getElem? (i := 9) rfl
theorem nw10 : (("OneBack$Nights", 28, ⟨"OneBack", "copyRow", "([I[I)V"⟩, "OneBack") : String × Nat × MethodName × String) ∈ NW := List.mem_of_getElem? (i := 10) rfl
theorem nw11 : (("OneBack$Sight", 32, ⟨"OneBack", "copyRow", "([I[I)V"⟩, "OneBack") : String × Nat × MethodName × String) ∈ NW := List.mem_of_getElem? (i := 11) rfl
theorem nw12 : (("OneBack$Town", 54, ⟨"OneBack", "cell", "(II)I"⟩, "OneBack") : String × Nat × MethodName × String) ∈ NW := List.mem_of_getElem? (i := 12) rfl
theorem nw13 : (("OneBack$Walk", 69, ⟨"OneBack", "copyRow", "([I[I)V"⟩, "OneBack") : String × Nat × MethodName × String) ∈ NW := List.mem_of_getElem? (i := 13) rfl
theorem nw14 : (("OneBack$Walk", 73, ⟨"OneBack", "fillRow", "([II)V"⟩, "OneBack") : String × Nat × MethodName × String) ∈ NW := List.mem_of_getElem? (i := 14) rfl
theorem nw15 : (("OneBack$Walk", 145, ⟨"OneBack", "isGood", "(I)Z"⟩, "OneBack") : String × Nat × MethodName × String) ∈ NW := List.mem_of_getElem? (i := 15) rfl
theorem nw16 : (("OneBack$Walk", 130, ⟨"OneBack", "cell", "(II)I"⟩, "OneBack") : String × Nat × MethodName × String) ∈ NW := List.mem_of_getElem? (i := 16) rfl
theorem nw17 : (("OneBack$Walk", 136, ⟨"OneBack", "cell", "(III)I"⟩, "OneBack") : String × Nat × MethodName × String) ∈ NW := List.mem_of_getElem? (i := 17) rfl
theorem nw18 : (("OneBack$Views", 75, ⟨"OneBack", "cell", "(III)I"⟩, "OneBack") : String × Nat × MethodName × String) ∈ NW := List.mem_of_getElem? (i := 18) rfl
theorem nw19 : (("OneBack$Supply", 69, ⟨"OneBack", "fillRow", "([II)V"⟩, "OneBack") : String × Nat × MethodName × String) ∈ NW := List.mem_of_getElem? (i := 19) rfl
theorem nw20 : (("OneBack$Town", 88, ⟨"OneBack", "commonDivisor", "(II)I"⟩, "OneBack") : String × Nat × MethodName × String) ∈ NW := List.mem_of_getElem? (i := 20) rfl
theorem nw21 : (("OneBack$Sight", 49, ⟨"OneBack", "cell", "(III)I"⟩, "OneBack") : String × Nat × MethodName × String) ∈ NW := List.mem_of_getElem? (i := 21) rfl
theorem nw22 : (("OneBack$Sight", 78, ⟨"OneBack", "cell", "(II)I"⟩, "OneBack") : String × Nat × MethodName × String) ∈ NW := List.mem_of_getElem? (i := 22) rfl
theorem nw23 : (("OneBack$Views", 159, ⟨"OneBack", "leastTerms", "(IIZ)I"⟩, "OneBack") : String × Nat × MethodName × String) ∈ NW := List.mem_of_getElem? (i := 23) rfl
theorem nw24 : (("OneBack$Porter", 29, ⟨"OneBack", "fillRow", "([II)V"⟩, "OneBack") : String × Nat × MethodName × String) ∈ NW := List.mem_of_getElem? (i := 24) rfl
theorem nw25 : (("OneBack$Porter", 37, ⟨"OneBack", "copyRow", "([I[I)V"⟩, "OneBack") : String × Nat × MethodName × String) ∈ NW := List.mem_of_getElem? (i := 25) rfl
theorem nw26 : (("OneBack$Porter", 46, ⟨"OneBack", "cell", "(II)I"⟩, "OneBack") : String × Nat × MethodName × String) ∈ NW := List.mem_of_getElem? (i := 26) rfl
theorem nw27 : (("OneBack$Told", 103, ⟨"OneBack", "copyRow", "([I[I)V"⟩, "OneBack") : String × Nat × MethodName × String) ∈ NW := List.mem_of_getElem? (i := 27) rfl
end
section
theorem dJ6_bitCount_0f7a4_0 : decode cJ6_bitCount_0f7a4 0 = .ok (.iload_n 0, 1) := by decide +kernel
theorem dJ6_bitCount_0f7a4_1 : decode cJ6_bitCount_0f7a4 1 = .ok (.iload_n 0, 1) := by decide +kernel
theorem dJ6_bitCount_0f7a4_2 : decode cJ6_bitCount_0f7a4 2 = .ok (.iconst 1, 1) := by decide +kernel
theorem dJ6_bitCount_0f7a4_3 : decode cJ6_bitCount_0f7a4 3 = .ok (.iushr, 1) := by decide +kernel
theorem dJ6_bitCount_0f7a4_4 : decode cJ6_bitCount_0f7a4 4 = .ok (.ldc_w 265, 3) := by decide +kernel
theorem dJ6_bitCount_0f7a4_7 : decode cJ6_bitCount_0f7a4 7 = .ok (.iand, 1) := by decide +kernel
theorem dJ6_bitCount_0f7a4_8 : decode cJ6_bitCount_0f7a4 8 = .ok (.isub, 1) := by decide +kernel
theorem dJ6_bitCount_0f7a4_9 : decode cJ6_bitCount_0f7a4 9 = .ok (.istore_n 0, 1) := by decide +kernel
theorem dJ6_bitCount_0f7a4_10 : decode cJ6_bitCount_0f7a4 10 = .ok (.iload_n 0, 1) := by decide +kernel
theorem dJ6_bitCount_0f7a4_11 : decode cJ6_bitCount_0f7a4 11 = .ok (.ldc_w 266, 3) := by decide +kernel
theorem dJ6_bitCount_0f7a4_14 : decode cJ6_bitCount_0f7a4 14 = .ok (.iand, 1) := by decide +kernel
theorem dJ6_bitCount_0f7a4_15 : decode cJ6_bitCount_0f7a4 15 = .ok (.iload_n 0, 1) := by decide +kernel
theorem dJ6_bitCount_0f7a4_16 : decode cJ6_bitCount_0f7a4 16 = .ok (.iconst 2, 1) := by decide +kernel
theorem dJ6_bitCount_0f7a4_17 : decode cJ6_bitCount_0f7a4 17 = .ok (.iushr, 1) := by decide +kernel
theorem dJ6_bitCount_0f7a4_18 : decode cJ6_bitCount_0f7a4 18 = .ok (.ldc_w 266, 3) := by decide +kernel
theorem dJ6_bitCount_0f7a4_21 : decode cJ6_bitCount_0f7a4 21 = .ok (.iand, 1) := by decide +kernel
theorem dJ6_bitCount_0f7a4_22 : decode cJ6_bitCount_0f7a4 22 = .ok (.iadd, 1) := by decide +kernel
theorem dJ6_bitCount_0f7a4_23 : decode cJ6_bitCount_0f7a4 23 = .ok (.istore_n 0, 1) := by decide +kernel
theorem dJ6_bitCount_0f7a4_24 : decode cJ6_bitCount_0f7a4 24 = .ok (.iload_n 0, 1) := by decide +kernel
theorem dJ6_bitCount_0f7a4_25 : decode cJ6_bitCount_0f7a4 25 = .ok (.iload_n 0, 1) := by decide +kernel
theorem dJ6_bitCount_0f7a4_26 : decode cJ6_bitCount_0f7a4 26 = .ok (.iconst 4, 1) := by decide +kernel
theorem dJ6_bitCount_0f7a4_27 : decode cJ6_bitCount_0f7a4 27 = .ok (.iushr, 1) := by decide +kernel
theorem dJ6_bitCount_0f7a4_28 : decode cJ6_bitCount_0f7a4 28 = .ok (.iadd, 1) := by decide +kernel
theorem dJ6_bitCount_0f7a4_29 : decode cJ6_bitCount_0f7a4 29 = .ok (.ldc_w 267, 3) := by decide +kernel
theorem dJ6_bitCount_0f7a4_32 : decode cJ6_bitCount_0f7a4 32 = .ok (.iand, 1) := by decide +kernel
theorem dJ6_bitCount_0f7a4_33 : decode cJ6_bitCount_0f7a4 33 = .ok (.istore_n 0, 1) := by decide +kernel
theorem dJ6_bitCount_0f7a4_34 : decode cJ6_bitCount_0f7a4 34 = .ok (.iload_n 0, 1) := by decide +kernel
theorem dJ6_bitCount_0f7a4_35 : decode cJ6_bitCount_0f7a4 35 = .ok (.iload_n 0, 1) := by decide +kernel
theorem dJ6_bitCount_0f7a4_36 : decode cJ6_bitCount_0f7a4 36 = .ok (.bipush 8, 2) := by decide +kernel
theorem dJ6_bitCount_0f7a4_38 : decode cJ6_bitCount_0f7a4 38 = .ok (.iushr, 1) := by decide +kernel
theorem dJ6_bitCount_0f7a4_39 : decode cJ6_bitCount_0f7a4 39 = .ok (.iadd, 1) := by decide +kernel
theorem dJ6_bitCount_0f7a4_40 : decode cJ6_bitCount_0f7a4 40 = .ok (.istore_n 0, 1) := by decide +kernel
theorem dJ6_bitCount_0f7a4_41 : decode cJ6_bitCount_0f7a4 41 = .ok (.iload_n 0, 1) := by decide +kernel
theorem dJ6_bitCount_0f7a4_42 : decode cJ6_bitCount_0f7a4 42 = .ok (.iload_n 0, 1) := by decide +kernel
theorem dJ6_bitCount_0f7a4_43 : decode cJ6_bitCount_0f7a4 43 = .ok (.bipush 16, 2) := by decide +kernel
theorem dJ6_bitCount_0f7a4_45 : decode cJ6_bitCount_0f7a4 45 = .ok (.iushr, 1) := by decide +kernel
theorem dJ6_bitCount_0f7a4_46 : decode cJ6_bitCount_0f7a4 46 = .ok (.iadd, 1) := by decide +kernel
theorem dJ6_bitCount_0f7a4_47 : decode cJ6_bitCount_0f7a4 47 = .ok (.istore_n 0, 1) := by decide +kernel
theorem dJ6_bitCount_0f7a4_48 : decode cJ6_bitCount_0f7a4 48 = .ok (.iload_n 0, 1) := by decide +kernel
theorem dJ6_bitCount_0f7a4_49 : decode cJ6_bitCount_0f7a4 49 = .ok (.bipush 63, 2) := by decide +kernel
theorem dJ6_bitCount_0f7a4_51 : decode cJ6_bitCount_0f7a4 51 = .ok (.iand, 1) := by decide +kernel
theorem dJ6_bitCount_0f7a4_52 : decode cJ6_bitCount_0f7a4 52 = .ok (.ireturn, 1) := by decide +kernel
abbrev mJ6_bitCount_0f7a4 : MI := (yJ6_bitCount_0f7a4, cJ6_bitCount_0f7a4, 1, (some .int))
theorem okJ6_bitCount_0f7a4 : cok mJ6_bitCount_0f7a4 1 := ⟨tw1142, tw19, by decide, by decide, by decide, by decide +kernel⟩
def fJ6_bitCount_0f7a4 (M : Mem) (a0 : Int) : Option Int :=
  some (bAnd (w32 ((w32 ((bAnd (w32 ((w32 ((bAnd (w32 (a0 - (bAnd (bUshr a0 1) 1431655765))) 858993459) + (bAnd (bUshr (w32 (a0 - (bAnd (bUshr a0 1) 1431655765))) 2) 858993459))) + (bUshr (w32 ((bAnd (w32 (a0 - (bAnd (bUshr a0 1) 1431655765))) 858993459) + (bAnd (bUshr (w32 (a0 - (bAnd (bUshr a0 1) 1431655765))) 2) 858993459))) 4))) 252645135) + (bUshr (bAnd (w32 ((w32 ((bAnd (w32 (a0 - (bAnd (bUshr a0 1) 1431655765))) 858993459) + (bAnd (bUshr (w32 (a0 - (bAnd (bUshr a0 1) 1431655765))) 2) 858993459))) + (bUshr (w32 ((bAnd (w32 (a0 - (bAnd (bUshr a0 1) 1431655765))) 858993459) + (bAnd (bUshr (w32 (a0 - (bAnd (bUshr a0 1) 1431655765))) 2) 858993459))) 4))) 252645135) 8))) + (bUshr (w32 ((bAnd (w32 ((w32 ((bAnd (w32 (a0 - (bAnd (bUshr a0 1) 1431655765))) 858993459) + (bAnd (bUshr (w32 (a0 - (bAnd (bUshr a0 1) 1431655765))) 2) 858993459))) + (bUshr (w32 ((bAnd (w32 (a0 - (bAnd (bUshr a0 1) 1431655765))) 858993459) + (bAnd (bUshr (w32 (a0 - (bAnd (bUshr a0 1) 1431655765))) 2) 858993459))) 4))) 252645135) + (bUshr (bAnd (w32 ((w32 ((bAnd (w32 (a0 - (bAnd (bUshr a0 1) 1431655765))) 858993459) + (bAnd (bUshr (w32 (a0 - (bAnd (bUshr a0 1) 1431655765))) 2) 858993459))) + (bUshr (w32 ((bAnd (w32 (a0 - (bAnd (bUshr a0 1) 1431655765))) 858993459) + (bAnd (bUshr (w32 (a0 - (bAnd (bUshr a0 1) 1431655765))) 2) 858993459))) 4))) 252645135) 8))) 16))) 63)
set_option maxRecDepth 100000 in
set_option maxHeartbeats 4000000 in
theorem kJ6_bitCount_0f7a4 (d : Nat) (hd : 0 ≤ d) (M : Mem) (a0 : Int) : Ct mJ6_bitCount_0f7a4 d 0 0 [pI a0] M (dI M) (fJ6_bitCount_0f7a4 M a0) := by
  refine Ct.of 0 (by decide +kernel) rfl ?_
  unfold fJ6_bitCount_0f7a4
  refine v_iload_n dJ6_bitCount_0f7a4_0 rfl ?_
  refine v_iload_n dJ6_bitCount_0f7a4_1 rfl ?_
  refine v_iconst dJ6_bitCount_0f7a4_2 (by decide) ?_
  refine v_iushr dJ6_bitCount_0f7a4_3 ?_
  refine v_ldcw (n := 1431655765) dJ6_bitCount_0f7a4_4 (by decide) tw1143 ?_
  refine v_iand dJ6_bitCount_0f7a4_7 ?_
  refine v_isub dJ6_bitCount_0f7a4_8 ?_
  refine v_istore_n (ls' := [some (pI (w32 (a0 - (bAnd (bUshr a0 1) 1431655765))))]) dJ6_bitCount_0f7a4_9 (by decide) rfl ?_
  refine v_iload_n dJ6_bitCount_0f7a4_10 rfl ?_
  refine v_ldcw (n := 858993459) dJ6_bitCount_0f7a4_11 (by decide) tw1144 ?_
  refine v_iand dJ6_bitCount_0f7a4_14 ?_
  refine v_iload_n dJ6_bitCount_0f7a4_15 rfl ?_
  refine v_iconst dJ6_bitCount_0f7a4_16 (by decide) ?_
  refine v_iushr dJ6_bitCount_0f7a4_17 ?_
  refine v_ldcw (n := 858993459) dJ6_bitCount_0f7a4_18 (by decide) tw1144 ?_
  refine v_iand dJ6_bitCount_0f7a4_21 ?_
  refine v_iadd dJ6_bitCount_0f7a4_22 ?_
  refine v_istore_n (ls' := [some (pI (w32 ((bAnd (w32 (a0 - (bAnd (bUshr a0 1) 1431655765))) 858993459) + (bAnd (bUshr (w32 (a0 - (bAnd (bUshr a0 1) 1431655765))) 2) 858993459))))]) dJ6_bitCount_0f7a4_23 (by decide) rfl ?_
  refine v_iload_n dJ6_bitCount_0f7a4_24 rfl ?_
  refine v_iload_n dJ6_bitCount_0f7a4_25 rfl ?_
  refine v_iconst dJ6_bitCount_0f7a4_26 (by decide) ?_
  refine v_iushr dJ6_bitCount_0f7a4_27 ?_
  refine v_iadd dJ6_bitCount_0f7a4_28 ?_
  refine v_ldcw (n := 252645135) dJ6_bitCount_0f7a4_29 (by decide) tw1145 ?_
  refine v_iand dJ6_bitCount_0f7a4_32 ?_
  refine v_istore_n (ls' := [some (pI (bAnd (w32 ((w32 ((bAnd (w32 (a0 - (bAnd (bUshr a0 1) 1431655765))) 858993459) + (bAnd (bUshr (w32 (a0 - (bAnd (bUshr a0 1) 1431655765))) 2) 858993459))) + (bUshr (w32 ((bAnd (w32 (a0 - (bAnd (bUshr a0 1) 1431655765))) 858993459) + (bAnd (bUshr (w32 (a0 - (bAnd (bUshr a0 1) 1431655765))) 2) 858993459))) 4))) 252645135))]) dJ6_bitCount_0f7a4_33 (by decide) rfl ?_
  refine v_iload_n dJ6_bitCount_0f7a4_34 rfl ?_
  refine v_iload_n dJ6_bitCount_0f7a4_35 rfl ?_
  refine v_bipush dJ6_bitCount_0f7a4_36 (by decide) ?_
  refine v_iushr dJ6_bitCount_0f7a4_38 ?_
  refine v_iadd dJ6_bitCount_0f7a4_39 ?_
  refine v_istore_n (ls' := [some (pI (w32 ((bAnd (w32 ((w32 ((bAnd (w32 (a0 - (bAnd (bUshr a0 1) 1431655765))) 858993459) + (bAnd (bUshr (w32 (a0 - (bAnd (bUshr a0 1) 1431655765))) 2) 858993459))) + (bUshr (w32 ((bAnd (w32 (a0 - (bAnd (bUshr a0 1) 1431655765))) 858993459) + (bAnd (bUshr (w32 (a0 - (bAnd (bUshr a0 1) 1431655765))) 2) 858993459))) 4))) 252645135) + (bUshr (bAnd (w32 ((w32 ((bAnd (w32 (a0 - (bAnd (bUshr a0 1) 1431655765))) 858993459) + (bAnd (bUshr (w32 (a0 - (bAnd (bUshr a0 1) 1431655765))) 2) 858993459))) + (bUshr (w32 ((bAnd (w32 (a0 - (bAnd (bUshr a0 1) 1431655765))) 858993459) + (bAnd (bUshr (w32 (a0 - (bAnd (bUshr a0 1) 1431655765))) 2) 858993459))) 4))) 252645135) 8))))]) dJ6_bitCount_0f7a4_40 (by decide) rfl ?_
  refine v_iload_n dJ6_bitCount_0f7a4_41 rfl ?_
  refine v_iload_n dJ6_bitCount_0f7a4_42 rfl ?_
  refine v_bipush dJ6_bitCount_0f7a4_43 (by decide) ?_
  refine v_iushr dJ6_bitCount_0f7a4_45 ?_
  refine v_iadd dJ6_bitCount_0f7a4_46 ?_
  refine v_istore_n (ls' := [some (pI (w32 ((w32 ((bAnd (w32 ((w32 ((bAnd (w32 (a0 - (bAnd (bUshr a0 1) 1431655765))) 858993459) + (bAnd (bUshr (w32 (a0 - (bAnd (bUshr a0 1) 1431655765))) 2) 858993459))) + (bUshr (w32 ((bAnd (w32 (a0 - (bAnd (bUshr a0 1) 1431655765))) 858993459) + (bAnd (bUshr (w32 (a0 - (bAnd (bUshr a0 1) 1431655765))) 2) 858993459))) 4))) 252645135) + (bUshr (bAnd (w32 ((w32 ((bAnd (w32 (a0 - (bAnd (bUshr a0 1) 1431655765))) 858993459) + (bAnd (bUshr (w32 (a0 - (bAnd (bUshr a0 1) 1431655765))) 2) 858993459))) + (bUshr (w32 ((bAnd (w32 (a0 - (bAnd (bUshr a0 1) 1431655765))) 858993459) + (bAnd (bUshr (w32 (a0 - (bAnd (bUshr a0 1) 1431655765))) 2) 858993459))) 4))) 252645135) 8))) + (bUshr (w32 ((bAnd (w32 ((w32 ((bAnd (w32 (a0 - (bAnd (bUshr a0 1) 1431655765))) 858993459) + (bAnd (bUshr (w32 (a0 - (bAnd (bUshr a0 1) 1431655765))) 2) 858993459))) + (bUshr (w32 ((bAnd (w32 (a0 - (bAnd (bUshr a0 1) 1431655765))) 858993459) + (bAnd (bUshr (w32 (a0 - (bAnd (bUshr a0 1) 1431655765))) 2) 858993459))) 4))) 252645135) + (bUshr (bAnd (w32 ((w32 ((bAnd (w32 (a0 - (bAnd (bUshr a0 1) 1431655765))) 858993459) + (bAnd (bUshr (w32 (a0 - (bAnd (bUshr a0 1) 1431655765))) 2) 858993459))) + (bUshr (w32 ((bAnd (w32 (a0 - (bAnd (bUshr a0 1) 1431655765))) 858993459) + (bAnd (bUshr (w32 (a0 - (bAnd (bUshr a0 1) 1431655765))) 2) 858993459))) 4))) 252645135) 8))) 16))))]) dJ6_bitCount_0f7a4_47 (by decide) rfl ?_
  refine v_iload_n dJ6_bitCount_0f7a4_48 rfl ?_
  refine v_bipush dJ6_bitCount_0f7a4_49 (by decide) ?_
  refine v_iand dJ6_bitCount_0f7a4_51 ?_
  exact v_ireturn dJ6_bitCount_0f7a4_52 rfl rfl
theorem dX0_init_0 : decode cX0_init 0 = .ok (.aload_n 0, 1) := by decide +kernel
theorem dX0_init_1 : decode cX0_init 1 = .ok (.invokespecial 3, 3) := by decide +kernel
theorem dX0_init_4 : decode cX0_init 4 = .ok (.aload_n 0, 1) := by decide +kernel
theorem dX0_init_5 : decode cX0_init 5 = .ok (.iconst 2, 1) := by decide +kernel
theorem dX0_init_6 : decode cX0_init 6 = .ok (.putfield 9, 3) := by decide +kernel
theorem dX0_init_9 : decode cX0_init 9 = .ok (.aload_n 0, 1) := by decide +kernel
theorem dX0_init_10 : decode cX0_init 10 = .ok (.bipush 20, 2) := by decide +kernel
theorem dX0_init_12 : decode cX0_init 12 = .ok (.putfield 15, 3) := by decide +kernel
theorem dX0_init_15 : decode cX0_init 15 = .ok (.aload_n 0, 1) := by decide +kernel
theorem dX0_init_16 : decode cX0_init 16 = .ok (.iconst 0, 1) := by decide +kernel
theorem dX0_init_17 : decode cX0_init 17 = .ok (.putfield 18, 3) := by decide +kernel
theorem dX0_init_20 : decode cX0_init 20 = .ok (.return_, 1) := by decide +kernel
abbrev mX0_init : MI := (yX0_init, cX0_init, 1, none)
theorem okX0_init : cok mX0_init 0 := ⟨tw125, tw4, by decide, by decide, by decide, by decide +kernel⟩
def fX0_init (M : Mem) (a0 : Int) : Option Mem :=
  if 0 ≤ a0 then if M.2.1 a0 = 0 then bM (mst M a0 0 2) fun M3 => bM (mst M3 a0 1 20) fun M5 => bM (mst M5 a0 2 0) fun M7 => some M7 else none else none
set_option maxRecDepth 100000 in
set_option maxHeartbeats 4000000 in
theorem kX0_init (d : Nat) (hd : 1 ≤ d) (M : Mem) (a0 : Int) : Ct mX0_init d 0 0 [pA a0] M dV (fX0_init M a0) := by
  obtain ⟨d, rfl⟩ : ∃ k, d = k + 1 := ⟨d - 1, by omega⟩
  refine Ct.of 0 (by decide +kernel) rfl ?_
  unfold fX0_init
  refine v_aload_n dX0_init_0 rfl ?_
  refine v_if (fun h1 => ?_)
  refine v_objInit h1 tw126 tw26 tw27 (Nat.le_of_ble_eq_true rfl) dX0_init_1 ?_
  refine v_aload_n dX0_init_4 rfl ?_
  refine v_iconst dX0_init_5 (by decide) ?_
  refine v_if (fun h2 => ?_)
  refine v_put (x := 2) 0 0 rfl inX0 (by decide) tw127 (Or.inl rfl) rfl dX0_init_6 h2 rfl id ?_
  refine v_bM (fun M3 e4 => ?_)
  refine v_aload_n dX0_init_9 rfl ?_
  refine v_bipush dX0_init_10 (by decide) ?_
  refine v_put (x := 20) 0 1 rfl inX0 (by decide) tw130 (Or.inl rfl) rfl dX0_init_12 (by rw [e4]; exact h2) rfl id ?_
  refine v_bM (fun M5 e6 => ?_)
  refine v_aload_n dX0_init_15 rfl ?_
  refine v_iconst dX0_init_16 (by decide) ?_
  refine v_put (x := 0) 0 2 rfl inX0 (by decide) tw134 (Or.inl rfl) rfl dX0_init_17 (by rw [e6, e4]; exact h2) rfl id ?_
  refine v_bM (fun M7 e8 => ?_)
  exact v_return dX0_init_20 rfl rfl
theorem dX0_clear_0 : decode cX0_clear 0 = .ok (.aload_n 0, 1) := by decide +kernel
theorem dX0_clear_1 : decode cX0_clear 1 = .ok (.iconst 2, 1) := by decide +kernel
theorem dX0_clear_2 : decode cX0_clear 2 = .ok (.putfield 9, 3) := by decide +kernel
theorem dX0_clear_5 : decode cX0_clear 5 = .ok (.aload_n 0, 1) := by decide +kernel
theorem dX0_clear_6 : decode cX0_clear 6 = .ok (.bipush 20, 2) := by decide +kernel
theorem dX0_clear_8 : decode cX0_clear 8 = .ok (.putfield 15, 3) := by decide +kernel
theorem dX0_clear_11 : decode cX0_clear 11 = .ok (.aload_n 0, 1) := by decide +kernel
theorem dX0_clear_12 : decode cX0_clear 12 = .ok (.iconst 0, 1) := by decide +kernel
theorem dX0_clear_13 : decode cX0_clear 13 = .ok (.putfield 18, 3) := by decide +kernel
theorem dX0_clear_16 : decode cX0_clear 16 = .ok (.return_, 1) := by decide +kernel
abbrev mX0_clear : MI := (yX0_clear, cX0_clear, 1, none)
theorem okX0_clear : cok mX0_clear 0 := ⟨tw479, tw4, by decide, by decide, by decide, by decide +kernel⟩
def fX0_clear (M : Mem) (a0 : Int) : Option Mem :=
  if M.2.1 a0 = 0 then bM (mst M a0 0 2) fun M2 => bM (mst M2 a0 1 20) fun M4 => bM (mst M4 a0 2 0) fun M6 => some M6 else none
set_option maxRecDepth 100000 in
set_option maxHeartbeats 4000000 in
theorem kX0_clear (d : Nat) (hd : 0 ≤ d) (M : Mem) (a0 : Int) : Ct mX0_clear d 0 0 [pA a0] M dV (fX0_clear M a0) := by
  refine Ct.of 0 (by decide +kernel) rfl ?_
  unfold fX0_clear
  refine v_aload_n dX0_clear_0 rfl ?_
  refine v_iconst dX0_clear_1 (by decide) ?_
  refine v_if (fun h1 => ?_)
  refine v_put (x := 2) 0 0 rfl inX0 (by decide) tw127 (Or.inl rfl) rfl dX0_clear_2 h1 rfl id ?_
  refine v_bM (fun M2 e3 => ?_)
  refine v_aload_n dX0_clear_5 rfl ?_
  refine v_bipush dX0_clear_6 (by decide) ?_
  refine v_put (x := 20) 0 1 rfl inX0 (by decide) tw130 (Or.inl rfl) rfl dX0_clear_8 (by rw [e3]; exact h1) rfl id ?_
  refine v_bM (fun M4 e5 => ?_)
  refine v_aload_n dX0_clear_11 rfl ?_
  refine v_iconst dX0_clear_12 (by decide) ?_
  refine v_put (x := 0) 0 2 rfl inX0 (by decide) tw134 (Or.inl rfl) rfl dX0_clear_13 (by rw [e5, e3]; exact h1) rfl id ?_
  refine v_bM (fun M6 e7 => ?_)
  exact v_return dX0_clear_16 rfl rfl
theorem dX0_copy_0 : decode cX0_copy 0 = .ok (.aload_n 0, 1) := by decide +kernel
theorem dX0_copy_1 : decode cX0_copy 1 = .ok (.aload_n 1, 1) := by decide +kernel
theorem dX0_copy_2 : decode cX0_copy 2 = .ok (.getfield 9, 3) := by decide +kernel
theorem dX0_copy_5 : decode cX0_copy 5 = .ok (.putfield 9, 3) := by decide +kernel
theorem dX0_copy_8 : decode cX0_copy 8 = .ok (.aload_n 0, 1) := by decide +kernel
theorem dX0_copy_9 : decode cX0_copy 9 = .ok (.aload_n 1, 1) := by decide +kernel
theorem dX0_copy_10 : decode cX0_copy 10 = .ok (.getfield 15, 3) := by decide +kernel
theorem dX0_copy_13 : decode cX0_copy 13 = .ok (.putfield 15, 3) := by decide +kernel
theorem dX0_copy_16 : decode cX0_copy 16 = .ok (.aload_n 0, 1) := by decide +kernel
theorem dX0_copy_17 : decode cX0_copy 17 = .ok (.aload_n 1, 1) := by decide +kernel
theorem dX0_copy_18 : decode cX0_copy 18 = .ok (.getfield 18, 3) := by decide +kernel
theorem dX0_copy_21 : decode cX0_copy 21 = .ok (.putfield 18, 3) := by decide +kernel
theorem dX0_copy_24 : decode cX0_copy 24 = .ok (.return_, 1) := by decide +kernel
abbrev mX0_copy : MI := (yX0_copy, cX0_copy, 2, none)
theorem okX0_copy : cok mX0_copy 1 := ⟨tw660, tw4, by decide, by decide, by decide, by decide +kernel⟩
def fX0_copy (M : Mem) (a0 a1 : Int) : Option Mem :=
  if M.2.1 a1 = 0 then if M.2.1 a0 = 0 then bM (mst M a0 0 (M.1 a1 0)) fun M3 => bM (mst M3 a0 1 (M3.1 a1 1)) fun M5 => bM (mst M5 a0 2 (M5.1 a1 2)) fun M7 => some M7 else none else none
set_option maxRecDepth 100000 in
set_option maxHeartbeats 4000000 in
theorem kX0_copy (d : Nat) (hd : 0 ≤ d) (M : Mem) (a0 a1 : Int) : Ct mX0_copy d 0 0 [pA a0, pA a1] M dV (fX0_copy M a0 a1) := by
  refine Ct.of 0 (by decide +kernel) rfl ?_
  unfold fX0_copy
  refine v_aload_n dX0_copy_0 rfl ?_
  refine v_aload_n dX0_copy_1 rfl ?_
  refine v_if (fun h1 => ?_)
  refine v_get (v := pI (M.1 a1 0)) 0 0 rfl inX0 (by decide) tw127 dX0_copy_2 h1 rfl ?_
  refine v_if (fun h2 => ?_)
  refine v_put (x := M.1 a1 0) 0 0 rfl inX0 (by decide) tw127 (Or.inl rfl) rfl dX0_copy_5 h2 rfl id ?_
  refine v_bM (fun M3 e4 => ?_)
  refine v_aload_n dX0_copy_8 rfl ?_
  refine v_aload_n dX0_copy_9 rfl ?_
  refine v_get (v := pI (M3.1 a1 1)) 0 1 rfl inX0 (by decide) tw130 dX0_copy_10 (by rw [e4]; exact h1) rfl ?_
  refine v_put (x := M3.1 a1 1) 0 1 rfl inX0 (by decide) tw130 (Or.inl rfl) rfl dX0_copy_13 (by rw [e4]; exact h2) rfl id ?_
  refine v_bM (fun M5 e6 => ?_)
  refine v_aload_n dX0_copy_16 rfl ?_
  refine v_aload_n dX0_copy_17 rfl ?_
  refine v_get (v := pI (M5.1 a1 2)) 0 2 rfl inX0 (by decide) tw134 dX0_copy_18 (by rw [e6, e4]; exact h1) rfl ?_
  refine v_put (x := M5.1 a1 2) 0 2 rfl inX0 (by decide) tw134 (Or.inl rfl) rfl dX0_copy_21 (by rw [e6, e4]; exact h2) rfl id ?_
  refine v_bM (fun M7 e8 => ?_)
  exact v_return dX0_copy_24 rfl rfl
theorem dX0_counts_0 : decode cX0_counts 0 = .ok (.iload_n 1, 1) := by decide +kernel
theorem dX0_counts_1 : decode cX0_counts 1 = .ok (.ifCond .lt 22, 3) := by decide +kernel
theorem dX0_counts_4 : decode cX0_counts 4 = .ok (.iload_n 1, 1) := by decide +kernel
theorem dX0_counts_5 : decode cX0_counts 5 = .ok (.bipush 20, 2) := by decide +kernel
theorem dX0_counts_7 : decode cX0_counts 7 = .ok (.if_icmp .ge 16, 3) := by decide +kernel
theorem dX0_counts_10 : decode cX0_counts 10 = .ok (.iconst 1, 1) := by decide +kernel
theorem dX0_counts_11 : decode cX0_counts 11 = .ok (.aload_n 0, 1) := by decide +kernel
theorem dX0_counts_12 : decode cX0_counts 12 = .ok (.getfield 18, 3) := by decide +kernel
theorem dX0_counts_15 : decode cX0_counts 15 = .ok (.iload_n 1, 1) := by decide +kernel
theorem dX0_counts_16 : decode cX0_counts 16 = .ok (.ishr, 1) := by decide +kernel
theorem dX0_counts_17 : decode cX0_counts 17 = .ok (.iconst 1, 1) := by decide +kernel
theorem dX0_counts_18 : decode cX0_counts 18 = .ok (.iand, 1) := by decide +kernel
theorem dX0_counts_19 : decode cX0_counts 19 = .ok (.iadd, 1) := by decide +kernel
theorem dX0_counts_20 : decode cX0_counts 20 = .ok (.goto 4, 3) := by decide +kernel
theorem dX0_counts_23 : decode cX0_counts 23 = .ok (.iconst 1, 1) := by decide +kernel
theorem dX0_counts_24 : decode cX0_counts 24 = .ok (.ireturn, 1) := by decide +kernel
abbrev mX0_counts : MI := (yX0_counts, cX0_counts, 2, (some .int))
theorem okX0_counts : cok mX0_counts 1 := ⟨tw721, tw4, by decide, by decide, by decide, by decide +kernel⟩
def fX0_counts (M : Mem) (a0 a1 : Int) : Option Int :=
  if a1 < 0 then (some 1) else (if a1 < 20 then (if M.2.1 a0 = 0 then some (w32 (1 + (bAnd (bShr (M.1 a0 2) a1) 1))) else none) else (some 1))
set_option maxRecDepth 100000 in
set_option maxHeartbeats 4000000 in
theorem kX0_counts (d : Nat) (hd : 0 ≤ d) (M : Mem) (a0 a1 : Int) : Ct mX0_counts d 0 0 [pA a0, pI a1] M (dI M) (fX0_counts M a0 a1) := by
  refine Ct.of 0 (by decide +kernel) rfl ?_
  unfold fX0_counts
  refine v_iload_n dX0_counts_0 rfl ?_
  refine v_if_lt (tgt := 23) dX0_counts_1 (by decide) (fun c1 => ?_) (fun c1 => ?_)
  · refine v_iconst dX0_counts_23 (by decide) ?_
    exact v_ireturn dX0_counts_24 rfl rfl
  · refine v_iload_n dX0_counts_4 rfl ?_
    refine v_bipush dX0_counts_5 (by decide) ?_
    refine v_icmp_ge (tgt := 23) dX0_counts_7 (by decide) (fun c2 => ?_) (fun c2 => ?_)
    · refine v_iconst dX0_counts_10 (by decide) ?_
      refine v_aload_n dX0_counts_11 rfl ?_
      refine v_if (fun h3 => ?_)
      refine v_get (v := pI (M.1 a0 2)) 0 2 rfl inX0 (by decide) tw134 dX0_counts_12 h3 rfl ?_
      refine v_iload_n dX0_counts_15 rfl ?_
      refine v_ishr dX0_counts_16 ?_
      refine v_iconst dX0_counts_17 (by decide) ?_
      refine v_iand dX0_counts_18 ?_
      refine v_iadd dX0_counts_19 ?_
      refine v_goto (tgt := 24) dX0_counts_20 (by decide) ?_
      exact v_ireturn dX0_counts_24 rfl rfl
    · refine v_iconst dX0_counts_23 (by decide) ?_
      exact v_ireturn dX0_counts_24 rfl rfl
theorem dX0_dueOf_0 : decode cX0_dueOf 0 = .ok (.aload_n 0, 1) := by decide +kernel
theorem dX0_dueOf_1 : decode cX0_dueOf 1 = .ok (.getfield 9, 3) := by decide +kernel
theorem dX0_dueOf_4 : decode cX0_dueOf 4 = .ok (.ifCond .le 12, 3) := by decide +kernel
theorem dX0_dueOf_7 : decode cX0_dueOf 7 = .ok (.iload_n 1, 1) := by decide +kernel
theorem dX0_dueOf_8 : decode cX0_dueOf 8 = .ok (.aload_n 0, 1) := by decide +kernel
theorem dX0_dueOf_9 : decode cX0_dueOf 9 = .ok (.getfield 9, 3) := by decide +kernel
theorem dX0_dueOf_12 : decode cX0_dueOf 12 = .ok (.idiv, 1) := by decide +kernel
theorem dX0_dueOf_13 : decode cX0_dueOf 13 = .ok (.goto 4, 3) := by decide +kernel
theorem dX0_dueOf_16 : decode cX0_dueOf 16 = .ok (.iconst 0, 1) := by decide +kernel
theorem dX0_dueOf_17 : decode cX0_dueOf 17 = .ok (.ireturn, 1) := by decide +kernel
abbrev mX0_dueOf : MI := (yX0_dueOf, cX0_dueOf, 2, (some .int))
theorem okX0_dueOf : cok mX0_dueOf 1 := ⟨tw792, tw4, by decide, by decide, by decide, by decide +kernel⟩
def fX0_dueOf (M : Mem) (a0 a1 : Int) : Option Int :=
  if M.2.1 a0 = 0 then if 0 < M.1 a0 0 then (if (M.1 a0 0) ≠ 0 then some (w32 (a1.tdiv (M.1 a0 0))) else none) else (some 0) else none
set_option maxRecDepth 100000 in
set_option maxHeartbeats 4000000 in
theorem kX0_dueOf (d : Nat) (hd : 0 ≤ d) (M : Mem) (a0 a1 : Int) : Ct mX0_dueOf d 0 0 [pA a0, pI a1] M (dI M) (fX0_dueOf M a0 a1) := by
  refine Ct.of 0 (by decide +kernel) rfl ?_
  unfold fX0_dueOf
  refine v_aload_n dX0_dueOf_0 rfl ?_
  refine v_if (fun h1 => ?_)
  refine v_get (v := pI (M.1 a0 0)) 0 0 rfl inX0 (by decide) tw127 dX0_dueOf_1 h1 rfl ?_
  refine v_if_le (tgt := 16) dX0_dueOf_4 (by decide) (fun c2 => ?_) (fun c2 => ?_)
  · refine v_iload_n dX0_dueOf_7 rfl ?_
    refine v_aload_n dX0_dueOf_8 rfl ?_
    refine v_get (v := pI (M.1 a0 0)) 0 0 rfl inX0 (by decide) tw127 dX0_dueOf_9 h1 rfl ?_
    refine v_if (fun h3 => ?_)
    refine v_idiv h3 dX0_dueOf_12 ?_
    refine v_goto (tgt := 17) dX0_dueOf_13 (by decide) ?_
    exact v_ireturn dX0_dueOf_17 rfl rfl
  · refine v_iconst dX0_dueOf_16 (by decide) ?_
    exact v_ireturn dX0_dueOf_17 rfl rfl
theorem dX0_oddOf_0 : decode cX0_oddOf 0 = .ok (.aload_n 0, 1) := by decide +kernel
theorem dX0_oddOf_1 : decode cX0_oddOf 1 = .ok (.getfield 9, 3) := by decide +kernel
theorem dX0_oddOf_4 : decode cX0_oddOf 4 = .ok (.ifCond .le 12, 3) := by decide +kernel
theorem dX0_oddOf_7 : decode cX0_oddOf 7 = .ok (.iload_n 1, 1) := by decide +kernel
theorem dX0_oddOf_8 : decode cX0_oddOf 8 = .ok (.aload_n 0, 1) := by decide +kernel
theorem dX0_oddOf_9 : decode cX0_oddOf 9 = .ok (.getfield 9, 3) := by decide +kernel
theorem dX0_oddOf_12 : decode cX0_oddOf 12 = .ok (.irem, 1) := by decide +kernel
theorem dX0_oddOf_13 : decode cX0_oddOf 13 = .ok (.goto 4, 3) := by decide +kernel
theorem dX0_oddOf_16 : decode cX0_oddOf 16 = .ok (.iconst 0, 1) := by decide +kernel
theorem dX0_oddOf_17 : decode cX0_oddOf 17 = .ok (.ireturn, 1) := by decide +kernel
abbrev mX0_oddOf : MI := (yX0_oddOf, cX0_oddOf, 2, (some .int))
theorem okX0_oddOf : cok mX0_oddOf 1 := ⟨tw814, tw4, by decide, by decide, by decide, by decide +kernel⟩
def fX0_oddOf (M : Mem) (a0 a1 : Int) : Option Int :=
  if M.2.1 a0 = 0 then if 0 < M.1 a0 0 then (if (M.1 a0 0) ≠ 0 then some (a1.tmod (M.1 a0 0)) else none) else (some 0) else none
set_option maxRecDepth 100000 in
set_option maxHeartbeats 4000000 in
theorem kX0_oddOf (d : Nat) (hd : 0 ≤ d) (M : Mem) (a0 a1 : Int) : Ct mX0_oddOf d 0 0 [pA a0, pI a1] M (dI M) (fX0_oddOf M a0 a1) := by
  refine Ct.of 0 (by decide +kernel) rfl ?_
  unfold fX0_oddOf
  refine v_aload_n dX0_oddOf_0 rfl ?_
  refine v_if (fun h1 => ?_)
  refine v_get (v := pI (M.1 a0 0)) 0 0 rfl inX0 (by decide) tw127 dX0_oddOf_1 h1 rfl ?_
  refine v_if_le (tgt := 16) dX0_oddOf_4 (by decide) (fun c2 => ?_) (fun c2 => ?_)
  · refine v_iload_n dX0_oddOf_7 rfl ?_
    refine v_aload_n dX0_oddOf_8 rfl ?_
    refine v_get (v := pI (M.1 a0 0)) 0 0 rfl inX0 (by decide) tw127 dX0_oddOf_9 h1 rfl ?_
    refine v_if (fun h3 => ?_)
    refine v_irem h3 dX0_oddOf_12 ?_
    refine v_goto (tgt := 17) dX0_oddOf_13 (by decide) ?_
    exact v_ireturn dX0_oddOf_17 rfl rfl
  · refine v_iconst dX0_oddOf_16 (by decide) ?_
    exact v_ireturn dX0_oddOf_17 rfl rfl
theorem dX0_firstQuit_0 : decode cX0_firstQuit 0 = .ok (.iconst 0, 1) := by decide +kernel
theorem dX0_firstQuit_1 : decode cX0_firstQuit 1 = .ok (.istore 4, 2) := by decide +kernel
theorem dX0_firstQuit_3 : decode cX0_firstQuit 3 = .ok (.iload_n 3, 1) := by decide +kernel
theorem dX0_firstQuit_4 : decode cX0_firstQuit 4 = .ok (.istore 5, 2) := by decide +kernel
theorem dX0_firstQuit_6 : decode cX0_firstQuit 6 = .ok (.iload 5, 2) := by decide +kernel
theorem dX0_firstQuit_8 : decode cX0_firstQuit 8 = .ok (.bipush 60, 2) := by decide +kernel
theorem dX0_firstQuit_10 : decode cX0_firstQuit 10 = .ok (.if_icmp .gt 31, 3) := by decide +kernel
theorem dX0_firstQuit_13 : decode cX0_firstQuit 13 = .ok (.iload 4, 2) := by decide +kernel
theorem dX0_firstQuit_15 : decode cX0_firstQuit 15 = .ok (.iload_n 2, 1) := by decide +kernel
theorem dX0_firstQuit_16 : decode cX0_firstQuit 16 = .ok (.aload_n 0, 1) := by decide +kernel
theorem dX0_firstQuit_17 : decode cX0_firstQuit 17 = .ok (.iload 5, 2) := by decide +kernel
theorem dX0_firstQuit_19 : decode cX0_firstQuit 19 = .ok (.invokevirtual 21, 3) := by decide +kernel
theorem dX0_firstQuit_22 : decode cX0_firstQuit 22 = .ok (.imul, 1) := by decide +kernel
theorem dX0_firstQuit_23 : decode cX0_firstQuit 23 = .ok (.iadd, 1) := by decide +kernel
theorem dX0_firstQuit_24 : decode cX0_firstQuit 24 = .ok (.istore 4, 2) := by decide +kernel
theorem dX0_firstQuit_26 : decode cX0_firstQuit 26 = .ok (.iload 4, 2) := by decide +kernel
theorem dX0_firstQuit_28 : decode cX0_firstQuit 28 = .ok (.iload_n 1, 1) := by decide +kernel
theorem dX0_firstQuit_29 : decode cX0_firstQuit 29 = .ok (.if_icmp .lt 6, 3) := by decide +kernel
theorem dX0_firstQuit_32 : decode cX0_firstQuit 32 = .ok (.iload 5, 2) := by decide +kernel
theorem dX0_firstQuit_34 : decode cX0_firstQuit 34 = .ok (.ireturn, 1) := by decide +kernel
theorem dX0_firstQuit_35 : decode cX0_firstQuit 35 = .ok (.iinc 5 1, 3) := by decide +kernel
theorem dX0_firstQuit_38 : decode cX0_firstQuit 38 = .ok (.goto (-32), 3) := by decide +kernel
theorem dX0_firstQuit_41 : decode cX0_firstQuit 41 = .ok (.iconst (-1), 1) := by decide +kernel
theorem dX0_firstQuit_42 : decode cX0_firstQuit 42 = .ok (.ireturn, 1) := by decide +kernel
abbrev mX0_firstQuit : MI := (yX0_firstQuit, cX0_firstQuit, 6, (some .int))
theorem okX0_firstQuit : cok mX0_firstQuit 3 := ⟨tw993, tw4, by decide, by decide, by decide, by decide +kernel⟩
def fX0_firstQuit (M : Mem) (a0 a1 a2 a3 : Int) : Option Int :=
  iterC (fun (rec1 : (Int × Int) → Option Int) (s2 : Int × Int) => if 60 < s2.2 then (some (-1)) else (if M.2.1 a0 = 0 then (fX0_counts M a0 s2.2).bind fun r4 => if w32 (s2.1 + (w32 (a2 * r4))) < a1 then (rec1 (w32 (s2.1 + (w32 (a2 * r4))), w32 (s2.2 + 1))) else (some s2.2) else none)) BIG (0, a3)
set_option maxRecDepth 100000 in
set_option maxHeartbeats 4000000 in
theorem kX0_firstQuit (d : Nat) (hd : 1 ≤ d) (M : Mem) (a0 a1 a2 a3 : Int) : Ct mX0_firstQuit d 0 0 [pA a0, pI a1, pI a2, pI a3] M (dI M) (fX0_firstQuit M a0 a1 a2 a3) := by
  obtain ⟨d, rfl⟩ : ∃ k, d = k + 1 := ⟨d - 1, by omega⟩
  refine Ct.of 2 (by decide +kernel) rfl ?_
  unfold fX0_firstQuit
  refine v_iconst dX0_firstQuit_0 (by decide) ?_
  refine v_istore (ls' := [some (pA a0), some (pI a1), some (pI a2), some (pI a3), some (pI 0), none]) dX0_firstQuit_1 (by decide) rfl ?_
  refine v_iload_n dX0_firstQuit_3 rfl ?_
  refine v_istore (ls' := [some (pA a0), some (pI a1), some (pI a2), some (pI a3), some (pI 0), some (pI a3)]) dX0_firstQuit_4 (by decide) rfl ?_
  refine v_drop [some (pA a0), some (pI a1), some (pI a2), none, some (pI 0), some (pI a3)] (ls_s (ls_s (ls_s (ls_n (ls_s (ls_s ls_e)))))) ?_
  refine v_loop (fun (s2 : Int × Int) => [some (pA a0), some (pI a1), some (pI a2), none, some (pI s2.1), some (pI s2.2)]) (fun (s2 : Int × Int) => M) (s0 := (0, a3)) ?_
  intro rec1 hrec1 s2
  refine v_iload dX0_firstQuit_6 rfl ?_
  refine v_bipush dX0_firstQuit_8 (by decide) ?_
  refine v_icmp_gt (tgt := 41) dX0_firstQuit_10 (by decide) (fun c3 => ?_) (fun c3 => ?_)
  · refine v_iconst dX0_firstQuit_41 (by decide) ?_
    exact v_ireturn dX0_firstQuit_42 rfl rfl
  · refine v_iload dX0_firstQuit_13 rfl ?_
    refine v_iload_n dX0_firstQuit_15 rfl ?_
    refine v_aload_n dX0_firstQuit_16 rfl ?_
    refine v_iload dX0_firstQuit_17 rfl ?_
    refine v_if (fun h6 => ?_)
    refine v_cV (As := [pI s2.2]) (st := [pI a2, pI s2.1]) (kX0_counts d (by omega) _ _ _) rfl h6 rfl okX0_counts (Or.inl tw994) tw719 tw720 rfl (Nat.le_of_ble_eq_true rfl) dX0_firstQuit_19 (fun r4 => [pI r4, pI a2, pI s2.1]) (fun r4 => M) (fun _ => rfl) (fun _ => rfl) (fun r4 h5 => ?_) rfl
    refine v_imul dX0_firstQuit_22 ?_
    refine v_iadd dX0_firstQuit_23 ?_
    refine v_istore (ls' := [some (pA a0), some (pI a1), some (pI a2), none, some (pI (w32 (s2.1 + (w32 (a2 * r4))))), some (pI s2.2)]) dX0_firstQuit_24 (by decide) rfl ?_
    refine v_iload dX0_firstQuit_26 rfl ?_
    refine v_iload_n dX0_firstQuit_28 rfl ?_
    refine v_icmp_lt (tgt := 35) dX0_firstQuit_29 (by decide) (fun c7 => ?_) (fun c7 => ?_)
    · refine v_iinc (ls' := [some (pA a0), some (pI a1), some (pI a2), none, some (pI (w32 (s2.1 + (w32 (a2 * r4))))), some (pI (w32 (s2.2 + 1)))]) dX0_firstQuit_35 (by decide) rfl rfl ?_
      refine v_goto (tgt := 6) dX0_firstQuit_38 (by decide) ?_
      exact hrec1 (w32 (s2.1 + (w32 (a2 * r4))), w32 (s2.2 + 1))
    · refine v_iload dX0_firstQuit_32 rfl ?_
      exact v_ireturn dX0_firstQuit_34 rfl rfl
theorem dX0_fewestGifts_0 : decode cX0_fewestGifts 0 = .ok (.iload 4, 2) := by decide +kernel
theorem dX0_fewestGifts_2 : decode cX0_fewestGifts 2 = .ok (.iload_n 3, 1) := by decide +kernel
theorem dX0_fewestGifts_3 : decode cX0_fewestGifts 3 = .ok (.if_icmp .ge 5, 3) := by decide +kernel
theorem dX0_fewestGifts_6 : decode cX0_fewestGifts 6 = .ok (.iconst (-1), 1) := by decide +kernel
theorem dX0_fewestGifts_7 : decode cX0_fewestGifts 7 = .ok (.ireturn, 1) := by decide +kernel
theorem dX0_fewestGifts_8 : decode cX0_fewestGifts 8 = .ok (.iconst 0, 1) := by decide +kernel
theorem dX0_fewestGifts_9 : decode cX0_fewestGifts 9 = .ok (.istore 5, 2) := by decide +kernel
theorem dX0_fewestGifts_11 : decode cX0_fewestGifts 11 = .ok (.iconst 0, 1) := by decide +kernel
theorem dX0_fewestGifts_12 : decode cX0_fewestGifts 12 = .ok (.istore 6, 2) := by decide +kernel
theorem dX0_fewestGifts_14 : decode cX0_fewestGifts 14 = .ok (.iload_n 3, 1) := by decide +kernel
theorem dX0_fewestGifts_15 : decode cX0_fewestGifts 15 = .ok (.istore 7, 2) := by decide +kernel
theorem dX0_fewestGifts_17 : decode cX0_fewestGifts 17 = .ok (.iload 7, 2) := by decide +kernel
theorem dX0_fewestGifts_19 : decode cX0_fewestGifts 19 = .ok (.iload 4, 2) := by decide +kernel
theorem dX0_fewestGifts_21 : decode cX0_fewestGifts 21 = .ok (.if_icmp .gt 34, 3) := by decide +kernel
theorem dX0_fewestGifts_24 : decode cX0_fewestGifts 24 = .ok (.aload_n 0, 1) := by decide +kernel
theorem dX0_fewestGifts_25 : decode cX0_fewestGifts 25 = .ok (.iload 7, 2) := by decide +kernel
theorem dX0_fewestGifts_27 : decode cX0_fewestGifts 27 = .ok (.invokevirtual 21, 3) := by decide +kernel
theorem dX0_fewestGifts_30 : decode cX0_fewestGifts 30 = .ok (.iconst 2, 1) := by decide +kernel
theorem dX0_fewestGifts_31 : decode cX0_fewestGifts 31 = .ok (.if_icmp .ne 12, 3) := by decide +kernel
theorem dX0_fewestGifts_34 : decode cX0_fewestGifts 34 = .ok (.iload 5, 2) := by decide +kernel
theorem dX0_fewestGifts_36 : decode cX0_fewestGifts 36 = .ok (.iload_n 2, 1) := by decide +kernel
theorem dX0_fewestGifts_37 : decode cX0_fewestGifts 37 = .ok (.iadd, 1) := by decide +kernel
theorem dX0_fewestGifts_38 : decode cX0_fewestGifts 38 = .ok (.istore 5, 2) := by decide +kernel
theorem dX0_fewestGifts_40 : decode cX0_fewestGifts 40 = .ok (.goto 9, 3) := by decide +kernel
theorem dX0_fewestGifts_43 : decode cX0_fewestGifts 43 = .ok (.iload 6, 2) := by decide +kernel
theorem dX0_fewestGifts_45 : decode cX0_fewestGifts 45 = .ok (.iload_n 2, 1) := by decide +kernel
theorem dX0_fewestGifts_46 : decode cX0_fewestGifts 46 = .ok (.iadd, 1) := by decide +kernel
theorem dX0_fewestGifts_47 : decode cX0_fewestGifts 47 = .ok (.istore 6, 2) := by decide +kernel
theorem dX0_fewestGifts_49 : decode cX0_fewestGifts 49 = .ok (.iinc 7 1, 3) := by decide +kernel
theorem dX0_fewestGifts_52 : decode cX0_fewestGifts 52 = .ok (.goto (-35), 3) := by decide +kernel
theorem dX0_fewestGifts_55 : decode cX0_fewestGifts 55 = .ok (.iload 5, 2) := by decide +kernel
theorem dX0_fewestGifts_57 : decode cX0_fewestGifts 57 = .ok (.iload_n 1, 1) := by decide +kernel
theorem dX0_fewestGifts_58 : decode cX0_fewestGifts 58 = .ok (.iconst 1, 1) := by decide +kernel
theorem dX0_fewestGifts_59 : decode cX0_fewestGifts 59 = .ok (.iadd, 1) := by decide +kernel
theorem dX0_fewestGifts_60 : decode cX0_fewestGifts 60 = .ok (.iconst 2, 1) := by decide +kernel
theorem dX0_fewestGifts_61 : decode cX0_fewestGifts 61 = .ok (.idiv, 1) := by decide +kernel
theorem dX0_fewestGifts_62 : decode cX0_fewestGifts 62 = .ok (.invokestatic 25, 3) := by decide +kernel
theorem dX0_fewestGifts_65 : decode cX0_fewestGifts 65 = .ok (.istore 7, 2) := by decide +kernel
theorem dX0_fewestGifts_67 : decode cX0_fewestGifts 67 = .ok (.iconst 0, 1) := by decide +kernel
theorem dX0_fewestGifts_68 : decode cX0_fewestGifts 68 = .ok (.iload_n 1, 1) := by decide +kernel
theorem dX0_fewestGifts_69 : decode cX0_fewestGifts 69 = .ok (.iconst 2, 1) := by decide +kernel
theorem dX0_fewestGifts_70 : decode cX0_fewestGifts 70 = .ok (.iload 7, 2) := by decide +kernel
theorem dX0_fewestGifts_72 : decode cX0_fewestGifts 72 = .ok (.imul, 1) := by decide +kernel
theorem dX0_fewestGifts_73 : decode cX0_fewestGifts 73 = .ok (.isub, 1) := by decide +kernel
theorem dX0_fewestGifts_74 : decode cX0_fewestGifts 74 = .ok (.invokestatic 31, 3) := by decide +kernel
theorem dX0_fewestGifts_77 : decode cX0_fewestGifts 77 = .ok (.istore 8, 2) := by decide +kernel
theorem dX0_fewestGifts_79 : decode cX0_fewestGifts 79 = .ok (.iload 8, 2) := by decide +kernel
theorem dX0_fewestGifts_81 : decode cX0_fewestGifts 81 = .ok (.iload 6, 2) := by decide +kernel
theorem dX0_fewestGifts_83 : decode cX0_fewestGifts 83 = .ok (.if_icmp .gt 11, 3) := by decide +kernel
theorem dX0_fewestGifts_86 : decode cX0_fewestGifts 86 = .ok (.iload 7, 2) := by decide +kernel
theorem dX0_fewestGifts_88 : decode cX0_fewestGifts 88 = .ok (.iload 8, 2) := by decide +kernel
theorem dX0_fewestGifts_90 : decode cX0_fewestGifts 90 = .ok (.iadd, 1) := by decide +kernel
theorem dX0_fewestGifts_91 : decode cX0_fewestGifts 91 = .ok (.goto 4, 3) := by decide +kernel
theorem dX0_fewestGifts_94 : decode cX0_fewestGifts 94 = .ok (.iconst (-1), 1) := by decide +kernel
theorem dX0_fewestGifts_95 : decode cX0_fewestGifts 95 = .ok (.ireturn, 1) := by decide +kernel
abbrev mX0_fewestGifts : MI := (yX0_fewestGifts, cX0_fewestGifts, 9, (some .int))
theorem okX0_fewestGifts : cok mX0_fewestGifts 4 := ⟨tw998, tw4, by decide, by decide, by decide, by decide +kernel⟩
def fX0_fewestGifts (M : Mem) (a0 a1 a2 a3 a4 : Int) : Option Int :=
  if a4 < a3 then (some (-1)) else (iterC (fun (rec2 : (Int × Int × Int) → Option Int) (s3 : Int × Int × Int) => if a4 < s3.2.2 then (if s3.2.1 < imax 0 (w32 (a1 - (w32 (2 * (imin s3.1 (w32 ((w32 (a1 + 1)).tdiv 2))))))) then (some (-1)) else (some (w32 ((imin s3.1 (w32 ((w32 (a1 + 1)).tdiv 2))) + (imax 0 (w32 (a1 - (w32 (2 * (imin s3.1 (w32 ((w32 (a1 + 1)).tdiv 2)))))))))))) else (if M.2.1 a0 = 0 then (fX0_counts M a0 s3.2.2).bind fun r6 => if r6 = 2 then (rec2 (w32 (s3.1 + a2), s3.2.1, w32 (s3.2.2 + 1))) else (rec2 (s3.1, w32 (s3.2.1 + a2), w32 (s3.2.2 + 1))) else none)) BIG (0, 0, a3))
set_option maxRecDepth 100000 in
set_option maxHeartbeats 4000000 in
theorem kX0_fewestGifts (d : Nat) (hd : 1 ≤ d) (M : Mem) (a0 a1 a2 a3 a4 : Int) : Ct mX0_fewestGifts d 0 0 [pA a0, pI a1, pI a2, pI a3, pI a4] M (dI M) (fX0_fewestGifts M a0 a1 a2 a3 a4) := by
  obtain ⟨d, rfl⟩ : ∃ k, d = k + 1 := ⟨d - 1, by omega⟩
  refine Ct.of 4 (by decide +kernel) rfl ?_
  unfold fX0_fewestGifts
  refine v_iload dX0_fewestGifts_0 rfl ?_
  refine v_iload_n dX0_fewestGifts_2 rfl ?_
  refine v_icmp_ge (tgt := 8) dX0_fewestGifts_3 (by decide) (fun c1 => ?_) (fun c1 => ?_)
  · refine v_iconst dX0_fewestGifts_6 (by decide) ?_
    exact v_ireturn dX0_fewestGifts_7 rfl rfl
  · refine v_iconst dX0_fewestGifts_8 (by decide) ?_
    refine v_istore (ls' := [some (pA a0), some (pI a1), some (pI a2), some (pI a3), some (pI a4), some (pI 0), none, none, none]) dX0_fewestGifts_9 (by decide) rfl ?_
    refine v_iconst dX0_fewestGifts_11 (by decide) ?_
    refine v_istore (ls' := [some (pA a0), some (pI a1), some (pI a2), some (pI a3), some (pI a4), some (pI 0), some (pI 0), none, none]) dX0_fewestGifts_12 (by decide) rfl ?_
    refine v_iload_n dX0_fewestGifts_14 rfl ?_
    refine v_istore (ls' := [some (pA a0), some (pI a1), some (pI a2), some (pI a3), some (pI a4), some (pI 0), some (pI 0), some (pI a3), none]) dX0_fewestGifts_15 (by decide) rfl ?_
    refine v_drop [some (pA a0), some (pI a1), some (pI a2), none, some (pI a4), some (pI 0), some (pI 0), some (pI a3), none] (ls_s (ls_s (ls_s (ls_n (ls_s (ls_s (ls_s (ls_s (ls_n ls_e))))))))) ?_
    refine v_loop (fun (s3 : Int × Int × Int) => [some (pA a0), some (pI a1), some (pI a2), none, some (pI a4), some (pI s3.1), some (pI s3.2.1), some (pI s3.2.2), none]) (fun (s3 : Int × Int × Int) => M) (s0 := (0, 0, a3)) ?_
    intro rec2 hrec2 s3
    refine v_iload dX0_fewestGifts_17 rfl ?_
    refine v_iload dX0_fewestGifts_19 rfl ?_
    refine v_icmp_gt (tgt := 55) dX0_fewestGifts_21 (by decide) (fun c4 => ?_) (fun c4 => ?_)
    · refine v_iload dX0_fewestGifts_55 rfl ?_
      refine v_iload_n dX0_fewestGifts_57 rfl ?_
      refine v_iconst dX0_fewestGifts_58 (by decide) ?_
      refine v_iadd dX0_fewestGifts_59 ?_
      refine v_iconst dX0_fewestGifts_60 (by decide) ?_
      refine v_idiv (by decide) dX0_fewestGifts_61 ?_
      refine v_mmin tw999 tw469 tw12 tw470 (Nat.le_of_ble_eq_true rfl) dX0_fewestGifts_62 ?_
      refine v_istore (ls' := [some (pA a0), some (pI a1), some (pI a2), none, some (pI a4), some (pI s3.1), some (pI s3.2.1), some (pI (imin s3.1 (w32 ((w32 (a1 + 1)).tdiv 2)))), none]) dX0_fewestGifts_65 (by decide) rfl ?_
      refine v_iconst dX0_fewestGifts_67 (by decide) ?_
      refine v_iload_n dX0_fewestGifts_68 rfl ?_
      refine v_iconst dX0_fewestGifts_69 (by decide) ?_
      refine v_iload dX0_fewestGifts_70 rfl ?_
      refine v_imul dX0_fewestGifts_72 ?_
      refine v_isub dX0_fewestGifts_73 ?_
      refine v_mmax tw1000 tw624 tw12 tw625 (Nat.le_of_ble_eq_true rfl) dX0_fewestGifts_74 ?_
      refine v_istore (ls' := [some (pA a0), some (pI a1), some (pI a2), none, some (pI a4), some (pI s3.1), some (pI s3.2.1), some (pI (imin s3.1 (w32 ((w32 (a1 + 1)).tdiv 2)))), some (pI (imax 0 (w32 (a1 - (w32 (2 * (imin s3.1 (w32 ((w32 (a1 + 1)).tdiv 2)))))))))]) dX0_fewestGifts_77 (by decide) rfl ?_
      refine v_iload dX0_fewestGifts_79 rfl ?_
      refine v_iload dX0_fewestGifts_81 rfl ?_
      refine v_icmp_gt (tgt := 94) dX0_fewestGifts_83 (by decide) (fun c5 => ?_) (fun c5 => ?_)
      · refine v_iconst dX0_fewestGifts_94 (by decide) ?_
        exact v_ireturn dX0_fewestGifts_95 rfl rfl
      · refine v_iload dX0_fewestGifts_86 rfl ?_
        refine v_iload dX0_fewestGifts_88 rfl ?_
        refine v_iadd dX0_fewestGifts_90 ?_
        refine v_goto (tgt := 95) dX0_fewestGifts_91 (by decide) ?_
        exact v_ireturn dX0_fewestGifts_95 rfl rfl
    · refine v_aload_n dX0_fewestGifts_24 rfl ?_
      refine v_iload dX0_fewestGifts_25 rfl ?_
      refine v_if (fun h8 => ?_)
      refine v_cV (As := [pI s3.2.2]) (st := []) (kX0_counts d (by omega) _ _ _) rfl h8 rfl okX0_counts (Or.inl tw994) tw719 tw720 rfl (Nat.le_of_ble_eq_true rfl) dX0_fewestGifts_27 (fun r6 => [pI r6]) (fun r6 => M) (fun _ => rfl) (fun _ => rfl) (fun r6 h7 => ?_) rfl
      refine v_iconst dX0_fewestGifts_30 (by decide) ?_
      refine v_icmp_ne (tgt := 43) dX0_fewestGifts_31 (by decide) (fun c9 => ?_) (fun c9 => ?_)
      · refine v_iload dX0_fewestGifts_34 rfl ?_
        refine v_iload_n dX0_fewestGifts_36 rfl ?_
        refine v_iadd dX0_fewestGifts_37 ?_
        refine v_istore (ls' := [some (pA a0), some (pI a1), some (pI a2), none, some (pI a4), some (pI (w32 (s3.1 + a2))), some (pI s3.2.1), some (pI s3.2.2), none]) dX0_fewestGifts_38 (by decide) rfl ?_
        refine v_goto (tgt := 49) dX0_fewestGifts_40 (by decide) ?_
        refine v_iinc (ls' := [some (pA a0), some (pI a1), some (pI a2), none, some (pI a4), some (pI (w32 (s3.1 + a2))), some (pI s3.2.1), some (pI (w32 (s3.2.2 + 1))), none]) dX0_fewestGifts_49 (by decide) rfl rfl ?_
        refine v_goto (tgt := 17) dX0_fewestGifts_52 (by decide) ?_
        exact hrec2 (w32 (s3.1 + a2), s3.2.1, w32 (s3.2.2 + 1))
      · refine v_iload dX0_fewestGifts_43 rfl ?_
        refine v_iload_n dX0_fewestGifts_45 rfl ?_
        refine v_iadd dX0_fewestGifts_46 ?_
        refine v_istore (ls' := [some (pA a0), some (pI a1), some (pI a2), none, some (pI a4), some (pI s3.1), some (pI (w32 (s3.2.1 + a2))), some (pI s3.2.2), none]) dX0_fewestGifts_47 (by decide) rfl ?_
        refine v_iinc (ls' := [some (pA a0), some (pI a1), some (pI a2), none, some (pI a4), some (pI s3.1), some (pI (w32 (s3.2.1 + a2))), some (pI (w32 (s3.2.2 + 1))), none]) dX0_fewestGifts_49 (by decide) rfl rfl ?_
        refine v_goto (tgt := 17) dX0_fewestGifts_52 (by decide) ?_
        exact hrec2 (s3.1, w32 (s3.2.1 + a2), w32 (s3.2.2 + 1))
end
section
theorem dX1_init_0 : decode cX1_init 0 = .ok (.aload_n 0, 1) := by decide +kernel
theorem dX1_init_1 : decode cX1_init 1 = .ok (.invokespecial 3, 3) := by decide +kernel
theorem dX1_init_4 : decode cX1_init 4 = .ok (.aload_n 0, 1) := by decide +kernel
theorem dX1_init_5 : decode cX1_init 5 = .ok (.iconst 0, 1) := by decide +kernel
theorem dX1_init_6 : decode cX1_init 6 = .ok (.putfield 9, 3) := by decide +kernel
theorem dX1_init_9 : decode cX1_init 9 = .ok (.aload_n 0, 1) := by decide +kernel
theorem dX1_init_10 : decode cX1_init 10 = .ok (.bipush 40, 2) := by decide +kernel
theorem dX1_init_12 : decode cX1_init 12 = .ok (.newarray .int, 2) := by decide +kernel
theorem dX1_init_14 : decode cX1_init 14 = .ok (.putfield 15, 3) := by decide +kernel
theorem dX1_init_17 : decode cX1_init 17 = .ok (.aload_n 0, 1) := by decide +kernel
theorem dX1_init_18 : decode cX1_init 18 = .ok (.bipush 40, 2) := by decide +kernel
theorem dX1_init_20 : decode cX1_init 20 = .ok (.newarray .int, 2) := by decide +kernel
theorem dX1_init_22 : decode cX1_init 22 = .ok (.putfield 19, 3) := by decide +kernel
theorem dX1_init_25 : decode cX1_init 25 = .ok (.aload_n 0, 1) := by decide +kernel
theorem dX1_init_26 : decode cX1_init 26 = .ok (.bipush 40, 2) := by decide +kernel
theorem dX1_init_28 : decode cX1_init 28 = .ok (.newarray .int, 2) := by decide +kernel
theorem dX1_init_30 : decode cX1_init 30 = .ok (.putfield 22, 3) := by decide +kernel
theorem dX1_init_33 : decode cX1_init 33 = .ok (.aload_n 0, 1) := by decide +kernel
theorem dX1_init_34 : decode cX1_init 34 = .ok (.bipush 40, 2) := by decide +kernel
theorem dX1_init_36 : decode cX1_init 36 = .ok (.newarray .int, 2) := by decide +kernel
theorem dX1_init_38 : decode cX1_init 38 = .ok (.putfield 25, 3) := by decide +kernel
theorem dX1_init_41 : decode cX1_init 41 = .ok (.return_, 1) := by decide +kernel
abbrev mX1_init : MI := (yX1_init, cX1_init, 1, none)
theorem okX1_init : cok mX1_init 0 := ⟨tw146, tw5, by decide, by decide, by decide, by decide +kernel⟩
def fX1_init (M : Mem) (a0 : Int) : Option Mem :=
  if 0 ≤ a0 then if M.2.1 a0 = 1 then bM (mst M a0 0 0) fun M3 => bM (mnew M3 12 40) fun M5 => if M5.2.1 a0 = 1 then if -1 ≤ (M3.2.2.2 : Int) then bM (mst M5 a0 1 (M3.2.2.2 : Int)) fun M9 => bM (mnew M9 12 40) fun M11 => if M11.2.1 a0 = 1 then if -1 ≤ (M9.2.2.2 : Int) then bM (mst M11 a0 2 (M9.2.2.2 : Int)) fun M15 => bM (mnew M15 12 40) fun M17 => if M17.2.1 a0 = 1 then if -1 ≤ (M15.2.2.2 : Int) then bM (mst M17 a0 3 (M15.2.2.2 : Int)) fun M21 => bM (mnew M21 12 40) fun M23 => if M23.2.1 a0 = 1 then if -1 ≤ (M21.2.2.2 : Int) then bM (mst M23 a0 4 (M21.2.2.2 : Int)) fun M27 => some M27 else none else none else none else none else none else none else none else none else none else none
set_option maxRecDepth 100000 in
set_option maxHeartbeats 4000000 in
theorem kX1_init (d : Nat) (hd : 1 ≤ d) (M : Mem) (a0 : Int) : Ct mX1_init d 4 160 [pA a0] M dV (fX1_init M a0) := by
  obtain ⟨d, rfl⟩ : ∃ k, d = k + 1 := ⟨d - 1, by omega⟩
  refine Ct.of 0 (by decide +kernel) rfl ?_
  unfold fX1_init
  refine v_aload_n dX1_init_0 rfl ?_
  refine v_if (fun h1 => ?_)
  refine v_objInit (mi := mX1_init) h1 tw147 tw26 tw27 (Nat.le_of_ble_eq_true rfl) dX1_init_1 ?_
  refine v_aload_n dX1_init_4 rfl ?_
  refine v_iconst dX1_init_5 (by decide) ?_
  refine v_if (fun h2 => ?_)
  refine v_put (x := 0) 1 0 rfl inX1 (by decide) tw148 (Or.inl rfl) rfl dX1_init_6 h2 rfl id ?_
  refine v_bM (fun M3 e4 => ?_)
  refine v_aload_n dX1_init_9 rfl ?_
  refine v_bipush dX1_init_10 (by decide) ?_
  refine v_newarray (t := .int) (n := 40) 12 (by decide) (by decide) tw121 dX1_init_12 ?_
  refine v_bM (fun M5 e6 => ?_)
  refine v_if (fun h7 => ?_)
  refine v_if (fun h8 => ?_)
  refine v_put (x := (M3.2.2.2 : Int)) 1 1 rfl inX1 (by decide) tw152 (Or.inr ⟨rfl, rfl, rfl⟩) rfl dX1_init_14 h7 rfl (fun _ => h8) ?_
  refine v_bM (fun M9 e10 => ?_)
  refine v_aload_n dX1_init_17 rfl ?_
  refine v_bipush dX1_init_18 (by decide) ?_
  refine v_newarray (t := .int) (n := 40) 12 (by decide) (by decide) tw121 dX1_init_20 ?_
  refine v_bM (fun M11 e12 => ?_)
  refine v_if (fun h13 => ?_)
  refine v_if (fun h14 => ?_)
  refine v_put (x := (M9.2.2.2 : Int)) 1 2 rfl inX1 (by decide) tw155 (Or.inr ⟨rfl, rfl, rfl⟩) rfl dX1_init_22 h13 rfl (fun _ => h14) ?_
  refine v_bM (fun M15 e16 => ?_)
  refine v_aload_n dX1_init_25 rfl ?_
  refine v_bipush dX1_init_26 (by decide) ?_
  refine v_newarray (t := .int) (n := 40) 12 (by decide) (by decide) tw121 dX1_init_28 ?_
  refine v_bM (fun M17 e18 => ?_)
  refine v_if (fun h19 => ?_)
  refine v_if (fun h20 => ?_)
  refine v_put (x := (M15.2.2.2 : Int)) 1 3 rfl inX1 (by decide) tw158 (Or.inr ⟨rfl, rfl, rfl⟩) rfl dX1_init_30 h19 rfl (fun _ => h20) ?_
  refine v_bM (fun M21 e22 => ?_)
  refine v_aload_n dX1_init_33 rfl ?_
  refine v_bipush dX1_init_34 (by decide) ?_
  refine v_newarray (t := .int) (n := 40) 12 (by decide) (by decide) tw121 dX1_init_36 ?_
  refine v_bM (fun M23 e24 => ?_)
  refine v_if (fun h25 => ?_)
  refine v_if (fun h26 => ?_)
  refine v_put (x := (M21.2.2.2 : Int)) 1 4 rfl inX1 (by decide) tw161 (Or.inr ⟨rfl, rfl, rfl⟩) rfl dX1_init_38 h25 rfl (fun _ => h26) ?_
  refine v_bM (fun M27 e28 => ?_)
  exact v_return dX1_init_41 rfl rfl
theorem dX1_clear_0 : decode cX1_clear 0 = .ok (.aload_n 0, 1) := by decide +kernel
theorem dX1_clear_1 : decode cX1_clear 1 = .ok (.iconst 0, 1) := by decide +kernel
theorem dX1_clear_2 : decode cX1_clear 2 = .ok (.putfield 9, 3) := by decide +kernel
theorem dX1_clear_5 : decode cX1_clear 5 = .ok (.return_, 1) := by decide +kernel
abbrev mX1_clear : MI := (yX1_clear, cX1_clear, 1, none)
theorem okX1_clear : cok mX1_clear 0 := ⟨tw483, tw5, by decide, by decide, by decide, by decide +kernel⟩
def fX1_clear (M : Mem) (a0 : Int) : Option Mem :=
  if M.2.1 a0 = 1 then bM (mst M a0 0 0) fun M2 => some M2 else none
set_option maxRecDepth 100000 in
set_option maxHeartbeats 4000000 in
theorem kX1_clear (d : Nat) (hd : 0 ≤ d) (M : Mem) (a0 : Int) : Ct mX1_clear d 0 0 [pA a0] M dV (fX1_clear M a0) := by
  refine Ct.of 0 (by decide +kernel) rfl ?_
  unfold fX1_clear
  refine v_aload_n dX1_clear_0 rfl ?_
  refine v_iconst dX1_clear_1 (by decide) ?_
  refine v_if (fun h1 => ?_)
  refine v_put (x := 0) 1 0 rfl inX1 (by decide) tw148 (Or.inl rfl) rfl dX1_clear_2 h1 rfl id ?_
  refine v_bM (fun M2 e3 => ?_)
  exact v_return dX1_clear_5 rfl rfl
theorem dX1_add_0 : decode cX1_add 0 = .ok (.aload_n 0, 1) := by decide +kernel
theorem dX1_add_1 : decode cX1_add 1 = .ok (.getfield 9, 3) := by decide +kernel
theorem dX1_add_4 : decode cX1_add 4 = .ok (.bipush 40, 2) := by decide +kernel
theorem dX1_add_6 : decode cX1_add 6 = .ok (.if_icmp .ge 54, 3) := by decide +kernel
theorem dX1_add_9 : decode cX1_add 9 = .ok (.aload_n 0, 1) := by decide +kernel
theorem dX1_add_10 : decode cX1_add 10 = .ok (.getfield 15, 3) := by decide +kernel
theorem dX1_add_13 : decode cX1_add 13 = .ok (.aload_n 0, 1) := by decide +kernel
theorem dX1_add_14 : decode cX1_add 14 = .ok (.getfield 9, 3) := by decide +kernel
theorem dX1_add_17 : decode cX1_add 17 = .ok (.iload_n 1, 1) := by decide +kernel
theorem dX1_add_18 : decode cX1_add 18 = .ok (.iastore, 1) := by decide +kernel
theorem dX1_add_19 : decode cX1_add 19 = .ok (.aload_n 0, 1) := by decide +kernel
theorem dX1_add_20 : decode cX1_add 20 = .ok (.getfield 19, 3) := by decide +kernel
theorem dX1_add_23 : decode cX1_add 23 = .ok (.aload_n 0, 1) := by decide +kernel
theorem dX1_add_24 : decode cX1_add 24 = .ok (.getfield 9, 3) := by decide +kernel
theorem dX1_add_27 : decode cX1_add 27 = .ok (.iload_n 2, 1) := by decide +kernel
theorem dX1_add_28 : decode cX1_add 28 = .ok (.iastore, 1) := by decide +kernel
theorem dX1_add_29 : decode cX1_add 29 = .ok (.aload_n 0, 1) := by decide +kernel
theorem dX1_add_30 : decode cX1_add 30 = .ok (.getfield 22, 3) := by decide +kernel
theorem dX1_add_33 : decode cX1_add 33 = .ok (.aload_n 0, 1) := by decide +kernel
theorem dX1_add_34 : decode cX1_add 34 = .ok (.getfield 9, 3) := by decide +kernel
theorem dX1_add_37 : decode cX1_add 37 = .ok (.iload_n 3, 1) := by decide +kernel
theorem dX1_add_38 : decode cX1_add 38 = .ok (.iastore, 1) := by decide +kernel
theorem dX1_add_39 : decode cX1_add 39 = .ok (.aload_n 0, 1) := by decide +kernel
theorem dX1_add_40 : decode cX1_add 40 = .ok (.getfield 25, 3) := by decide +kernel
theorem dX1_add_43 : decode cX1_add 43 = .ok (.aload_n 0, 1) := by decide +kernel
theorem dX1_add_44 : decode cX1_add 44 = .ok (.getfield 9, 3) := by decide +kernel
theorem dX1_add_47 : decode cX1_add 47 = .ok (.iload 4, 2) := by decide +kernel
theorem dX1_add_49 : decode cX1_add 49 = .ok (.iastore, 1) := by decide +kernel
theorem dX1_add_50 : decode cX1_add 50 = .ok (.aload_n 0, 1) := by decide +kernel
theorem dX1_add_51 : decode cX1_add 51 = .ok (.dup, 1) := by decide +kernel
theorem dX1_add_52 : decode cX1_add 52 = .ok (.getfield 9, 3) := by decide +kernel
theorem dX1_add_55 : decode cX1_add 55 = .ok (.iconst 1, 1) := by decide +kernel
theorem dX1_add_56 : decode cX1_add 56 = .ok (.iadd, 1) := by decide +kernel
theorem dX1_add_57 : decode cX1_add 57 = .ok (.putfield 9, 3) := by decide +kernel
theorem dX1_add_60 : decode cX1_add 60 = .ok (.return_, 1) := by decide +kernel
abbrev mX1_add : MI := (yX1_add, cX1_add, 5, none)
theorem okX1_add : cok mX1_add 4 := ⟨tw637, tw5, by decide, by decide, by decide, by decide +kernel⟩
def fX1_add (M : Mem) (a0 a1 a2 a3 a4 : Int) : Option Mem :=
  if M.2.1 a0 = 1 then if M.1 a0 0 < 40 then (if M.2.1 (M.1 a0 1) = 12 ∧ 0 ≤ (M.1 a0 0) ∧ (M.1 a0 0) < M.2.2.1 (M.1 a0 1) then bM (mst M (M.1 a0 1) (M.1 a0 0) a1) fun M4 => if M4.2.1 (M4.1 a0 2) = 12 ∧ 0 ≤ (M4.1 a0 0) ∧ (M4.1 a0 0) < M4.2.2.1 (M4.1 a0 2) then bM (mst M4 (M4.1 a0 2) (M4.1 a0 0) a2) fun M7 => if M7.2.1 (M7.1 a0 3) = 12 ∧ 0 ≤ (M7.1 a0 0) ∧ (M7.1 a0 0) < M7.2.2.1 (M7.1 a0 3) then bM (mst M7 (M7.1 a0 3) (M7.1 a0 0) a3) fun M10 => if M10.2.1 (M10.1 a0 4) = 12 ∧ 0 ≤ (M10.1 a0 0) ∧ (M10.1 a0 0) < M10.2.2.1 (M10.1 a0 4) then bM (mst M10 (M10.1 a0 4) (M10.1 a0 0) a4) fun M13 => bM (mst M13 a0 0 (w32 ((M13.1 a0 0) + 1))) fun M15 => some M15 else none else none else none else none) else (some M) else none
set_option maxRecDepth 100000 in
set_option maxHeartbeats 4000000 in
theorem kX1_add (d : Nat) (hd : 0 ≤ d) (M : Mem) (a0 a1 a2 a3 a4 : Int) : Ct mX1_add d 0 0 [pA a0, pI a1, pI a2, pI a3, pI a4] M dV (fX1_add M a0 a1 a2 a3 a4) := by
  refine Ct.of 0 (by decide +kernel) rfl ?_
  unfold fX1_add
  refine v_aload_n dX1_add_0 rfl ?_
  refine v_if (fun h1 => ?_)
  refine v_get (v := pI (M.1 a0 0)) 1 0 rfl inX1 (by decide) tw148 dX1_add_1 h1 rfl ?_
  refine v_bipush dX1_add_4 (by decide) ?_
  refine v_icmp_ge (tgt := 60) dX1_add_6 (by decide) (fun c2 => ?_) (fun c2 => ?_)
  · refine v_aload_n dX1_add_9 rfl ?_
    refine v_get (v := pA (M.1 a0 1)) 1 1 rfl inX1 (by decide) tw152 dX1_add_10 h1 rfl ?_
    refine v_aload_n dX1_add_13 rfl ?_
    refine v_get (v := pI (M.1 a0 0)) 1 0 rfl inX1 (by decide) tw148 dX1_add_14 h1 rfl ?_
    refine v_iload_n dX1_add_17 rfl ?_
    refine v_if (fun h3 => ?_)
    refine v_iastore h3 dX1_add_18 ?_
    refine v_bM (fun M4 e5 => ?_)
    refine v_aload_n dX1_add_19 rfl ?_
    refine v_get (v := pA (M4.1 a0 2)) 1 2 rfl inX1 (by decide) tw155 dX1_add_20 (by rw [e5]; exact h1) rfl ?_
    refine v_aload_n dX1_add_23 rfl ?_
    refine v_get (v := pI (M4.1 a0 0)) 1 0 rfl inX1 (by decide) tw148 dX1_add_24 (by rw [e5]; exact h1) rfl ?_
    refine v_iload_n dX1_add_27 rfl ?_
    refine v_if (fun h6 => ?_)
    refine v_iastore h6 dX1_add_28 ?_
    refine v_bM (fun M7 e8 => ?_)
    refine v_aload_n dX1_add_29 rfl ?_
    refine v_get (v := pA (M7.1 a0 3)) 1 3 rfl inX1 (by decide) tw158 dX1_add_30 (by rw [e8, e5]; exact h1) rfl ?_
    refine v_aload_n dX1_add_33 rfl ?_
    refine v_get (v := pI (M7.1 a0 0)) 1 0 rfl inX1 (by decide) tw148 dX1_add_34 (by rw [e8, e5]; exact h1) rfl ?_
    refine v_iload_n dX1_add_37 rfl ?_
    refine v_if (fun h9 => ?_)
    refine v_iastore h9 dX1_add_38 ?_
    refine v_bM (fun M10 e11 => ?_)
    refine v_aload_n dX1_add_39 rfl ?_
    refine v_get (v := pA (M10.1 a0 4)) 1 4 rfl inX1 (by decide) tw161 dX1_add_40 (by rw [e11, e8, e5]; exact h1) rfl ?_
    refine v_aload_n dX1_add_43 rfl ?_
    refine v_get (v := pI (M10.1 a0 0)) 1 0 rfl inX1 (by decide) tw148 dX1_add_44 (by rw [e11, e8, e5]; exact h1) rfl ?_
    refine v_iload dX1_add_47 rfl ?_
    refine v_if (fun h12 => ?_)
    refine v_iastore h12 dX1_add_49 ?_
    refine v_bM (fun M13 e14 => ?_)
    refine v_aload_n dX1_add_50 rfl ?_
    refine v_dup dX1_add_51 (by intro z hz; cases hz) ?_
    refine v_get (v := pI (M13.1 a0 0)) 1 0 rfl inX1 (by decide) tw148 dX1_add_52 (by rw [e14, e11, e8, e5]; exact h1) rfl ?_
    refine v_iconst dX1_add_55 (by decide) ?_
    refine v_iadd dX1_add_56 ?_
    refine v_put (x := w32 ((M13.1 a0 0) + 1)) 1 0 rfl inX1 (by decide) tw148 (Or.inl rfl) rfl dX1_add_57 (by rw [e14, e11, e8, e5]; exact h1) rfl id ?_
    refine v_bM (fun M15 e16 => ?_)
    exact v_return dX1_add_60 rfl rfl
  · exact v_return dX1_add_60 rfl rfl
theorem dX10_copyRow_0 : decode cX10_copyRow 0 = .ok (.aload_n 0, 1) := by decide +kernel
theorem dX10_copyRow_1 : decode cX10_copyRow 1 = .ok (.iconst 0, 1) := by decide +kernel
theorem dX10_copyRow_2 : decode cX10_copyRow 2 = .ok (.aload_n 1, 1) := by decide +kernel
theorem dX10_copyRow_3 : decode cX10_copyRow 3 = .ok (.iconst 0, 1) := by decide +kernel
theorem dX10_copyRow_4 : decode cX10_copyRow 4 = .ok (.aload_n 0, 1) := by decide +kernel
theorem dX10_copyRow_5 : decode cX10_copyRow 5 = .ok (.arraylength, 1) := by decide +kernel
theorem dX10_copyRow_6 : decode cX10_copyRow 6 = .ok (.aload_n 1, 1) := by decide +kernel
theorem dX10_copyRow_7 : decode cX10_copyRow 7 = .ok (.arraylength, 1) := by decide +kernel
theorem dX10_copyRow_8 : decode cX10_copyRow 8 = .ok (.invokestatic 344, 3) := by decide +kernel
theorem dX10_copyRow_11 : decode cX10_copyRow 11 = .ok (.invokestatic 349, 3) := by decide +kernel
theorem dX10_copyRow_14 : decode cX10_copyRow 14 = .ok (.return_, 1) := by decide +kernel
abbrev mX10_copyRow : MI := (yX10_copyRow, cX10_copyRow, 2, none)
theorem okX10_copyRow : cok mX10_copyRow 2 := ⟨tw652, tw1, by decide, by decide, by decide, by decide +kernel⟩
def fX10_copyRow (M : Mem) (a0 a1 : Int) : Option Mem :=
  if 11 ≤ M.2.1 a0 then if 11 ≤ M.2.1 a1 then if (M.2.1 a0 = 11 ∨ M.2.1 a0 = 12) ∧ M.2.1 a1 = M.2.1 a0 ∧ 0 ≤ (imin (M.2.2.1 a0) (M.2.2.1 a1)) ∧ (imin (M.2.2.1 a0) (M.2.2.1 a1)) ≤ M.2.2.1 a0 ∧ (imin (M.2.2.1 a0) (M.2.2.1 a1)) ≤ M.2.2.1 a1 then bM (mcp M a0 a1 (imin (M.2.2.1 a0) (M.2.2.1 a1))) fun M4 => some M4 else none else none else none
set_option maxRecDepth 100000 in
set_option maxHeartbeats 4000000 in
theorem kX10_copyRow (d : Nat) (hd : 1 ≤ d) (M : Mem) (a0 a1 : Int) : Ct mX10_copyRow d 0 0 [pA a0, pA a1] M dV (fX10_copyRow M a0 a1) := by
  obtain ⟨d, rfl⟩ : ∃ k, d = k + 1 := ⟨d - 1, by omega⟩
  refine Ct.of 0 (by decide +kernel) rfl ?_
  unfold fX10_copyRow
  refine v_aload_n dX10_copyRow_0 rfl ?_
  refine v_iconst dX10_copyRow_1 (by decide) ?_
  refine v_aload_n dX10_copyRow_2 rfl ?_
  refine v_iconst dX10_copyRow_3 (by decide) ?_
  refine v_aload_n dX10_copyRow_4 rfl ?_
  refine v_if (fun h1 => ?_)
  refine v_alen h1 dX10_copyRow_5 ?_
  refine v_aload_n dX10_copyRow_6 rfl ?_
  refine v_if (fun h2 => ?_)
  refine v_alen h2 dX10_copyRow_7 ?_
  refine v_mmin (mi := mX10_copyRow) tw653 tw469 tw12 tw470 (Nat.le_of_ble_eq_true rfl) dX10_copyRow_8 ?_
  refine v_if (fun h3 => ?_)
  refine v_acopy (mi := mX10_copyRow) h3 tw654 tw655 tw656 tw17 (Nat.le_of_ble_eq_true rfl) dX10_copyRow_11 ?_
  refine v_bM (fun M4 e5 => ?_)
  exact v_return dX10_copyRow_14 rfl rfl
theorem dX1_copy_0 : decode cX1_copy 0 = .ok (.aload_n 0, 1) := by decide +kernel
theorem dX1_copy_1 : decode cX1_copy 1 = .ok (.aload_n 1, 1) := by decide +kernel
theorem dX1_copy_2 : decode cX1_copy 2 = .ok (.getfield 9, 3) := by decide +kernel
theorem dX1_copy_5 : decode cX1_copy 5 = .ok (.putfield 9, 3) := by decide +kernel
theorem dX1_copy_8 : decode cX1_copy 8 = .ok (.aload_n 1, 1) := by decide +kernel
theorem dX1_copy_9 : decode cX1_copy 9 = .ok (.getfield 15, 3) := by decide +kernel
theorem dX1_copy_12 : decode cX1_copy 12 = .ok (.aload_n 0, 1) := by decide +kernel
theorem dX1_copy_13 : decode cX1_copy 13 = .ok (.getfield 15, 3) := by decide +kernel
theorem dX1_copy_16 : decode cX1_copy 16 = .ok (.invokestatic 28, 3) := by decide +kernel
theorem dX1_copy_19 : decode cX1_copy 19 = .ok (.aload_n 1, 1) := by decide +kernel
theorem dX1_copy_20 : decode cX1_copy 20 = .ok (.getfield 19, 3) := by decide +kernel
theorem dX1_copy_23 : decode cX1_copy 23 = .ok (.aload_n 0, 1) := by decide +kernel
theorem dX1_copy_24 : decode cX1_copy 24 = .ok (.getfield 19, 3) := by decide +kernel
theorem dX1_copy_27 : decode cX1_copy 27 = .ok (.invokestatic 28, 3) := by decide +kernel
theorem dX1_copy_30 : decode cX1_copy 30 = .ok (.aload_n 1, 1) := by decide +kernel
theorem dX1_copy_31 : decode cX1_copy 31 = .ok (.getfield 22, 3) := by decide +kernel
theorem dX1_copy_34 : decode cX1_copy 34 = .ok (.aload_n 0, 1) := by decide +kernel
theorem dX1_copy_35 : decode cX1_copy 35 = .ok (.getfield 22, 3) := by decide +kernel
theorem dX1_copy_38 : decode cX1_copy 38 = .ok (.invokestatic 28, 3) := by decide +kernel
theorem dX1_copy_41 : decode cX1_copy 41 = .ok (.aload_n 1, 1) := by decide +kernel
theorem dX1_copy_42 : decode cX1_copy 42 = .ok (.getfield 25, 3) := by decide +kernel
theorem dX1_copy_45 : decode cX1_copy 45 = .ok (.aload_n 0, 1) := by decide +kernel
theorem dX1_copy_46 : decode cX1_copy 46 = .ok (.getfield 25, 3) := by decide +kernel
theorem dX1_copy_49 : decode cX1_copy 49 = .ok (.invokestatic 28, 3) := by decide +kernel
theorem dX1_copy_52 : decode cX1_copy 52 = .ok (.return_, 1) := by decide +kernel
abbrev mX1_copy : MI := (yX1_copy, cX1_copy, 2, none)
theorem okX1_copy : cok mX1_copy 1 := ⟨tw664, tw5, by decide, by decide, by decide, by decide +kernel⟩
def fX1_copy (M : Mem) (a0 a1 : Int) : Option Mem :=
  if M.2.1 a1 = 1 then if M.2.1 a0 = 1 then bM (mst M a0 0 (M.1 a1 0)) fun M3 => (fX10_copyRow M3 (M3.1 a1 1) (M3.1 a0 1)).bind fun r5 => if r5.2.1 a1 = 1 then if r5.2.1 a0 = 1 then (fX10_copyRow r5 (r5.1 a1 2) (r5.1 a0 2)).bind fun r9 => if r9.2.1 a1 = 1 then if r9.2.1 a0 = 1 then (fX10_copyRow r9 (r9.1 a1 3) (r9.1 a0 3)).bind fun r13 => if r13.2.1 a1 = 1 then if r13.2.1 a0 = 1 then (fX10_copyRow r13 (r13.1 a1 4) (r13.1 a0 4)).bind fun r17 => some r17 else none else none else none else none else none else none else none else none
set_option maxRecDepth 100000 in
set_option maxHeartbeats 4000000 in
theorem kX1_copy (d : Nat) (hd : 2 ≤ d) (M : Mem) (a0 a1 : Int) : Ct mX1_copy d 0 0 [pA a0, pA a1] M dV (fX1_copy M a0 a1) := by
  obtain ⟨d, rfl⟩ : ∃ k, d = k + 1 := ⟨d - 1, by omega⟩
  refine Ct.of 0 (by decide +kernel) rfl ?_
  unfold fX1_copy
  refine v_aload_n dX1_copy_0 rfl ?_
  refine v_aload_n dX1_copy_1 rfl ?_
  refine v_if (fun h1 => ?_)
  refine v_get (v := pI (M.1 a1 0)) 1 0 rfl inX1 (by decide) tw148 dX1_copy_2 h1 rfl ?_
  refine v_if (fun h2 => ?_)
  refine v_put (x := M.1 a1 0) 1 0 rfl inX1 (by decide) tw148 (Or.inl rfl) rfl dX1_copy_5 h2 rfl id ?_
  refine v_bM (fun M3 e4 => ?_)
  refine v_aload_n dX1_copy_8 rfl ?_
  refine v_get (v := pA (M3.1 a1 1)) 1 1 rfl inX1 (by decide) tw152 dX1_copy_9 (by rw [e4]; exact h1) rfl ?_
  refine v_aload_n dX1_copy_12 rfl ?_
  refine v_get (v := pA (M3.1 a0 1)) 1 1 rfl inX1 (by decide) tw152 dX1_copy_13 (by rw [e4]; exact h2) rfl ?_
  refine v_cS (mi := mX1_copy) (As := [pA (M3.1 a1 1), pA (M3.1 a0 1)]) (st := []) (kX10_copyRow d (by omega) _ _ _) okX10_copyRow (Or.inr nw10) tw651 rfl (Nat.le_of_ble_eq_true rfl) dX1_copy_16 (fun r5 => []) (fun r5 => r5) (fun _ => rfl) (fun _ => rfl) (fun r5 h6 => ?_) rfl
  refine v_aload_n dX1_copy_19 rfl ?_
  refine v_if (fun h7 => ?_)
  refine v_get (v := pA (r5.1 a1 2)) 1 2 rfl inX1 (by decide) tw155 dX1_copy_20 h7 rfl ?_
  refine v_aload_n dX1_copy_23 rfl ?_
  refine v_if (fun h8 => ?_)
  refine v_get (v := pA (r5.1 a0 2)) 1 2 rfl inX1 (by decide) tw155 dX1_copy_24 h8 rfl ?_
  refine v_cS (mi := mX1_copy) (As := [pA (r5.1 a1 2), pA (r5.1 a0 2)]) (st := []) (kX10_copyRow d (by omega) _ _ _) okX10_copyRow (Or.inr nw10) tw651 rfl (Nat.le_of_ble_eq_true rfl) dX1_copy_27 (fun r9 => []) (fun r9 => r9) (fun _ => rfl) (fun _ => rfl) (fun r9 h10 => ?_) rfl
  refine v_aload_n dX1_copy_30 rfl ?_
  refine v_if (fun h11 => ?_)
  refine v_get (v := pA (r9.1 a1 3)) 1 3 rfl inX1 (by decide) tw158 dX1_copy_31 h11 rfl ?_
  refine v_aload_n dX1_copy_34 rfl ?_
  refine v_if (fun h12 => ?_)
  refine v_get (v := pA (r9.1 a0 3)) 1 3 rfl inX1 (by decide) tw158 dX1_copy_35 h12 rfl ?_
  refine v_cS (mi := mX1_copy) (As := [pA (r9.1 a1 3), pA (r9.1 a0 3)]) (st := []) (kX10_copyRow d (by omega) _ _ _) okX10_copyRow (Or.inr nw10) tw651 rfl (Nat.le_of_ble_eq_true rfl) dX1_copy_38 (fun r13 => []) (fun r13 => r13) (fun _ => rfl) (fun _ => rfl) (fun r13 h14 => ?_) rfl
  refine v_aload_n dX1_copy_41 rfl ?_
  refine v_if (fun h15 => ?_)
  refine v_get (v := pA (r13.1 a1 4)) 1 4 rfl inX1 (by decide) tw161 dX1_copy_42 h15 rfl ?_
  refine v_aload_n dX1_copy_45 rfl ?_
  refine v_if (fun h16 => ?_)
  refine v_get (v := pA (r13.1 a0 4)) 1 4 rfl inX1 (by decide) tw161 dX1_copy_46 h16 rfl ?_
  refine v_cS (mi := mX1_copy) (As := [pA (r13.1 a1 4), pA (r13.1 a0 4)]) (st := []) (kX10_copyRow d (by omega) _ _ _) okX10_copyRow (Or.inr nw10) tw651 rfl (Nat.le_of_ble_eq_true rfl) dX1_copy_49 (fun r17 => []) (fun r17 => r17) (fun _ => rfl) (fun _ => rfl) (fun r17 h18 => ?_) rfl
  exact v_return dX1_copy_52 rfl rfl
theorem dX10_fillRow_0 : decode cX10_fillRow 0 = .ok (.iconst 0, 1) := by decide +kernel
theorem dX10_fillRow_1 : decode cX10_fillRow 1 = .ok (.istore_n 2, 1) := by decide +kernel
theorem dX10_fillRow_2 : decode cX10_fillRow 2 = .ok (.iload_n 2, 1) := by decide +kernel
theorem dX10_fillRow_3 : decode cX10_fillRow 3 = .ok (.aload_n 0, 1) := by decide +kernel
theorem dX10_fillRow_4 : decode cX10_fillRow 4 = .ok (.arraylength, 1) := by decide +kernel
theorem dX10_fillRow_5 : decode cX10_fillRow 5 = .ok (.if_icmp .ge 13, 3) := by decide +kernel
theorem dX10_fillRow_8 : decode cX10_fillRow 8 = .ok (.aload_n 0, 1) := by decide +kernel
theorem dX10_fillRow_9 : decode cX10_fillRow 9 = .ok (.iload_n 2, 1) := by decide +kernel
theorem dX10_fillRow_10 : decode cX10_fillRow 10 = .ok (.iload_n 1, 1) := by decide +kernel
theorem dX10_fillRow_11 : decode cX10_fillRow 11 = .ok (.iastore, 1) := by decide +kernel
theorem dX10_fillRow_12 : decode cX10_fillRow 12 = .ok (.iinc 2 1, 3) := by decide +kernel
theorem dX10_fillRow_15 : decode cX10_fillRow 15 = .ok (.goto (-13), 3) := by decide +kernel
theorem dX10_fillRow_18 : decode cX10_fillRow 18 = .ok (.return_, 1) := by decide +kernel
abbrev mX10_fillRow : MI := (yX10_fillRow, cX10_fillRow, 3, none)
theorem okX10_fillRow : cok mX10_fillRow 2 := ⟨tw53, tw1, by decide, by decide, by decide, by decide +kernel⟩
def fX10_fillRow (M : Mem) (a0 a1 : Int) : Option Mem :=
  iterC (fun (rec1 : (Int × Mem) → Option Mem) (s2 : Int × Mem) => if 11 ≤ s2.2.2.1 a0 then if s2.1 < s2.2.2.2.1 a0 then (if s2.2.2.1 a0 = 12 ∧ 0 ≤ s2.1 ∧ s2.1 < s2.2.2.2.1 a0 then bM (mst s2.2 a0 s2.1 a1) fun M6 => rec1 (w32 (s2.1 + 1), M6) else none) else (some s2.2) else none) BIG (0, M)
set_option maxRecDepth 100000 in
set_option maxHeartbeats 4000000 in
theorem kX10_fillRow (d : Nat) (hd : 0 ≤ d) (M : Mem) (a0 a1 : Int) : Ct mX10_fillRow d 0 0 [pA a0, pI a1] M dV (fX10_fillRow M a0 a1) := by
  refine Ct.of 1 (by decide +kernel) rfl ?_
  unfold fX10_fillRow
  refine v_iconst dX10_fillRow_0 (by decide) ?_
  refine v_istore_n (ls' := [some (pA a0), some (pI a1), some (pI 0)]) dX10_fillRow_1 (by decide) rfl ?_
  refine v_loop (fun (s2 : Int × Mem) => [some (pA a0), some (pI a1), some (pI s2.1)]) (fun (s2 : Int × Mem) => s2.2) (s0 := (0, M)) ?_
  intro rec1 hrec1 s2
  refine v_iload_n dX10_fillRow_2 rfl ?_
  refine v_aload_n dX10_fillRow_3 rfl ?_
  refine v_if (fun h3 => ?_)
  refine v_alen h3 dX10_fillRow_4 ?_
  refine v_icmp_ge (tgt := 18) dX10_fillRow_5 (by decide) (fun c4 => ?_) (fun c4 => ?_)
  · refine v_aload_n dX10_fillRow_8 rfl ?_
    refine v_iload_n dX10_fillRow_9 rfl ?_
    refine v_iload_n dX10_fillRow_10 rfl ?_
    refine v_if (fun h5 => ?_)
    refine v_iastore h5 dX10_fillRow_11 ?_
    refine v_bM (fun M6 e7 => ?_)
    refine v_iinc (ls' := [some (pA a0), some (pI a1), some (pI (w32 (s2.1 + 1)))]) dX10_fillRow_12 (by decide) rfl rfl ?_
    refine v_goto (tgt := 2) dX10_fillRow_15 (by decide) ?_
    exact hrec1 (w32 (s2.1 + 1), M6)
  · exact v_return dX10_fillRow_18 rfl rfl
theorem dX4_clear_0 : decode cX4_clear 0 = .ok (.aload_n 0, 1) := by decide +kernel
theorem dX4_clear_1 : decode cX4_clear 1 = .ok (.iconst 0, 1) := by decide +kernel
theorem dX4_clear_2 : decode cX4_clear 2 = .ok (.putfield 9, 3) := by decide +kernel
theorem dX4_clear_5 : decode cX4_clear 5 = .ok (.aload_n 0, 1) := by decide +kernel
theorem dX4_clear_6 : decode cX4_clear 6 = .ok (.getfield 22, 3) := by decide +kernel
theorem dX4_clear_9 : decode cX4_clear 9 = .ok (.iconst (-1), 1) := by decide +kernel
theorem dX4_clear_10 : decode cX4_clear 10 = .ok (.invokestatic 28, 3) := by decide +kernel
theorem dX4_clear_13 : decode cX4_clear 13 = .ok (.return_, 1) := by decide +kernel
abbrev mX4_clear : MI := (yX4_clear, cX4_clear, 1, none)
theorem okX4_clear : cok mX4_clear 0 := ⟨tw183, tw6, by decide, by decide, by decide, by decide +kernel⟩
def fX4_clear (M : Mem) (a0 : Int) : Option Mem :=
  if M.2.1 a0 = 4 then bM (mst M a0 0 0) fun M2 => (fX10_fillRow M2 (M2.1 a0 3) (-1)).bind fun r4 => some r4 else none
set_option maxRecDepth 100000 in
set_option maxHeartbeats 4000000 in
theorem kX4_clear (d : Nat) (hd : 1 ≤ d) (M : Mem) (a0 : Int) : Ct mX4_clear d 0 0 [pA a0] M dV (fX4_clear M a0) := by
  obtain ⟨d, rfl⟩ : ∃ k, d = k + 1 := ⟨d - 1, by omega⟩
  refine Ct.of 0 (by decide +kernel) rfl ?_
  unfold fX4_clear
  refine v_aload_n dX4_clear_0 rfl ?_
  refine v_iconst dX4_clear_1 (by decide) ?_
  refine v_if (fun h1 => ?_)
  refine v_put (x := 0) 4 0 rfl inX4 (by decide) tw185 (Or.inl rfl) rfl dX4_clear_2 h1 rfl id ?_
  refine v_bM (fun M2 e3 => ?_)
  refine v_aload_n dX4_clear_5 rfl ?_
  refine v_get (v := pA (M2.1 a0 3)) 4 3 rfl inX4 (by decide) tw192 dX4_clear_6 (by rw [e3]; exact h1) rfl ?_
  refine v_iconst dX4_clear_9 (by decide) ?_
  refine v_cS (mi := mX4_clear) (As := [pA (M2.1 a0 3), pI (-1)]) (st := []) (kX10_fillRow d (by omega) _ _ _) okX10_fillRow (Or.inr nw3) tw52 rfl (Nat.le_of_ble_eq_true rfl) dX4_clear_10 (fun r4 => []) (fun r4 => r4) (fun _ => rfl) (fun _ => rfl) (fun r4 h5 => ?_) rfl
  exact v_return dX4_clear_13 rfl rfl
theorem dX4_init_0 : decode cX4_init 0 = .ok (.aload_n 0, 1) := by decide +kernel
theorem dX4_init_1 : decode cX4_init 1 = .ok (.invokespecial 3, 3) := by decide +kernel
theorem dX4_init_4 : decode cX4_init 4 = .ok (.aload_n 0, 1) := by decide +kernel
theorem dX4_init_5 : decode cX4_init 5 = .ok (.iconst 0, 1) := by decide +kernel
theorem dX4_init_6 : decode cX4_init 6 = .ok (.putfield 9, 3) := by decide +kernel
theorem dX4_init_9 : decode cX4_init 9 = .ok (.aload_n 0, 1) := by decide +kernel
theorem dX4_init_10 : decode cX4_init 10 = .ok (.bipush 8, 2) := by decide +kernel
theorem dX4_init_12 : decode cX4_init 12 = .ok (.newarray .int, 2) := by decide +kernel
theorem dX4_init_14 : decode cX4_init 14 = .ok (.putfield 15, 3) := by decide +kernel
theorem dX4_init_17 : decode cX4_init 17 = .ok (.aload_n 0, 1) := by decide +kernel
theorem dX4_init_18 : decode cX4_init 18 = .ok (.bipush 8, 2) := by decide +kernel
theorem dX4_init_20 : decode cX4_init 20 = .ok (.newarray .int, 2) := by decide +kernel
theorem dX4_init_22 : decode cX4_init 22 = .ok (.putfield 19, 3) := by decide +kernel
theorem dX4_init_25 : decode cX4_init 25 = .ok (.aload_n 0, 1) := by decide +kernel
theorem dX4_init_26 : decode cX4_init 26 = .ok (.bipush 30, 2) := by decide +kernel
theorem dX4_init_28 : decode cX4_init 28 = .ok (.newarray .int, 2) := by decide +kernel
theorem dX4_init_30 : decode cX4_init 30 = .ok (.putfield 22, 3) := by decide +kernel
theorem dX4_init_33 : decode cX4_init 33 = .ok (.aload_n 0, 1) := by decide +kernel
theorem dX4_init_34 : decode cX4_init 34 = .ok (.invokevirtual 25, 3) := by decide +kernel
theorem dX4_init_37 : decode cX4_init 37 = .ok (.return_, 1) := by decide +kernel
abbrev mX4_init : MI := (yX4_init, cX4_init, 1, none)
theorem okX4_init : cok mX4_init 0 := ⟨tw178, tw6, by decide, by decide, by decide, by decide +kernel⟩
def fX4_init (M : Mem) (a0 : Int) : Option Mem :=
  if 0 ≤ a0 then if M.2.1 a0 = 4 then bM (mst M a0 0 0) fun M3 => bM (mnew M3 12 8) fun M5 => if M5.2.1 a0 = 4 then if -1 ≤ (M3.2.2.2 : Int) then bM (mst M5 a0 1 (M3.2.2.2 : Int)) fun M9 => bM (mnew M9 12 8) fun M11 => if M11.2.1 a0 = 4 then if -1 ≤ (M9.2.2.2 : Int) then bM (mst M11 a0 2 (M9.2.2.2 : Int)) fun M15 => bM (mnew M15 12 30) fun M17 => if M17.2.1 a0 = 4 then if -1 ≤ (M15.2.2.2 : Int) then bM (mst M17 a0 3 (M15.2.2.2 : Int)) fun M21 => (fX4_clear M21 a0).bind fun r23 => some r23 else none else none else none else none else none else none else none else none
set_option maxRecDepth 100000 in
set_option maxHeartbeats 4000000 in
theorem kX4_init (d : Nat) (hd : 2 ≤ d) (M : Mem) (a0 : Int) : Ct mX4_init d 3 46 [pA a0] M dV (fX4_init M a0) := by
  obtain ⟨d, rfl⟩ : ∃ k, d = k + 1 := ⟨d - 1, by omega⟩
  refine Ct.of 0 (by decide +kernel) rfl ?_
  unfold fX4_init
  refine v_aload_n dX4_init_0 rfl ?_
  refine v_if (fun h1 => ?_)
  refine v_objInit (mi := mX4_init) h1 tw179 tw26 tw27 (Nat.le_of_ble_eq_true rfl) dX4_init_1 ?_
  refine v_aload_n dX4_init_4 rfl ?_
  refine v_iconst dX4_init_5 (by decide) ?_
  refine v_if (fun h2 => ?_)
  refine v_put (x := 0) 4 0 rfl inX4 (by decide) tw185 (Or.inl rfl) rfl dX4_init_6 h2 rfl id ?_
  refine v_bM (fun M3 e4 => ?_)
  refine v_aload_n dX4_init_9 rfl ?_
  refine v_bipush dX4_init_10 (by decide) ?_
  refine v_newarray (t := .int) (n := 8) 12 (by decide) (by decide) tw121 dX4_init_12 ?_
  refine v_bM (fun M5 e6 => ?_)
  refine v_if (fun h7 => ?_)
  refine v_if (fun h8 => ?_)
  refine v_put (x := (M3.2.2.2 : Int)) 4 1 rfl inX4 (by decide) tw188 (Or.inr ⟨rfl, rfl, rfl⟩) rfl dX4_init_14 h7 rfl (fun _ => h8) ?_
  refine v_bM (fun M9 e10 => ?_)
  refine v_aload_n dX4_init_17 rfl ?_
  refine v_bipush dX4_init_18 (by decide) ?_
  refine v_newarray (t := .int) (n := 8) 12 (by decide) (by decide) tw121 dX4_init_20 ?_
  refine v_bM (fun M11 e12 => ?_)
  refine v_if (fun h13 => ?_)
  refine v_if (fun h14 => ?_)
  refine v_put (x := (M9.2.2.2 : Int)) 4 2 rfl inX4 (by decide) tw190 (Or.inr ⟨rfl, rfl, rfl⟩) rfl dX4_init_22 h13 rfl (fun _ => h14) ?_
  refine v_bM (fun M15 e16 => ?_)
  refine v_aload_n dX4_init_25 rfl ?_
  refine v_bipush dX4_init_26 (by decide) ?_
  refine v_newarray (t := .int) (n := 30) 12 (by decide) (by decide) tw121 dX4_init_28 ?_
  refine v_bM (fun M17 e18 => ?_)
  refine v_if (fun h19 => ?_)
  refine v_if (fun h20 => ?_)
  refine v_put (x := (M15.2.2.2 : Int)) 4 3 rfl inX4 (by decide) tw192 (Or.inr ⟨rfl, rfl, rfl⟩) rfl dX4_init_30 h19 rfl (fun _ => h20) ?_
  refine v_bM (fun M21 e22 => ?_)
  refine v_aload_n dX4_init_33 rfl ?_
  refine v_cV (mi := mX4_init) (As := []) (st := []) (kX4_clear d (by omega) _ _) rfl (by rw [e22]; exact h19) rfl okX4_clear (Or.inl tw180) tw181 tw182 rfl (Nat.le_of_ble_eq_true rfl) dX4_init_34 (fun r23 => []) (fun r23 => r23) (fun _ => rfl) (fun _ => rfl) (fun r23 h24 => ?_) rfl
  exact v_return dX4_init_37 rfl rfl
theorem dX4_add_0 : decode cX4_add 0 = .ok (.aload_n 0, 1) := by decide +kernel
theorem dX4_add_1 : decode cX4_add 1 = .ok (.getfield 9, 3) := by decide +kernel
theorem dX4_add_4 : decode cX4_add 4 = .ok (.bipush 8, 2) := by decide +kernel
theorem dX4_add_6 : decode cX4_add 6 = .ok (.if_icmp .ge 33, 3) := by decide +kernel
theorem dX4_add_9 : decode cX4_add 9 = .ok (.aload_n 0, 1) := by decide +kernel
theorem dX4_add_10 : decode cX4_add 10 = .ok (.getfield 15, 3) := by decide +kernel
theorem dX4_add_13 : decode cX4_add 13 = .ok (.aload_n 0, 1) := by decide +kernel
theorem dX4_add_14 : decode cX4_add 14 = .ok (.getfield 9, 3) := by decide +kernel
theorem dX4_add_17 : decode cX4_add 17 = .ok (.iload_n 1, 1) := by decide +kernel
theorem dX4_add_18 : decode cX4_add 18 = .ok (.iastore, 1) := by decide +kernel
theorem dX4_add_19 : decode cX4_add 19 = .ok (.aload_n 0, 1) := by decide +kernel
theorem dX4_add_20 : decode cX4_add 20 = .ok (.getfield 19, 3) := by decide +kernel
theorem dX4_add_23 : decode cX4_add 23 = .ok (.aload_n 0, 1) := by decide +kernel
theorem dX4_add_24 : decode cX4_add 24 = .ok (.getfield 9, 3) := by decide +kernel
theorem dX4_add_27 : decode cX4_add 27 = .ok (.iload_n 2, 1) := by decide +kernel
theorem dX4_add_28 : decode cX4_add 28 = .ok (.iastore, 1) := by decide +kernel
theorem dX4_add_29 : decode cX4_add 29 = .ok (.aload_n 0, 1) := by decide +kernel
theorem dX4_add_30 : decode cX4_add 30 = .ok (.dup, 1) := by decide +kernel
theorem dX4_add_31 : decode cX4_add 31 = .ok (.getfield 9, 3) := by decide +kernel
theorem dX4_add_34 : decode cX4_add 34 = .ok (.iconst 1, 1) := by decide +kernel
theorem dX4_add_35 : decode cX4_add 35 = .ok (.iadd, 1) := by decide +kernel
theorem dX4_add_36 : decode cX4_add 36 = .ok (.putfield 9, 3) := by decide +kernel
theorem dX4_add_39 : decode cX4_add 39 = .ok (.return_, 1) := by decide +kernel
abbrev mX4_add : MI := (yX4_add, cX4_add, 3, none)
theorem okX4_add : cok mX4_add 2 := ⟨tw641, tw6, by decide, by decide, by decide, by decide +kernel⟩
def fX4_add (M : Mem) (a0 a1 a2 : Int) : Option Mem :=
  if M.2.1 a0 = 4 then if M.1 a0 0 < 8 then (if M.2.1 (M.1 a0 1) = 12 ∧ 0 ≤ (M.1 a0 0) ∧ (M.1 a0 0) < M.2.2.1 (M.1 a0 1) then bM (mst M (M.1 a0 1) (M.1 a0 0) a1) fun M4 => if M4.2.1 (M4.1 a0 2) = 12 ∧ 0 ≤ (M4.1 a0 0) ∧ (M4.1 a0 0) < M4.2.2.1 (M4.1 a0 2) then bM (mst M4 (M4.1 a0 2) (M4.1 a0 0) a2) fun M7 => bM (mst M7 a0 0 (w32 ((M7.1 a0 0) + 1))) fun M9 => some M9 else none else none) else (some M) else none
set_option maxRecDepth 100000 in
set_option maxHeartbeats 4000000 in
theorem kX4_add (d : Nat) (hd : 0 ≤ d) (M : Mem) (a0 a1 a2 : Int) : Ct mX4_add d 0 0 [pA a0, pI a1, pI a2] M dV (fX4_add M a0 a1 a2) := by
  refine Ct.of 0 (by decide +kernel) rfl ?_
  unfold fX4_add
  refine v_aload_n dX4_add_0 rfl ?_
  refine v_if (fun h1 => ?_)
  refine v_get (v := pI (M.1 a0 0)) 4 0 rfl inX4 (by decide) tw185 dX4_add_1 h1 rfl ?_
  refine v_bipush dX4_add_4 (by decide) ?_
  refine v_icmp_ge (tgt := 39) dX4_add_6 (by decide) (fun c2 => ?_) (fun c2 => ?_)
  · refine v_aload_n dX4_add_9 rfl ?_
    refine v_get (v := pA (M.1 a0 1)) 4 1 rfl inX4 (by decide) tw188 dX4_add_10 h1 rfl ?_
    refine v_aload_n dX4_add_13 rfl ?_
    refine v_get (v := pI (M.1 a0 0)) 4 0 rfl inX4 (by decide) tw185 dX4_add_14 h1 rfl ?_
    refine v_iload_n dX4_add_17 rfl ?_
    refine v_if (fun h3 => ?_)
    refine v_iastore h3 dX4_add_18 ?_
    refine v_bM (fun M4 e5 => ?_)
    refine v_aload_n dX4_add_19 rfl ?_
    refine v_get (v := pA (M4.1 a0 2)) 4 2 rfl inX4 (by decide) tw190 dX4_add_20 (by rw [e5]; exact h1) rfl ?_
    refine v_aload_n dX4_add_23 rfl ?_
    refine v_get (v := pI (M4.1 a0 0)) 4 0 rfl inX4 (by decide) tw185 dX4_add_24 (by rw [e5]; exact h1) rfl ?_
    refine v_iload_n dX4_add_27 rfl ?_
    refine v_if (fun h6 => ?_)
    refine v_iastore h6 dX4_add_28 ?_
    refine v_bM (fun M7 e8 => ?_)
    refine v_aload_n dX4_add_29 rfl ?_
    refine v_dup dX4_add_30 (by intro z hz; cases hz) ?_
    refine v_get (v := pI (M7.1 a0 0)) 4 0 rfl inX4 (by decide) tw185 dX4_add_31 (by rw [e8, e5]; exact h1) rfl ?_
    refine v_iconst dX4_add_34 (by decide) ?_
    refine v_iadd dX4_add_35 ?_
    refine v_put (x := w32 ((M7.1 a0 0) + 1)) 4 0 rfl inX4 (by decide) tw185 (Or.inl rfl) rfl dX4_add_36 (by rw [e8, e5]; exact h1) rfl id ?_
    refine v_bM (fun M9 e10 => ?_)
    exact v_return dX4_add_39 rfl rfl
  · exact v_return dX4_add_39 rfl rfl
theorem dX4_copy_0 : decode cX4_copy 0 = .ok (.aload_n 0, 1) := by decide +kernel
theorem dX4_copy_1 : decode cX4_copy 1 = .ok (.aload_n 1, 1) := by decide +kernel
theorem dX4_copy_2 : decode cX4_copy 2 = .ok (.getfield 9, 3) := by decide +kernel
theorem dX4_copy_5 : decode cX4_copy 5 = .ok (.putfield 9, 3) := by decide +kernel
theorem dX4_copy_8 : decode cX4_copy 8 = .ok (.aload_n 1, 1) := by decide +kernel
theorem dX4_copy_9 : decode cX4_copy 9 = .ok (.getfield 15, 3) := by decide +kernel
theorem dX4_copy_12 : decode cX4_copy 12 = .ok (.aload_n 0, 1) := by decide +kernel
theorem dX4_copy_13 : decode cX4_copy 13 = .ok (.getfield 15, 3) := by decide +kernel
theorem dX4_copy_16 : decode cX4_copy 16 = .ok (.invokestatic 32, 3) := by decide +kernel
theorem dX4_copy_19 : decode cX4_copy 19 = .ok (.aload_n 1, 1) := by decide +kernel
theorem dX4_copy_20 : decode cX4_copy 20 = .ok (.getfield 19, 3) := by decide +kernel
theorem dX4_copy_23 : decode cX4_copy 23 = .ok (.aload_n 0, 1) := by decide +kernel
theorem dX4_copy_24 : decode cX4_copy 24 = .ok (.getfield 19, 3) := by decide +kernel
theorem dX4_copy_27 : decode cX4_copy 27 = .ok (.invokestatic 32, 3) := by decide +kernel
theorem dX4_copy_30 : decode cX4_copy 30 = .ok (.aload_n 1, 1) := by decide +kernel
theorem dX4_copy_31 : decode cX4_copy 31 = .ok (.getfield 22, 3) := by decide +kernel
theorem dX4_copy_34 : decode cX4_copy 34 = .ok (.aload_n 0, 1) := by decide +kernel
theorem dX4_copy_35 : decode cX4_copy 35 = .ok (.getfield 22, 3) := by decide +kernel
theorem dX4_copy_38 : decode cX4_copy 38 = .ok (.invokestatic 32, 3) := by decide +kernel
theorem dX4_copy_41 : decode cX4_copy 41 = .ok (.return_, 1) := by decide +kernel
abbrev mX4_copy : MI := (yX4_copy, cX4_copy, 2, none)
theorem okX4_copy : cok mX4_copy 1 := ⟨tw669, tw6, by decide, by decide, by decide, by decide +kernel⟩
def fX4_copy (M : Mem) (a0 a1 : Int) : Option Mem :=
  if M.2.1 a1 = 4 then if M.2.1 a0 = 4 then bM (mst M a0 0 (M.1 a1 0)) fun M3 => (fX10_copyRow M3 (M3.1 a1 1) (M3.1 a0 1)).bind fun r5 => if r5.2.1 a1 = 4 then if r5.2.1 a0 = 4 then (fX10_copyRow r5 (r5.1 a1 2) (r5.1 a0 2)).bind fun r9 => if r9.2.1 a1 = 4 then if r9.2.1 a0 = 4 then (fX10_copyRow r9 (r9.1 a1 3) (r9.1 a0 3)).bind fun r13 => some r13 else none else none else none else none else none else none
set_option maxRecDepth 100000 in
set_option maxHeartbeats 4000000 in
theorem kX4_copy (d : Nat) (hd : 2 ≤ d) (M : Mem) (a0 a1 : Int) : Ct mX4_copy d 0 0 [pA a0, pA a1] M dV (fX4_copy M a0 a1) := by
  obtain ⟨d, rfl⟩ : ∃ k, d = k + 1 := ⟨d - 1, by omega⟩
  refine Ct.of 0 (by decide +kernel) rfl ?_
  unfold fX4_copy
  refine v_aload_n dX4_copy_0 rfl ?_
  refine v_aload_n dX4_copy_1 rfl ?_
  refine v_if (fun h1 => ?_)
  refine v_get (v := pI (M.1 a1 0)) 4 0 rfl inX4 (by decide) tw185 dX4_copy_2 h1 rfl ?_
  refine v_if (fun h2 => ?_)
  refine v_put (x := M.1 a1 0) 4 0 rfl inX4 (by decide) tw185 (Or.inl rfl) rfl dX4_copy_5 h2 rfl id ?_
  refine v_bM (fun M3 e4 => ?_)
  refine v_aload_n dX4_copy_8 rfl ?_
  refine v_get (v := pA (M3.1 a1 1)) 4 1 rfl inX4 (by decide) tw188 dX4_copy_9 (by rw [e4]; exact h1) rfl ?_
  refine v_aload_n dX4_copy_12 rfl ?_
  refine v_get (v := pA (M3.1 a0 1)) 4 1 rfl inX4 (by decide) tw188 dX4_copy_13 (by rw [e4]; exact h2) rfl ?_
  refine v_cS (mi := mX4_copy) (As := [pA (M3.1 a1 1), pA (M3.1 a0 1)]) (st := []) (kX10_copyRow d (by omega) _ _ _) okX10_copyRow (Or.inr nw11) tw651 rfl (Nat.le_of_ble_eq_true rfl) dX4_copy_16 (fun r5 => []) (fun r5 => r5) (fun _ => rfl) (fun _ => rfl) (fun r5 h6 => ?_) rfl
  refine v_aload_n dX4_copy_19 rfl ?_
  refine v_if (fun h7 => ?_)
  refine v_get (v := pA (r5.1 a1 2)) 4 2 rfl inX4 (by decide) tw190 dX4_copy_20 h7 rfl ?_
  refine v_aload_n dX4_copy_23 rfl ?_
  refine v_if (fun h8 => ?_)
  refine v_get (v := pA (r5.1 a0 2)) 4 2 rfl inX4 (by decide) tw190 dX4_copy_24 h8 rfl ?_
  refine v_cS (mi := mX4_copy) (As := [pA (r5.1 a1 2), pA (r5.1 a0 2)]) (st := []) (kX10_copyRow d (by omega) _ _ _) okX10_copyRow (Or.inr nw11) tw651 rfl (Nat.le_of_ble_eq_true rfl) dX4_copy_27 (fun r9 => []) (fun r9 => r9) (fun _ => rfl) (fun _ => rfl) (fun r9 h10 => ?_) rfl
  refine v_aload_n dX4_copy_30 rfl ?_
  refine v_if (fun h11 => ?_)
  refine v_get (v := pA (r9.1 a1 3)) 4 3 rfl inX4 (by decide) tw192 dX4_copy_31 h11 rfl ?_
  refine v_aload_n dX4_copy_34 rfl ?_
  refine v_if (fun h12 => ?_)
  refine v_get (v := pA (r9.1 a0 3)) 4 3 rfl inX4 (by decide) tw192 dX4_copy_35 h12 rfl ?_
  refine v_cS (mi := mX4_copy) (As := [pA (r9.1 a1 3), pA (r9.1 a0 3)]) (st := []) (kX10_copyRow d (by omega) _ _ _) okX10_copyRow (Or.inr nw11) tw651 rfl (Nat.le_of_ble_eq_true rfl) dX4_copy_38 (fun r13 => []) (fun r13 => r13) (fun _ => rfl) (fun _ => rfl) (fun r13 h14 => ?_) rfl
  exact v_return dX4_copy_41 rfl rfl
theorem dX4_alike_0 : decode cX4_alike 0 = .ok (.iconst 0, 1) := by decide +kernel
theorem dX4_alike_1 : decode cX4_alike 1 = .ok (.istore 4, 2) := by decide +kernel
theorem dX4_alike_3 : decode cX4_alike 3 = .ok (.iload_n 2, 1) := by decide +kernel
theorem dX4_alike_4 : decode cX4_alike 4 = .ok (.istore 5, 2) := by decide +kernel
theorem dX4_alike_6 : decode cX4_alike 6 = .ok (.iload 5, 2) := by decide +kernel
theorem dX4_alike_8 : decode cX4_alike 8 = .ok (.iload_n 3, 1) := by decide +kernel
theorem dX4_alike_9 : decode cX4_alike 9 = .ok (.if_icmp .ge 44, 3) := by decide +kernel
theorem dX4_alike_12 : decode cX4_alike 12 = .ok (.aload_n 0, 1) := by decide +kernel
theorem dX4_alike_13 : decode cX4_alike 13 = .ok (.getfield 15, 3) := by decide +kernel
theorem dX4_alike_16 : decode cX4_alike 16 = .ok (.iload 5, 2) := by decide +kernel
theorem dX4_alike_18 : decode cX4_alike 18 = .ok (.iaload, 1) := by decide +kernel
theorem dX4_alike_19 : decode cX4_alike 19 = .ok (.aload_n 0, 1) := by decide +kernel
theorem dX4_alike_20 : decode cX4_alike 20 = .ok (.getfield 15, 3) := by decide +kernel
theorem dX4_alike_23 : decode cX4_alike 23 = .ok (.iload_n 1, 1) := by decide +kernel
theorem dX4_alike_24 : decode cX4_alike 24 = .ok (.iaload, 1) := by decide +kernel
theorem dX4_alike_25 : decode cX4_alike 25 = .ok (.if_icmp .ne 22, 3) := by decide +kernel
theorem dX4_alike_28 : decode cX4_alike 28 = .ok (.aload_n 0, 1) := by decide +kernel
theorem dX4_alike_29 : decode cX4_alike 29 = .ok (.getfield 19, 3) := by decide +kernel
theorem dX4_alike_32 : decode cX4_alike 32 = .ok (.iload 5, 2) := by decide +kernel
theorem dX4_alike_34 : decode cX4_alike 34 = .ok (.iaload, 1) := by decide +kernel
theorem dX4_alike_35 : decode cX4_alike 35 = .ok (.aload_n 0, 1) := by decide +kernel
theorem dX4_alike_36 : decode cX4_alike 36 = .ok (.getfield 19, 3) := by decide +kernel
theorem dX4_alike_39 : decode cX4_alike 39 = .ok (.iload_n 1, 1) := by decide +kernel
theorem dX4_alike_40 : decode cX4_alike 40 = .ok (.iaload, 1) := by decide +kernel
theorem dX4_alike_41 : decode cX4_alike 41 = .ok (.if_icmp .ne 6, 3) := by decide +kernel
theorem dX4_alike_44 : decode cX4_alike 44 = .ok (.iinc 4 1, 3) := by decide +kernel
theorem dX4_alike_47 : decode cX4_alike 47 = .ok (.iinc 5 1, 3) := by decide +kernel
theorem dX4_alike_50 : decode cX4_alike 50 = .ok (.goto (-44), 3) := by decide +kernel
theorem dX4_alike_53 : decode cX4_alike 53 = .ok (.iload 4, 2) := by decide +kernel
theorem dX4_alike_55 : decode cX4_alike 55 = .ok (.ireturn, 1) := by decide +kernel
abbrev mX4_alike : MI := (yX4_alike, cX4_alike, 6, (some .int))
theorem okX4_alike : cok mX4_alike 3 := ⟨tw952, tw6, by decide, by decide, by decide, by decide +kernel⟩
def fX4_alike (M : Mem) (a0 a1 a2 a3 : Int) : Option Int :=
  iterC (fun (rec1 : (Int × Int) → Option Int) (s2 : Int × Int) => if s2.2 < a3 then (if M.2.1 a0 = 4 then if M.2.1 (M.1 a0 1) = 12 ∧ 0 ≤ s2.2 ∧ s2.2 < M.2.2.1 (M.1 a0 1) then if M.2.1 (M.1 a0 1) = 12 ∧ 0 ≤ a1 ∧ a1 < M.2.2.1 (M.1 a0 1) then if M.1 (M.1 a0 1) s2.2 = M.1 (M.1 a0 1) a1 then (if M.2.1 (M.1 a0 2) = 12 ∧ 0 ≤ s2.2 ∧ s2.2 < M.2.2.1 (M.1 a0 2) then if M.2.1 (M.1 a0 2) = 12 ∧ 0 ≤ a1 ∧ a1 < M.2.2.1 (M.1 a0 2) then if M.1 (M.1 a0 2) s2.2 = M.1 (M.1 a0 2) a1 then (rec1 (w32 (s2.1 + 1), w32 (s2.2 + 1))) else (rec1 (s2.1, w32 (s2.2 + 1))) else none else none) else (rec1 (s2.1, w32 (s2.2 + 1))) else none else none else none) else (some s2.1)) BIG (0, a2)
set_option maxRecDepth 100000 in
set_option maxHeartbeats 4000000 in
theorem kX4_alike (d : Nat) (hd : 0 ≤ d) (M : Mem) (a0 a1 a2 a3 : Int) : Ct mX4_alike d 0 0 [pA a0, pI a1, pI a2, pI a3] M (dI M) (fX4_alike M a0 a1 a2 a3) := by
  refine Ct.of 2 (by decide +kernel) rfl ?_
  unfold fX4_alike
  refine v_iconst dX4_alike_0 (by decide) ?_
  refine v_istore (ls' := [some (pA a0), some (pI a1), some (pI a2), some (pI a3), some (pI 0), none]) dX4_alike_1 (by decide) rfl ?_
  refine v_iload_n dX4_alike_3 rfl ?_
  refine v_istore (ls' := [some (pA a0), some (pI a1), some (pI a2), some (pI a3), some (pI 0), some (pI a2)]) dX4_alike_4 (by decide) rfl ?_
  refine v_drop [some (pA a0), some (pI a1), none, some (pI a3), some (pI 0), some (pI a2)] (ls_s (ls_s (ls_n (ls_s (ls_s (ls_s ls_e)))))) ?_
  refine v_loop (fun (s2 : Int × Int) => [some (pA a0), some (pI a1), none, some (pI a3), some (pI s2.1), some (pI s2.2)]) (fun (s2 : Int × Int) => M) (s0 := (0, a2)) ?_
  intro rec1 hrec1 s2
  refine v_iload dX4_alike_6 rfl ?_
  refine v_iload_n dX4_alike_8 rfl ?_
  refine v_icmp_ge (tgt := 53) dX4_alike_9 (by decide) (fun c3 => ?_) (fun c3 => ?_)
  · refine v_aload_n dX4_alike_12 rfl ?_
    refine v_if (fun h4 => ?_)
    refine v_get (v := pA (M.1 a0 1)) 4 1 rfl inX4 (by decide) tw188 dX4_alike_13 h4 rfl ?_
    refine v_iload dX4_alike_16 rfl ?_
    refine v_if (fun h5 => ?_)
    refine v_iaload h5 dX4_alike_18 ?_
    refine v_aload_n dX4_alike_19 rfl ?_
    refine v_get (v := pA (M.1 a0 1)) 4 1 rfl inX4 (by decide) tw188 dX4_alike_20 h4 rfl ?_
    refine v_iload_n dX4_alike_23 rfl ?_
    refine v_if (fun h6 => ?_)
    refine v_iaload h6 dX4_alike_24 ?_
    refine v_icmp_ne (tgt := 47) dX4_alike_25 (by decide) (fun c7 => ?_) (fun c7 => ?_)
    · refine v_aload_n dX4_alike_28 rfl ?_
      refine v_get (v := pA (M.1 a0 2)) 4 2 rfl inX4 (by decide) tw190 dX4_alike_29 h4 rfl ?_
      refine v_iload dX4_alike_32 rfl ?_
      refine v_if (fun h8 => ?_)
      refine v_iaload h8 dX4_alike_34 ?_
      refine v_aload_n dX4_alike_35 rfl ?_
      refine v_get (v := pA (M.1 a0 2)) 4 2 rfl inX4 (by decide) tw190 dX4_alike_36 h4 rfl ?_
      refine v_iload_n dX4_alike_39 rfl ?_
      refine v_if (fun h9 => ?_)
      refine v_iaload h9 dX4_alike_40 ?_
      refine v_icmp_ne (tgt := 47) dX4_alike_41 (by decide) (fun c10 => ?_) (fun c10 => ?_)
      · refine v_iinc (ls' := [some (pA a0), some (pI a1), none, some (pI a3), some (pI (w32 (s2.1 + 1))), some (pI s2.2)]) dX4_alike_44 (by decide) rfl rfl ?_
        refine v_iinc (ls' := [some (pA a0), some (pI a1), none, some (pI a3), some (pI (w32 (s2.1 + 1))), some (pI (w32 (s2.2 + 1)))]) dX4_alike_47 (by decide) rfl rfl ?_
        refine v_goto (tgt := 6) dX4_alike_50 (by decide) ?_
        exact hrec1 (w32 (s2.1 + 1), w32 (s2.2 + 1))
      · refine v_iinc (ls' := [some (pA a0), some (pI a1), none, some (pI a3), some (pI s2.1), some (pI (w32 (s2.2 + 1)))]) dX4_alike_47 (by decide) rfl rfl ?_
        refine v_goto (tgt := 6) dX4_alike_50 (by decide) ?_
        exact hrec1 (s2.1, w32 (s2.2 + 1))
    · refine v_iinc (ls' := [some (pA a0), some (pI a1), none, some (pI a3), some (pI s2.1), some (pI (w32 (s2.2 + 1)))]) dX4_alike_47 (by decide) rfl rfl ?_
      refine v_goto (tgt := 6) dX4_alike_50 (by decide) ?_
      exact hrec1 (s2.1, w32 (s2.2 + 1))
  · refine v_iload dX4_alike_53 rfl ?_
    exact v_ireturn dX4_alike_55 rfl rfl
theorem dX10_cell__0 : decode cX10_cell_ 0 = .ok (.bipush 30, 2) := by decide +kernel
theorem dX10_cell__2 : decode cX10_cell_ 2 = .ok (.iload_n 0, 1) := by decide +kernel
theorem dX10_cell__3 : decode cX10_cell_ 3 = .ok (.imul, 1) := by decide +kernel
theorem dX10_cell__4 : decode cX10_cell_ 4 = .ok (.iconst 5, 1) := by decide +kernel
theorem dX10_cell__5 : decode cX10_cell_ 5 = .ok (.iload_n 1, 1) := by decide +kernel
theorem dX10_cell__6 : decode cX10_cell_ 6 = .ok (.imul, 1) := by decide +kernel
theorem dX10_cell__7 : decode cX10_cell_ 7 = .ok (.iadd, 1) := by decide +kernel
theorem dX10_cell__8 : decode cX10_cell_ 8 = .ok (.iload_n 2, 1) := by decide +kernel
theorem dX10_cell__9 : decode cX10_cell_ 9 = .ok (.iadd, 1) := by decide +kernel
theorem dX10_cell__10 : decode cX10_cell_ 10 = .ok (.ireturn, 1) := by decide +kernel
abbrev mX10_cell_ : MI := (yX10_cell_, cX10_cell_, 3, (some .int))
theorem okX10_cell_ : cok mX10_cell_ 3 := ⟨tw767, tw1, by decide, by decide, by decide, by decide +kernel⟩
def fX10_cell_ (M : Mem) (a0 a1 a2 : Int) : Option Int :=
  some (w32 ((w32 ((w32 (30 * a0)) + (w32 (5 * a1)))) + a2))
set_option maxRecDepth 100000 in
set_option maxHeartbeats 4000000 in
theorem kX10_cell_ (d : Nat) (hd : 0 ≤ d) (M : Mem) (a0 a1 a2 : Int) : Ct mX10_cell_ d 0 0 [pI a0, pI a1, pI a2] M (dI M) (fX10_cell_ M a0 a1 a2) := by
  refine Ct.of 0 (by decide +kernel) rfl ?_
  unfold fX10_cell_
  refine v_bipush dX10_cell__0 (by decide) ?_
  refine v_iload_n dX10_cell__2 rfl ?_
  refine v_imul dX10_cell__3 ?_
  refine v_iconst dX10_cell__4 (by decide) ?_
  refine v_iload_n dX10_cell__5 rfl ?_
  refine v_imul dX10_cell__6 ?_
  refine v_iadd dX10_cell__7 ?_
  refine v_iload_n dX10_cell__8 rfl ?_
  refine v_iadd dX10_cell__9 ?_
  exact v_ireturn dX10_cell__10 rfl rfl
theorem dX4_choices_0 : decode cX4_choices 0 = .ok (.iconst 1, 1) := by decide +kernel
theorem dX4_choices_1 : decode cX4_choices 1 = .ok (.istore_n 2, 1) := by decide +kernel
theorem dX4_choices_2 : decode cX4_choices 2 = .ok (.iconst 1, 1) := by decide +kernel
theorem dX4_choices_3 : decode cX4_choices 3 = .ok (.istore_n 3, 1) := by decide +kernel
theorem dX4_choices_4 : decode cX4_choices 4 = .ok (.iload_n 3, 1) := by decide +kernel
theorem dX4_choices_5 : decode cX4_choices 5 = .ok (.iload_n 1, 1) := by decide +kernel
theorem dX4_choices_6 : decode cX4_choices 6 = .ok (.if_icmp .gt 19, 3) := by decide +kernel
theorem dX4_choices_9 : decode cX4_choices 9 = .ok (.iload_n 2, 1) := by decide +kernel
theorem dX4_choices_10 : decode cX4_choices 10 = .ok (.iload_n 0, 1) := by decide +kernel
theorem dX4_choices_11 : decode cX4_choices 11 = .ok (.iload_n 1, 1) := by decide +kernel
theorem dX4_choices_12 : decode cX4_choices 12 = .ok (.isub, 1) := by decide +kernel
theorem dX4_choices_13 : decode cX4_choices 13 = .ok (.iload_n 3, 1) := by decide +kernel
theorem dX4_choices_14 : decode cX4_choices 14 = .ok (.iadd, 1) := by decide +kernel
theorem dX4_choices_15 : decode cX4_choices 15 = .ok (.imul, 1) := by decide +kernel
theorem dX4_choices_16 : decode cX4_choices 16 = .ok (.iload_n 3, 1) := by decide +kernel
theorem dX4_choices_17 : decode cX4_choices 17 = .ok (.idiv, 1) := by decide +kernel
theorem dX4_choices_18 : decode cX4_choices 18 = .ok (.istore_n 2, 1) := by decide +kernel
theorem dX4_choices_19 : decode cX4_choices 19 = .ok (.iinc 3 1, 3) := by decide +kernel
theorem dX4_choices_22 : decode cX4_choices 22 = .ok (.goto (-18), 3) := by decide +kernel
theorem dX4_choices_25 : decode cX4_choices 25 = .ok (.iload_n 2, 1) := by decide +kernel
theorem dX4_choices_26 : decode cX4_choices 26 = .ok (.ireturn, 1) := by decide +kernel
abbrev mX4_choices : MI := (yX4_choices, cX4_choices, 4, (some .int))
theorem okX4_choices : cok mX4_choices 2 := ⟨tw961, tw6, by decide, by decide, by decide, by decide +kernel⟩
def fX4_choices (M : Mem) (a0 a1 : Int) : Option Int :=
  iterC (fun (rec1 : (Int × Int) → Option Int) (s2 : Int × Int) => if a1 < s2.2 then (some s2.1) else (if s2.2 ≠ 0 then rec1 (w32 ((w32 (s2.1 * (w32 ((w32 (a0 - a1)) + s2.2)))).tdiv s2.2), w32 (s2.2 + 1)) else none)) BIG (1, 1)
set_option maxRecDepth 100000 in
set_option maxHeartbeats 4000000 in
theorem kX4_choices (d : Nat) (hd : 0 ≤ d) (M : Mem) (a0 a1 : Int) : Ct mX4_choices d 0 0 [pI a0, pI a1] M (dI M) (fX4_choices M a0 a1) := by
  refine Ct.of 2 (by decide +kernel) rfl ?_
  unfold fX4_choices
  refine v_iconst dX4_choices_0 (by decide) ?_
  refine v_istore_n (ls' := [some (pI a0), some (pI a1), some (pI 1), none]) dX4_choices_1 (by decide) rfl ?_
  refine v_iconst dX4_choices_2 (by decide) ?_
  refine v_istore_n (ls' := [some (pI a0), some (pI a1), some (pI 1), some (pI 1)]) dX4_choices_3 (by decide) rfl ?_
  refine v_loop (fun (s2 : Int × Int) => [some (pI a0), some (pI a1), some (pI s2.1), some (pI s2.2)]) (fun (s2 : Int × Int) => M) (s0 := (1, 1)) ?_
  intro rec1 hrec1 s2
  refine v_iload_n dX4_choices_4 rfl ?_
  refine v_iload_n dX4_choices_5 rfl ?_
  refine v_icmp_gt (tgt := 25) dX4_choices_6 (by decide) (fun c3 => ?_) (fun c3 => ?_)
  · refine v_iload_n dX4_choices_25 rfl ?_
    exact v_ireturn dX4_choices_26 rfl rfl
  · refine v_iload_n dX4_choices_9 rfl ?_
    refine v_iload_n dX4_choices_10 rfl ?_
    refine v_iload_n dX4_choices_11 rfl ?_
    refine v_isub dX4_choices_12 ?_
    refine v_iload_n dX4_choices_13 rfl ?_
    refine v_iadd dX4_choices_14 ?_
    refine v_imul dX4_choices_15 ?_
    refine v_iload_n dX4_choices_16 rfl ?_
    refine v_if (fun h4 => ?_)
    refine v_idiv h4 dX4_choices_17 ?_
    refine v_istore_n (ls' := [some (pI a0), some (pI a1), some (pI (w32 ((w32 (s2.1 * (w32 ((w32 (a0 - a1)) + s2.2)))).tdiv s2.2))), some (pI s2.2)]) dX4_choices_18 (by decide) rfl ?_
    refine v_iinc (ls' := [some (pI a0), some (pI a1), some (pI (w32 ((w32 (s2.1 * (w32 ((w32 (a0 - a1)) + s2.2)))).tdiv s2.2))), some (pI (w32 (s2.2 + 1)))]) dX4_choices_19 (by decide) rfl rfl ?_
    refine v_goto (tgt := 4) dX4_choices_22 (by decide) ?_
    exact hrec1 (w32 ((w32 (s2.1 * (w32 ((w32 (a0 - a1)) + s2.2)))).tdiv s2.2), w32 (s2.2 + 1))
end
section
theorem dX4_waysOf_0 : decode cX4_waysOf 0 = .ok (.iload_n 3, 1) := by decide +kernel
theorem dX4_waysOf_1 : decode cX4_waysOf 1 = .ok (.iconst 4, 1) := by decide +kernel
theorem dX4_waysOf_2 : decode cX4_waysOf 2 = .ok (.if_icmp .lt 14, 3) := by decide +kernel
theorem dX4_waysOf_5 : decode cX4_waysOf 5 = .ok (.iload 4, 2) := by decide +kernel
theorem dX4_waysOf_7 : decode cX4_waysOf 7 = .ok (.ifCond .ne 7, 3) := by decide +kernel
theorem dX4_waysOf_10 : decode cX4_waysOf 10 = .ok (.iconst 1, 1) := by decide +kernel
theorem dX4_waysOf_11 : decode cX4_waysOf 11 = .ok (.goto 4, 3) := by decide +kernel
theorem dX4_waysOf_14 : decode cX4_waysOf 14 = .ok (.iconst 0, 1) := by decide +kernel
theorem dX4_waysOf_15 : decode cX4_waysOf 15 = .ok (.ireturn, 1) := by decide +kernel
theorem dX4_waysOf_16 : decode cX4_waysOf 16 = .ok (.iload 4, 2) := by decide +kernel
theorem dX4_waysOf_18 : decode cX4_waysOf 18 = .ok (.aload_n 1, 1) := by decide +kernel
theorem dX4_waysOf_19 : decode cX4_waysOf 19 = .ok (.getfield 44, 3) := by decide +kernel
theorem dX4_waysOf_22 : decode cX4_waysOf 22 = .ok (.iload_n 3, 1) := by decide +kernel
theorem dX4_waysOf_23 : decode cX4_waysOf 23 = .ok (.aload_n 0, 1) := by decide +kernel
theorem dX4_waysOf_24 : decode cX4_waysOf 24 = .ok (.getfield 15, 3) := by decide +kernel
theorem dX4_waysOf_27 : decode cX4_waysOf 27 = .ok (.iload_n 2, 1) := by decide +kernel
theorem dX4_waysOf_28 : decode cX4_waysOf 28 = .ok (.iaload, 1) := by decide +kernel
theorem dX4_waysOf_29 : decode cX4_waysOf 29 = .ok (.aload_n 0, 1) := by decide +kernel
theorem dX4_waysOf_30 : decode cX4_waysOf 30 = .ok (.getfield 19, 3) := by decide +kernel
theorem dX4_waysOf_33 : decode cX4_waysOf 33 = .ok (.iload_n 2, 1) := by decide +kernel
theorem dX4_waysOf_34 : decode cX4_waysOf 34 = .ok (.iaload, 1) := by decide +kernel
theorem dX4_waysOf_35 : decode cX4_waysOf 35 = .ok (.invokestatic 49, 3) := by decide +kernel
theorem dX4_waysOf_38 : decode cX4_waysOf 38 = .ok (.iaload, 1) := by decide +kernel
theorem dX4_waysOf_39 : decode cX4_waysOf 39 = .ok (.invokestatic 52, 3) := by decide +kernel
theorem dX4_waysOf_42 : decode cX4_waysOf 42 = .ok (.istore 5, 2) := by decide +kernel
theorem dX4_waysOf_44 : decode cX4_waysOf 44 = .ok (.iconst 0, 1) := by decide +kernel
theorem dX4_waysOf_45 : decode cX4_waysOf 45 = .ok (.istore 6, 2) := by decide +kernel
theorem dX4_waysOf_47 : decode cX4_waysOf 47 = .ok (.iconst 0, 1) := by decide +kernel
theorem dX4_waysOf_48 : decode cX4_waysOf 48 = .ok (.istore 7, 2) := by decide +kernel
theorem dX4_waysOf_50 : decode cX4_waysOf 50 = .ok (.iload 7, 2) := by decide +kernel
theorem dX4_waysOf_52 : decode cX4_waysOf 52 = .ok (.iload 5, 2) := by decide +kernel
theorem dX4_waysOf_54 : decode cX4_waysOf 54 = .ok (.if_icmp .gt 36, 3) := by decide +kernel
theorem dX4_waysOf_57 : decode cX4_waysOf 57 = .ok (.iload 6, 2) := by decide +kernel
theorem dX4_waysOf_59 : decode cX4_waysOf 59 = .ok (.iload 4, 2) := by decide +kernel
theorem dX4_waysOf_61 : decode cX4_waysOf 61 = .ok (.iload 7, 2) := by decide +kernel
theorem dX4_waysOf_63 : decode cX4_waysOf 63 = .ok (.invokestatic 58, 3) := by decide +kernel
theorem dX4_waysOf_66 : decode cX4_waysOf 66 = .ok (.aload_n 0, 1) := by decide +kernel
theorem dX4_waysOf_67 : decode cX4_waysOf 67 = .ok (.aload_n 1, 1) := by decide +kernel
theorem dX4_waysOf_68 : decode cX4_waysOf 68 = .ok (.iload_n 2, 1) := by decide +kernel
theorem dX4_waysOf_69 : decode cX4_waysOf 69 = .ok (.iload_n 3, 1) := by decide +kernel
theorem dX4_waysOf_70 : decode cX4_waysOf 70 = .ok (.iconst 1, 1) := by decide +kernel
theorem dX4_waysOf_71 : decode cX4_waysOf 71 = .ok (.iadd, 1) := by decide +kernel
theorem dX4_waysOf_72 : decode cX4_waysOf 72 = .ok (.iload 4, 2) := by decide +kernel
theorem dX4_waysOf_74 : decode cX4_waysOf 74 = .ok (.iload 7, 2) := by decide +kernel
theorem dX4_waysOf_76 : decode cX4_waysOf 76 = .ok (.isub, 1) := by decide +kernel
theorem dX4_waysOf_77 : decode cX4_waysOf 77 = .ok (.invokevirtual 40, 3) := by decide +kernel
theorem dX4_waysOf_80 : decode cX4_waysOf 80 = .ok (.imul, 1) := by decide +kernel
theorem dX4_waysOf_81 : decode cX4_waysOf 81 = .ok (.iadd, 1) := by decide +kernel
theorem dX4_waysOf_82 : decode cX4_waysOf 82 = .ok (.istore 6, 2) := by decide +kernel
theorem dX4_waysOf_84 : decode cX4_waysOf 84 = .ok (.iinc 7 1, 3) := by decide +kernel
theorem dX4_waysOf_87 : decode cX4_waysOf 87 = .ok (.goto (-37), 3) := by decide +kernel
theorem dX4_waysOf_90 : decode cX4_waysOf 90 = .ok (.iload 6, 2) := by decide +kernel
theorem dX4_waysOf_92 : decode cX4_waysOf 92 = .ok (.ireturn, 1) := by decide +kernel
abbrev mX4_waysOf : MI := (yX4_waysOf, cX4_waysOf, 8, (some .int))
theorem okX4_waysOf : cok mX4_waysOf 4 := ⟨tw956, tw6, by decide, by decide, by decide, by decide +kernel⟩
def fX4_waysOf : Nat → Mem → Int → Int → Int → Int → Int → Option Int
  | 0, _, _, _, _, _, _ => none
  | fu + 1, M, a0, a1, a2, a3, a4 => if a3 < 4 then (if M.2.1 a1 = 8 then if M.2.1 a0 = 4 then if M.2.1 (M.1 a0 1) = 12 ∧ 0 ≤ a2 ∧ a2 < M.2.2.1 (M.1 a0 1) then if M.2.1 (M.1 a0 2) = 12 ∧ 0 ≤ a2 ∧ a2 < M.2.2.1 (M.1 a0 2) then (fX10_cell_ M a3 (M.1 (M.1 a0 1) a2) (M.1 (M.1 a0 2) a2)).bind fun r6 => if M.2.1 (M.1 a1 5) = 12 ∧ 0 ≤ r6 ∧ r6 < M.2.2.1 (M.1 a1 5) then iterC (fun (rec9 : (Int × Int) → Option Int) (s10 : Int × Int) => if imin a4 (M.1 (M.1 a1 5) r6) < s10.2 then (some s10.1) else ((fX4_choices M a4 s10.2).bind fun r12 => (fX4_waysOf fu M a0 a1 a2 (w32 (a3 + 1)) (w32 (a4 - s10.2))).bind fun r14 => rec9 (w32 (s10.1 + (w32 (r12 * r14))), w32 (s10.2 + 1)))) BIG (0, 0) else none else none else none else none else none) else (if a4 = 0 then (some 1) else (some 0))
set_option maxRecDepth 100000 in
set_option maxHeartbeats 4000000 in
theorem kX4_waysOf : ∀ (fu d : Nat), fu + 2 ≤ d → ∀ (M : Mem) (a0 a1 a2 a3 a4 : Int), Ct mX4_waysOf d 0 0 [pA a0, pA a1, pI a2, pI a3, pI a4] M (dI M) (fX4_waysOf fu M a0 a1 a2 a3 a4)
  | 0, d, hd, M, a0, a1, a2, a3, a4 => fun r h => by cases h
  | fu + 1, d, hd, M, a0, a1, a2, a3, a4 => by
    obtain ⟨d, rfl⟩ : ∃ k, d = k + 1 := ⟨d - 1, by omega⟩
    refine Ct.of 3 (by decide +kernel) rfl ?_
    unfold fX4_waysOf
    refine v_iload_n dX4_waysOf_0 rfl ?_
    refine v_iconst dX4_waysOf_1 (by decide) ?_
    refine v_icmp_lt (tgt := 16) dX4_waysOf_2 (by decide) (fun c1 => ?_) (fun c1 => ?_)
    · refine v_iload dX4_waysOf_16 rfl ?_
      refine v_aload_n dX4_waysOf_18 rfl ?_
      refine v_if (fun h2 => ?_)
      refine v_get (v := pA (M.1 a1 5)) 8 5 rfl inX9 (by decide) tw330 dX4_waysOf_19 h2 rfl ?_
      refine v_iload_n dX4_waysOf_22 rfl ?_
      refine v_aload_n dX4_waysOf_23 rfl ?_
      refine v_if (fun h3 => ?_)
      refine v_get (v := pA (M.1 a0 1)) 4 1 rfl inX4 (by decide) tw188 dX4_waysOf_24 h3 rfl ?_
      refine v_iload_n dX4_waysOf_27 rfl ?_
      refine v_if (fun h4 => ?_)
      refine v_iaload h4 dX4_waysOf_28 ?_
      refine v_aload_n dX4_waysOf_29 rfl ?_
      refine v_get (v := pA (M.1 a0 2)) 4 2 rfl inX4 (by decide) tw190 dX4_waysOf_30 h3 rfl ?_
      refine v_iload_n dX4_waysOf_33 rfl ?_
      refine v_if (fun h5 => ?_)
      refine v_iaload h5 dX4_waysOf_34 ?_
      refine v_cS (mi := mX4_waysOf) (As := [pI a3, pI (M.1 (M.1 a0 1) a2), pI (M.1 (M.1 a0 2) a2)]) (st := [pA (M.1 a1 5), pI a4]) (kX10_cell_ d (by omega) _ _ _ _) okX10_cell_ (Or.inr nw21) tw766 rfl (Nat.le_of_ble_eq_true rfl) dX4_waysOf_35 (fun r6 => [pI r6, pA (M.1 a1 5), pI a4]) (fun r6 => M) (fun _ => rfl) (fun _ => rfl) (fun r6 h7 => ?_) rfl
      refine v_if (fun h8 => ?_)
      refine v_iaload h8 dX4_waysOf_38 ?_
      refine v_mmin (mi := mX4_waysOf) tw958 tw469 tw12 tw470 (Nat.le_of_ble_eq_true rfl) dX4_waysOf_39 ?_
      refine v_istore (ls' := [some (pA a0), some (pA a1), some (pI a2), some (pI a3), some (pI a4), some (pI (imin a4 (M.1 (M.1 a1 5) r6))), none, none]) dX4_waysOf_42 (by decide) rfl ?_
      refine v_iconst dX4_waysOf_44 (by decide) ?_
      refine v_istore (ls' := [some (pA a0), some (pA a1), some (pI a2), some (pI a3), some (pI a4), some (pI (imin a4 (M.1 (M.1 a1 5) r6))), some (pI 0), none]) dX4_waysOf_45 (by decide) rfl ?_
      refine v_iconst dX4_waysOf_47 (by decide) ?_
      refine v_istore (ls' := [some (pA a0), some (pA a1), some (pI a2), some (pI a3), some (pI a4), some (pI (imin a4 (M.1 (M.1 a1 5) r6))), some (pI 0), some (pI 0)]) dX4_waysOf_48 (by decide) rfl ?_
      refine v_loop (fun (s10 : Int × Int) => [some (pA a0), some (pA a1), some (pI a2), some (pI a3), some (pI a4), some (pI (imin a4 (M.1 (M.1 a1 5) r6))), some (pI s10.1), some (pI s10.2)]) (fun (s10 : Int × Int) => M) (s0 := (0, 0)) ?_
      intro rec9 hrec9 s10
      refine v_iload dX4_waysOf_50 rfl ?_
      refine v_iload dX4_waysOf_52 rfl ?_
      refine v_icmp_gt (tgt := 90) dX4_waysOf_54 (by decide) (fun c11 => ?_) (fun c11 => ?_)
      · refine v_iload dX4_waysOf_90 rfl ?_
        exact v_ireturn dX4_waysOf_92 rfl rfl
      · refine v_iload dX4_waysOf_57 rfl ?_
        refine v_iload dX4_waysOf_59 rfl ?_
        refine v_iload dX4_waysOf_61 rfl ?_
        refine v_cS (mi := mX4_waysOf) (As := [pI a4, pI s10.2]) (st := [pI s10.1]) (kX4_choices d (by omega) _ _ _) okX4_choices (Or.inl tw959) tw960 rfl (Nat.le_of_ble_eq_true rfl) dX4_waysOf_63 (fun r12 => [pI r12, pI s10.1]) (fun r12 => M) (fun _ => rfl) (fun _ => rfl) (fun r12 h13 => ?_) rfl
        refine v_aload_n dX4_waysOf_66 rfl ?_
        refine v_aload_n dX4_waysOf_67 rfl ?_
        refine v_iload_n dX4_waysOf_68 rfl ?_
        refine v_iload_n dX4_waysOf_69 rfl ?_
        refine v_iconst dX4_waysOf_70 (by decide) ?_
        refine v_iadd dX4_waysOf_71 ?_
        refine v_iload dX4_waysOf_72 rfl ?_
        refine v_iload dX4_waysOf_74 rfl ?_
        refine v_isub dX4_waysOf_76 ?_
        refine v_cV (mi := mX4_waysOf) (As := [pA a1, pI a2, pI (w32 (a3 + 1)), pI (w32 (a4 - s10.2))]) (st := [pI r12, pI s10.1]) (kX4_waysOf fu d (by omega) _ _ _ _ _ _) rfl h3 rfl okX4_waysOf (Or.inl tw953) tw955 tp20 rfl (Nat.le_of_ble_eq_true rfl) dX4_waysOf_77 (fun r14 => [pI r14, pI r12, pI s10.1]) (fun r14 => M) (fun _ => rfl) (fun _ => rfl) (fun r14 h15 => ?_) rfl
        refine v_imul dX4_waysOf_80 ?_
        refine v_iadd dX4_waysOf_81 ?_
        refine v_istore (ls' := [some (pA a0), some (pA a1), some (pI a2), some (pI a3), some (pI a4), some (pI (imin a4 (M.1 (M.1 a1 5) r6))), some (pI (w32 (s10.1 + (w32 (r12 * r14))))), some (pI s10.2)]) dX4_waysOf_82 (by decide) rfl ?_
        refine v_iinc (ls' := [some (pA a0), some (pA a1), some (pI a2), some (pI a3), some (pI a4), some (pI (imin a4 (M.1 (M.1 a1 5) r6))), some (pI (w32 (s10.1 + (w32 (r12 * r14))))), some (pI (w32 (s10.2 + 1)))]) dX4_waysOf_84 (by decide) rfl rfl ?_
        refine v_goto (tgt := 50) dX4_waysOf_87 (by decide) ?_
        exact hrec9 (w32 (s10.1 + (w32 (r12 * r14))), w32 (s10.2 + 1))
    · refine v_iload dX4_waysOf_5 rfl ?_
      refine v_if_ne (tgt := 14) dX4_waysOf_7 (by decide) (fun c16 => ?_) (fun c16 => ?_)
      · refine v_iconst dX4_waysOf_10 (by decide) ?_
        refine v_goto (tgt := 15) dX4_waysOf_11 (by decide) ?_
        exact v_ireturn dX4_waysOf_15 rfl rfl
      · refine v_iconst dX4_waysOf_14 (by decide) ?_
        exact v_ireturn dX4_waysOf_15 rfl rfl
theorem dX4_ways_0 : decode cX4_ways 0 = .ok (.iconst 1, 1) := by decide +kernel
theorem dX4_ways_1 : decode cX4_ways 1 = .ok (.istore_n 2, 1) := by decide +kernel
theorem dX4_ways_2 : decode cX4_ways 2 = .ok (.iconst 0, 1) := by decide +kernel
theorem dX4_ways_3 : decode cX4_ways 3 = .ok (.istore_n 3, 1) := by decide +kernel
theorem dX4_ways_4 : decode cX4_ways 4 = .ok (.iload_n 3, 1) := by decide +kernel
theorem dX4_ways_5 : decode cX4_ways 5 = .ok (.aload_n 0, 1) := by decide +kernel
theorem dX4_ways_6 : decode cX4_ways 6 = .ok (.getfield 9, 3) := by decide +kernel
theorem dX4_ways_9 : decode cX4_ways 9 = .ok (.if_icmp .ge 39, 3) := by decide +kernel
theorem dX4_ways_12 : decode cX4_ways 12 = .ok (.aload_n 0, 1) := by decide +kernel
theorem dX4_ways_13 : decode cX4_ways 13 = .ok (.iload_n 3, 1) := by decide +kernel
theorem dX4_ways_14 : decode cX4_ways 14 = .ok (.iconst 0, 1) := by decide +kernel
theorem dX4_ways_15 : decode cX4_ways 15 = .ok (.iload_n 3, 1) := by decide +kernel
theorem dX4_ways_16 : decode cX4_ways 16 = .ok (.invokevirtual 36, 3) := by decide +kernel
theorem dX4_ways_19 : decode cX4_ways 19 = .ok (.ifCond .ne 23, 3) := by decide +kernel
theorem dX4_ways_22 : decode cX4_ways 22 = .ok (.iload_n 2, 1) := by decide +kernel
theorem dX4_ways_23 : decode cX4_ways 23 = .ok (.aload_n 0, 1) := by decide +kernel
theorem dX4_ways_24 : decode cX4_ways 24 = .ok (.aload_n 1, 1) := by decide +kernel
theorem dX4_ways_25 : decode cX4_ways 25 = .ok (.iload_n 3, 1) := by decide +kernel
theorem dX4_ways_26 : decode cX4_ways 26 = .ok (.iconst 0, 1) := by decide +kernel
theorem dX4_ways_27 : decode cX4_ways 27 = .ok (.aload_n 0, 1) := by decide +kernel
theorem dX4_ways_28 : decode cX4_ways 28 = .ok (.iload_n 3, 1) := by decide +kernel
theorem dX4_ways_29 : decode cX4_ways 29 = .ok (.iload_n 3, 1) := by decide +kernel
theorem dX4_ways_30 : decode cX4_ways 30 = .ok (.aload_n 0, 1) := by decide +kernel
theorem dX4_ways_31 : decode cX4_ways 31 = .ok (.getfield 9, 3) := by decide +kernel
theorem dX4_ways_34 : decode cX4_ways 34 = .ok (.invokevirtual 36, 3) := by decide +kernel
theorem dX4_ways_37 : decode cX4_ways 37 = .ok (.invokevirtual 40, 3) := by decide +kernel
theorem dX4_ways_40 : decode cX4_ways 40 = .ok (.imul, 1) := by decide +kernel
theorem dX4_ways_41 : decode cX4_ways 41 = .ok (.istore_n 2, 1) := by decide +kernel
theorem dX4_ways_42 : decode cX4_ways 42 = .ok (.iinc 3 1, 3) := by decide +kernel
theorem dX4_ways_45 : decode cX4_ways 45 = .ok (.goto (-41), 3) := by decide +kernel
theorem dX4_ways_48 : decode cX4_ways 48 = .ok (.iload_n 2, 1) := by decide +kernel
theorem dX4_ways_49 : decode cX4_ways 49 = .ok (.ireturn, 1) := by decide +kernel
abbrev mX4_ways : MI := (yX4_ways, cX4_ways, 4, (some .int))
theorem okX4_ways : cok mX4_ways 1 := ⟨tw948, tw6, by decide, by decide, by decide, by decide +kernel⟩
def fX4_ways (M : Mem) (a0 a1 : Int) : Option Int :=
  iterC (fun (rec1 : (Int × Int) → Option Int) (s2 : Int × Int) => if M.2.1 a0 = 4 then if s2.2 < M.1 a0 0 then ((fX4_alike M a0 s2.2 0 s2.2).bind fun r5 => if r5 = 0 then ((fX4_alike M a0 s2.2 s2.2 (M.1 a0 0)).bind fun r8 => (fX4_waysOf 20 M a0 a1 s2.2 0 r8).bind fun r10 => rec1 (w32 (s2.1 * r10), w32 (s2.2 + 1))) else (rec1 (s2.1, w32 (s2.2 + 1)))) else (some s2.1) else none) BIG (1, 0)
set_option maxRecDepth 100000 in
set_option maxHeartbeats 4000000 in
theorem kX4_ways (d : Nat) (hd : 23 ≤ d) (M : Mem) (a0 a1 : Int) : Ct mX4_ways d 0 0 [pA a0, pA a1] M (dI M) (fX4_ways M a0 a1) := by
  obtain ⟨d, rfl⟩ : ∃ k, d = k + 1 := ⟨d - 1, by omega⟩
  refine Ct.of 2 (by decide +kernel) rfl ?_
  unfold fX4_ways
  refine v_iconst dX4_ways_0 (by decide) ?_
  refine v_istore_n (ls' := [some (pA a0), some (pA a1), some (pI 1), none]) dX4_ways_1 (by decide) rfl ?_
  refine v_iconst dX4_ways_2 (by decide) ?_
  refine v_istore_n (ls' := [some (pA a0), some (pA a1), some (pI 1), some (pI 0)]) dX4_ways_3 (by decide) rfl ?_
  refine v_loop (fun (s2 : Int × Int) => [some (pA a0), some (pA a1), some (pI s2.1), some (pI s2.2)]) (fun (s2 : Int × Int) => M) (s0 := (1, 0)) ?_
  intro rec1 hrec1 s2
  refine v_iload_n dX4_ways_4 rfl ?_
  refine v_aload_n dX4_ways_5 rfl ?_
  refine v_if (fun h3 => ?_)
  refine v_get (v := pI (M.1 a0 0)) 4 0 rfl inX4 (by decide) tw185 dX4_ways_6 h3 rfl ?_
  refine v_icmp_ge (tgt := 48) dX4_ways_9 (by decide) (fun c4 => ?_) (fun c4 => ?_)
  · refine v_aload_n dX4_ways_12 rfl ?_
    refine v_iload_n dX4_ways_13 rfl ?_
    refine v_iconst dX4_ways_14 (by decide) ?_
    refine v_iload_n dX4_ways_15 rfl ?_
    refine v_cV (mi := mX4_ways) (As := [pI s2.2, pI 0, pI s2.2]) (st := []) (kX4_alike d (by omega) _ _ _ _ _) rfl h3 rfl okX4_alike (Or.inl tw949) tw951 tp19 rfl (Nat.le_of_ble_eq_true rfl) dX4_ways_16 (fun r5 => [pI r5]) (fun r5 => M) (fun _ => rfl) (fun _ => rfl) (fun r5 h6 => ?_) rfl
    refine v_if_ne (tgt := 42) dX4_ways_19 (by decide) (fun c7 => ?_) (fun c7 => ?_)
    · refine v_iload_n dX4_ways_22 rfl ?_
      refine v_aload_n dX4_ways_23 rfl ?_
      refine v_aload_n dX4_ways_24 rfl ?_
      refine v_iload_n dX4_ways_25 rfl ?_
      refine v_iconst dX4_ways_26 (by decide) ?_
      refine v_aload_n dX4_ways_27 rfl ?_
      refine v_iload_n dX4_ways_28 rfl ?_
      refine v_iload_n dX4_ways_29 rfl ?_
      refine v_aload_n dX4_ways_30 rfl ?_
      refine v_get (v := pI (M.1 a0 0)) 4 0 rfl inX4 (by decide) tw185 dX4_ways_31 h3 rfl ?_
      refine v_cV (mi := mX4_ways) (As := [pI s2.2, pI s2.2, pI (M.1 a0 0)]) (st := [pI 0, pI s2.2, pA a1, pA a0, pI s2.1]) (kX4_alike d (by omega) _ _ _ _ _) rfl h3 rfl okX4_alike (Or.inl tw949) tw951 tp19 rfl (Nat.le_of_ble_eq_true rfl) dX4_ways_34 (fun r8 => [pI r8, pI 0, pI s2.2, pA a1, pA a0, pI s2.1]) (fun r8 => M) (fun _ => rfl) (fun _ => rfl) (fun r8 h9 => ?_) rfl
      refine v_cV (mi := mX4_ways) (As := [pA a1, pI s2.2, pI 0, pI r8]) (st := [pI s2.1]) (kX4_waysOf 20 d (by omega) _ _ _ _ _ _) rfl h3 rfl okX4_waysOf (Or.inl tw953) tw955 tp20 rfl (Nat.le_of_ble_eq_true rfl) dX4_ways_37 (fun r10 => [pI r10, pI s2.1]) (fun r10 => M) (fun _ => rfl) (fun _ => rfl) (fun r10 h11 => ?_) rfl
      refine v_imul dX4_ways_40 ?_
      refine v_istore_n (ls' := [some (pA a0), some (pA a1), some (pI (w32 (s2.1 * r10))), some (pI s2.2)]) dX4_ways_41 (by decide) rfl ?_
      refine v_iinc (ls' := [some (pA a0), some (pA a1), some (pI (w32 (s2.1 * r10))), some (pI (w32 (s2.2 + 1)))]) dX4_ways_42 (by decide) rfl rfl ?_
      refine v_goto (tgt := 4) dX4_ways_45 (by decide) ?_
      exact hrec1 (w32 (s2.1 * r10), w32 (s2.2 + 1))
    · refine v_iinc (ls' := [some (pA a0), some (pA a1), some (pI s2.1), some (pI (w32 (s2.2 + 1)))]) dX4_ways_42 (by decide) rfl rfl ?_
      refine v_goto (tgt := 4) dX4_ways_45 (by decide) ?_
      exact hrec1 (s2.1, w32 (s2.2 + 1))
  · refine v_iload_n dX4_ways_48 rfl ?_
    exact v_ireturn dX4_ways_49 rfl rfl
theorem dX4_mayBe_0 : decode cX4_mayBe 0 = .ok (.aload_n 0, 1) := by decide +kernel
theorem dX4_mayBe_1 : decode cX4_mayBe 1 = .ok (.aload_n 1, 1) := by decide +kernel
theorem dX4_mayBe_2 : decode cX4_mayBe 2 = .ok (.invokevirtual 61, 3) := by decide +kernel
theorem dX4_mayBe_5 : decode cX4_mayBe 5 = .ok (.ifCond .ne 5, 3) := by decide +kernel
theorem dX4_mayBe_8 : decode cX4_mayBe 8 = .ok (.iconst 0, 1) := by decide +kernel
theorem dX4_mayBe_9 : decode cX4_mayBe 9 = .ok (.ireturn, 1) := by decide +kernel
theorem dX4_mayBe_10 : decode cX4_mayBe 10 = .ok (.iconst 0, 1) := by decide +kernel
theorem dX4_mayBe_11 : decode cX4_mayBe 11 = .ok (.istore_n 3, 1) := by decide +kernel
theorem dX4_mayBe_12 : decode cX4_mayBe 12 = .ok (.iconst 0, 1) := by decide +kernel
theorem dX4_mayBe_13 : decode cX4_mayBe 13 = .ok (.istore 4, 2) := by decide +kernel
theorem dX4_mayBe_15 : decode cX4_mayBe 15 = .ok (.iload 4, 2) := by decide +kernel
theorem dX4_mayBe_17 : decode cX4_mayBe 17 = .ok (.iconst 4, 1) := by decide +kernel
theorem dX4_mayBe_18 : decode cX4_mayBe 18 = .ok (.if_icmp .ge 45, 3) := by decide +kernel
theorem dX4_mayBe_21 : decode cX4_mayBe 21 = .ok (.iload_n 3, 1) := by decide +kernel
theorem dX4_mayBe_22 : decode cX4_mayBe 22 = .ok (.aload_n 1, 1) := by decide +kernel
theorem dX4_mayBe_23 : decode cX4_mayBe 23 = .ok (.getfield 44, 3) := by decide +kernel
theorem dX4_mayBe_26 : decode cX4_mayBe 26 = .ok (.iload 4, 2) := by decide +kernel
theorem dX4_mayBe_28 : decode cX4_mayBe 28 = .ok (.aload_n 0, 1) := by decide +kernel
theorem dX4_mayBe_29 : decode cX4_mayBe 29 = .ok (.getfield 15, 3) := by decide +kernel
theorem dX4_mayBe_32 : decode cX4_mayBe 32 = .ok (.iload_n 2, 1) := by decide +kernel
theorem dX4_mayBe_33 : decode cX4_mayBe 33 = .ok (.iaload, 1) := by decide +kernel
theorem dX4_mayBe_34 : decode cX4_mayBe 34 = .ok (.aload_n 0, 1) := by decide +kernel
theorem dX4_mayBe_35 : decode cX4_mayBe 35 = .ok (.getfield 19, 3) := by decide +kernel
theorem dX4_mayBe_38 : decode cX4_mayBe 38 = .ok (.iload_n 2, 1) := by decide +kernel
theorem dX4_mayBe_39 : decode cX4_mayBe 39 = .ok (.iaload, 1) := by decide +kernel
theorem dX4_mayBe_40 : decode cX4_mayBe 40 = .ok (.invokestatic 49, 3) := by decide +kernel
theorem dX4_mayBe_43 : decode cX4_mayBe 43 = .ok (.iaload, 1) := by decide +kernel
theorem dX4_mayBe_44 : decode cX4_mayBe 44 = .ok (.ifCond .le 10, 3) := by decide +kernel
theorem dX4_mayBe_47 : decode cX4_mayBe 47 = .ok (.iconst 1, 1) := by decide +kernel
theorem dX4_mayBe_48 : decode cX4_mayBe 48 = .ok (.iload 4, 2) := by decide +kernel
theorem dX4_mayBe_50 : decode cX4_mayBe 50 = .ok (.ishl, 1) := by decide +kernel
theorem dX4_mayBe_51 : decode cX4_mayBe 51 = .ok (.goto 4, 3) := by decide +kernel
theorem dX4_mayBe_54 : decode cX4_mayBe 54 = .ok (.iconst 0, 1) := by decide +kernel
theorem dX4_mayBe_55 : decode cX4_mayBe 55 = .ok (.ior, 1) := by decide +kernel
theorem dX4_mayBe_56 : decode cX4_mayBe 56 = .ok (.istore_n 3, 1) := by decide +kernel
theorem dX4_mayBe_57 : decode cX4_mayBe 57 = .ok (.iinc 4 1, 3) := by decide +kernel
theorem dX4_mayBe_60 : decode cX4_mayBe 60 = .ok (.goto (-45), 3) := by decide +kernel
theorem dX4_mayBe_63 : decode cX4_mayBe 63 = .ok (.iload_n 3, 1) := by decide +kernel
theorem dX4_mayBe_64 : decode cX4_mayBe 64 = .ok (.ireturn, 1) := by decide +kernel
abbrev mX4_mayBe : MI := (yX4_mayBe, cX4_mayBe, 5, (some .int))
theorem okX4_mayBe : cok mX4_mayBe 2 := ⟨tw965, tw6, by decide, by decide, by decide, by decide +kernel⟩
def fX4_mayBe (M : Mem) (a0 a1 a2 : Int) : Option Int :=
  if M.2.1 a0 = 4 then (fX4_ways M a0 a1).bind fun r1 => if r1 = 0 then (some 0) else (iterC (fun (rec5 : (Int × Int) → Option Int) (s6 : Int × Int) => if s6.2 < 4 then (if M.2.1 a1 = 8 then if M.2.1 (M.1 a0 1) = 12 ∧ 0 ≤ a2 ∧ a2 < M.2.2.1 (M.1 a0 1) then if M.2.1 (M.1 a0 2) = 12 ∧ 0 ≤ a2 ∧ a2 < M.2.2.1 (M.1 a0 2) then (fX10_cell_ M s6.2 (M.1 (M.1 a0 1) a2) (M.1 (M.1 a0 2) a2)).bind fun r11 => if M.2.1 (M.1 a1 5) = 12 ∧ 0 ≤ r11 ∧ r11 < M.2.2.1 (M.1 a1 5) then if 0 < M.1 (M.1 a1 5) r11 then (rec5 (bOr s6.1 (bShl 1 s6.2), w32 (s6.2 + 1))) else (rec5 (bOr s6.1 0, w32 (s6.2 + 1))) else none else none else none else none) else (some s6.1)) BIG (0, 0)) else none
set_option maxRecDepth 100000 in
set_option maxHeartbeats 4000000 in
theorem kX4_mayBe (d : Nat) (hd : 24 ≤ d) (M : Mem) (a0 a1 a2 : Int) : Ct mX4_mayBe d 0 0 [pA a0, pA a1, pI a2] M (dI M) (fX4_mayBe M a0 a1 a2) := by
  obtain ⟨d, rfl⟩ : ∃ k, d = k + 1 := ⟨d - 1, by omega⟩
  refine Ct.of 2 (by decide +kernel) rfl ?_
  unfold fX4_mayBe
  refine v_aload_n dX4_mayBe_0 rfl ?_
  refine v_aload_n dX4_mayBe_1 rfl ?_
  refine v_if (fun h3 => ?_)
  refine v_cV (mi := mX4_mayBe) (As := [pA a1]) (st := []) (kX4_ways d (by omega) _ _ _) rfl h3 rfl okX4_ways (Or.inl tw966) tw946 tw947 rfl (Nat.le_of_ble_eq_true rfl) dX4_mayBe_2 (fun r1 => [pI r1]) (fun r1 => M) (fun _ => rfl) (fun _ => rfl) (fun r1 h2 => ?_) rfl
  refine v_if_ne (tgt := 10) dX4_mayBe_5 (by decide) (fun c4 => ?_) (fun c4 => ?_)
  · refine v_iconst dX4_mayBe_8 (by decide) ?_
    exact v_ireturn dX4_mayBe_9 rfl rfl
  · refine v_iconst dX4_mayBe_10 (by decide) ?_
    refine v_istore_n (ls' := [some (pA a0), some (pA a1), some (pI a2), some (pI 0), none]) dX4_mayBe_11 (by decide) rfl ?_
    refine v_iconst dX4_mayBe_12 (by decide) ?_
    refine v_istore (ls' := [some (pA a0), some (pA a1), some (pI a2), some (pI 0), some (pI 0)]) dX4_mayBe_13 (by decide) rfl ?_
    refine v_loop (fun (s6 : Int × Int) => [some (pA a0), some (pA a1), some (pI a2), some (pI s6.1), some (pI s6.2)]) (fun (s6 : Int × Int) => M) (s0 := (0, 0)) ?_
    intro rec5 hrec5 s6
    refine v_iload dX4_mayBe_15 rfl ?_
    refine v_iconst dX4_mayBe_17 (by decide) ?_
    refine v_icmp_ge (tgt := 63) dX4_mayBe_18 (by decide) (fun c7 => ?_) (fun c7 => ?_)
    · refine v_iload_n dX4_mayBe_21 rfl ?_
      refine v_aload_n dX4_mayBe_22 rfl ?_
      refine v_if (fun h8 => ?_)
      refine v_get (v := pA (M.1 a1 5)) 8 5 rfl inX9 (by decide) tw330 dX4_mayBe_23 h8 rfl ?_
      refine v_iload dX4_mayBe_26 rfl ?_
      refine v_aload_n dX4_mayBe_28 rfl ?_
      refine v_get (v := pA (M.1 a0 1)) 4 1 rfl inX4 (by decide) tw188 dX4_mayBe_29 h3 rfl ?_
      refine v_iload_n dX4_mayBe_32 rfl ?_
      refine v_if (fun h9 => ?_)
      refine v_iaload h9 dX4_mayBe_33 ?_
      refine v_aload_n dX4_mayBe_34 rfl ?_
      refine v_get (v := pA (M.1 a0 2)) 4 2 rfl inX4 (by decide) tw190 dX4_mayBe_35 h3 rfl ?_
      refine v_iload_n dX4_mayBe_38 rfl ?_
      refine v_if (fun h10 => ?_)
      refine v_iaload h10 dX4_mayBe_39 ?_
      refine v_cS (mi := mX4_mayBe) (As := [pI s6.2, pI (M.1 (M.1 a0 1) a2), pI (M.1 (M.1 a0 2) a2)]) (st := [pA (M.1 a1 5), pI s6.1]) (kX10_cell_ d (by omega) _ _ _ _) okX10_cell_ (Or.inr nw21) tw766 rfl (Nat.le_of_ble_eq_true rfl) dX4_mayBe_40 (fun r11 => [pI r11, pA (M.1 a1 5), pI s6.1]) (fun r11 => M) (fun _ => rfl) (fun _ => rfl) (fun r11 h12 => ?_) rfl
      refine v_if (fun h13 => ?_)
      refine v_iaload h13 dX4_mayBe_43 ?_
      refine v_if_le (tgt := 54) dX4_mayBe_44 (by decide) (fun c14 => ?_) (fun c14 => ?_)
      · refine v_iconst dX4_mayBe_47 (by decide) ?_
        refine v_iload dX4_mayBe_48 rfl ?_
        refine v_ishl dX4_mayBe_50 ?_
        refine v_goto (tgt := 55) dX4_mayBe_51 (by decide) ?_
        refine v_ior dX4_mayBe_55 ?_
        refine v_istore_n (ls' := [some (pA a0), some (pA a1), some (pI a2), some (pI (bOr s6.1 (bShl 1 s6.2))), some (pI s6.2)]) dX4_mayBe_56 (by decide) rfl ?_
        refine v_iinc (ls' := [some (pA a0), some (pA a1), some (pI a2), some (pI (bOr s6.1 (bShl 1 s6.2))), some (pI (w32 (s6.2 + 1)))]) dX4_mayBe_57 (by decide) rfl rfl ?_
        refine v_goto (tgt := 15) dX4_mayBe_60 (by decide) ?_
        exact hrec5 (bOr s6.1 (bShl 1 s6.2), w32 (s6.2 + 1))
      · refine v_iconst dX4_mayBe_54 (by decide) ?_
        refine v_ior dX4_mayBe_55 ?_
        refine v_istore_n (ls' := [some (pA a0), some (pA a1), some (pI a2), some (pI (bOr s6.1 0)), some (pI s6.2)]) dX4_mayBe_56 (by decide) rfl ?_
        refine v_iinc (ls' := [some (pA a0), some (pA a1), some (pI a2), some (pI (bOr s6.1 0)), some (pI (w32 (s6.2 + 1)))]) dX4_mayBe_57 (by decide) rfl rfl ?_
        refine v_goto (tgt := 15) dX4_mayBe_60 (by decide) ?_
        exact hrec5 (bOr s6.1 0, w32 (s6.2 + 1))
    · refine v_iload_n dX4_mayBe_63 rfl ?_
      exact v_ireturn dX4_mayBe_64 rfl rfl
theorem dX10_cell_0 : decode cX10_cell 0 = .ok (.iconst 5, 1) := by decide +kernel
theorem dX10_cell_1 : decode cX10_cell 1 = .ok (.iload_n 0, 1) := by decide +kernel
theorem dX10_cell_2 : decode cX10_cell 2 = .ok (.imul, 1) := by decide +kernel
theorem dX10_cell_3 : decode cX10_cell 3 = .ok (.iload_n 1, 1) := by decide +kernel
theorem dX10_cell_4 : decode cX10_cell 4 = .ok (.iadd, 1) := by decide +kernel
theorem dX10_cell_5 : decode cX10_cell 5 = .ok (.ireturn, 1) := by decide +kernel
abbrev mX10_cell : MI := (yX10_cell, cX10_cell, 2, (some .int))
theorem okX10_cell : cok mX10_cell 2 := ⟨tw622, tw1, by decide, by decide, by decide, by decide +kernel⟩
def fX10_cell (M : Mem) (a0 a1 : Int) : Option Int :=
  some (w32 ((w32 (5 * a0)) + a1))
set_option maxRecDepth 100000 in
set_option maxHeartbeats 4000000 in
theorem kX10_cell (d : Nat) (hd : 0 ≤ d) (M : Mem) (a0 a1 : Int) : Ct mX10_cell d 0 0 [pI a0, pI a1] M (dI M) (fX10_cell M a0 a1) := by
  refine Ct.of 0 (by decide +kernel) rfl ?_
  unfold fX10_cell
  refine v_iconst dX10_cell_0 (by decide) ?_
  refine v_iload_n dX10_cell_1 rfl ?_
  refine v_imul dX10_cell_2 ?_
  refine v_iload_n dX10_cell_3 rfl ?_
  refine v_iadd dX10_cell_4 ?_
  exact v_ireturn dX10_cell_5 rfl rfl
theorem dX4_isTold_0 : decode cX4_isTold 0 = .ok (.iconst 0, 1) := by decide +kernel
theorem dX4_isTold_1 : decode cX4_isTold 1 = .ok (.istore_n 3, 1) := by decide +kernel
theorem dX4_isTold_2 : decode cX4_isTold 2 = .ok (.iload_n 3, 1) := by decide +kernel
theorem dX4_isTold_3 : decode cX4_isTold 3 = .ok (.aload_n 1, 1) := by decide +kernel
theorem dX4_isTold_4 : decode cX4_isTold 4 = .ok (.getfield 73, 3) := by decide +kernel
theorem dX4_isTold_7 : decode cX4_isTold 7 = .ok (.if_icmp .ge 25, 3) := by decide +kernel
theorem dX4_isTold_10 : decode cX4_isTold 10 = .ok (.aload_n 0, 1) := by decide +kernel
theorem dX4_isTold_11 : decode cX4_isTold 11 = .ok (.getfield 22, 3) := by decide +kernel
theorem dX4_isTold_14 : decode cX4_isTold 14 = .ok (.iload_n 3, 1) := by decide +kernel
theorem dX4_isTold_15 : decode cX4_isTold 15 = .ok (.iload_n 2, 1) := by decide +kernel
theorem dX4_isTold_16 : decode cX4_isTold 16 = .ok (.invokestatic 78, 3) := by decide +kernel
theorem dX4_isTold_19 : decode cX4_isTold 19 = .ok (.iaload, 1) := by decide +kernel
theorem dX4_isTold_20 : decode cX4_isTold 20 = .ok (.iconst (-1), 1) := by decide +kernel
theorem dX4_isTold_21 : decode cX4_isTold 21 = .ok (.if_icmp .ne 5, 3) := by decide +kernel
theorem dX4_isTold_24 : decode cX4_isTold 24 = .ok (.iconst 0, 1) := by decide +kernel
theorem dX4_isTold_25 : decode cX4_isTold 25 = .ok (.ireturn, 1) := by decide +kernel
theorem dX4_isTold_26 : decode cX4_isTold 26 = .ok (.iinc 3 1, 3) := by decide +kernel
theorem dX4_isTold_29 : decode cX4_isTold 29 = .ok (.goto (-27), 3) := by decide +kernel
theorem dX4_isTold_32 : decode cX4_isTold 32 = .ok (.iconst 1, 1) := by decide +kernel
theorem dX4_isTold_33 : decode cX4_isTold 33 = .ok (.ireturn, 1) := by decide +kernel
abbrev mX4_isTold : MI := (yX4_isTold, cX4_isTold, 4, (some .boolean))
theorem okX4_isTold : cok mX4_isTold 2 := ⟨tw978, tw6, by decide, by decide, by decide, by decide +kernel⟩
def fX4_isTold (M : Mem) (a0 a1 a2 : Int) : Option Int :=
  iterC (fun (rec1 : Int → Option Int) (s2 : Int) => if M.2.1 a1 = 7 then if s2 < M.1 a1 0 then (if M.2.1 a0 = 4 then (fX10_cell M s2 a2).bind fun r6 => if M.2.1 (M.1 a0 3) = 12 ∧ 0 ≤ r6 ∧ r6 < M.2.2.1 (M.1 a0 3) then if M.1 (M.1 a0 3) r6 = (-1) then (some 0) else (rec1 (w32 (s2 + 1))) else none else none) else (some 1) else none) BIG 0
set_option maxRecDepth 100000 in
set_option maxHeartbeats 4000000 in
theorem kX4_isTold (d : Nat) (hd : 1 ≤ d) (M : Mem) (a0 a1 a2 : Int) : Ct mX4_isTold d 0 0 [pA a0, pA a1, pI a2] M (dI M) (fX4_isTold M a0 a1 a2) := by
  obtain ⟨d, rfl⟩ : ∃ k, d = k + 1 := ⟨d - 1, by omega⟩
  refine Ct.of 1 (by decide +kernel) rfl ?_
  unfold fX4_isTold
  refine v_iconst dX4_isTold_0 (by decide) ?_
  refine v_istore_n (ls' := [some (pA a0), some (pA a1), some (pI a2), some (pI 0)]) dX4_isTold_1 (by decide) rfl ?_
  refine v_loop (fun (s2 : Int) => [some (pA a0), some (pA a1), some (pI a2), some (pI s2)]) (fun (s2 : Int) => M) (s0 := 0) ?_
  intro rec1 hrec1 s2
  refine v_iload_n dX4_isTold_2 rfl ?_
  refine v_aload_n dX4_isTold_3 rfl ?_
  refine v_if (fun h3 => ?_)
  refine v_get (v := pI (M.1 a1 0)) 7 0 rfl inX7 (by decide) tw59 dX4_isTold_4 h3 rfl ?_
  refine v_icmp_ge (tgt := 32) dX4_isTold_7 (by decide) (fun c4 => ?_) (fun c4 => ?_)
  · refine v_aload_n dX4_isTold_10 rfl ?_
    refine v_if (fun h5 => ?_)
    refine v_get (v := pA (M.1 a0 3)) 4 3 rfl inX4 (by decide) tw192 dX4_isTold_11 h5 rfl ?_
    refine v_iload_n dX4_isTold_14 rfl ?_
    refine v_iload_n dX4_isTold_15 rfl ?_
    refine v_cS (mi := mX4_isTold) (As := [pI s2, pI a2]) (st := [pA (M.1 a0 3)]) (kX10_cell d (by omega) _ _ _) okX10_cell (Or.inr nw22) tw621 rfl (Nat.le_of_ble_eq_true rfl) dX4_isTold_16 (fun r6 => [pI r6, pA (M.1 a0 3)]) (fun r6 => M) (fun _ => rfl) (fun _ => rfl) (fun r6 h7 => ?_) rfl
    refine v_if (fun h8 => ?_)
    refine v_iaload h8 dX4_isTold_19 ?_
    refine v_iconst dX4_isTold_20 (by decide) ?_
    refine v_icmp_ne (tgt := 26) dX4_isTold_21 (by decide) (fun c9 => ?_) (fun c9 => ?_)
    · refine v_iconst dX4_isTold_24 (by decide) ?_
      exact v_breturn dX4_isTold_25 rfl (by decide) rfl
    · refine v_iinc (ls' := [some (pA a0), some (pA a1), some (pI a2), some (pI (w32 (s2 + 1)))]) dX4_isTold_26 (by decide) rfl rfl ?_
      refine v_goto (tgt := 2) dX4_isTold_29 (by decide) ?_
      exact hrec1 (w32 (s2 + 1))
  · refine v_iconst dX4_isTold_32 (by decide) ?_
    exact v_breturn dX4_isTold_33 rfl (by decide) rfl
theorem dX4_movedOf_0 : decode cX4_movedOf 0 = .ok (.iconst 0, 1) := by decide +kernel
theorem dX4_movedOf_1 : decode cX4_movedOf 1 = .ok (.istore 4, 2) := by decide +kernel
theorem dX4_movedOf_3 : decode cX4_movedOf 3 = .ok (.iconst 0, 1) := by decide +kernel
theorem dX4_movedOf_4 : decode cX4_movedOf 4 = .ok (.istore 5, 2) := by decide +kernel
theorem dX4_movedOf_6 : decode cX4_movedOf 6 = .ok (.iconst 0, 1) := by decide +kernel
theorem dX4_movedOf_7 : decode cX4_movedOf 7 = .ok (.istore 6, 2) := by decide +kernel
theorem dX4_movedOf_9 : decode cX4_movedOf 9 = .ok (.iconst 0, 1) := by decide +kernel
theorem dX4_movedOf_10 : decode cX4_movedOf 10 = .ok (.istore 7, 2) := by decide +kernel
theorem dX4_movedOf_12 : decode cX4_movedOf 12 = .ok (.iload 7, 2) := by decide +kernel
theorem dX4_movedOf_14 : decode cX4_movedOf 14 = .ok (.aload_n 1, 1) := by decide +kernel
theorem dX4_movedOf_15 : decode cX4_movedOf 15 = .ok (.getfield 73, 3) := by decide +kernel
theorem dX4_movedOf_18 : decode cX4_movedOf 18 = .ok (.if_icmp .ge 62, 3) := by decide +kernel
theorem dX4_movedOf_21 : decode cX4_movedOf 21 = .ok (.aload_n 1, 1) := by decide +kernel
theorem dX4_movedOf_22 : decode cX4_movedOf 22 = .ok (.getfield 80, 3) := by decide +kernel
theorem dX4_movedOf_25 : decode cX4_movedOf 25 = .ok (.iload 7, 2) := by decide +kernel
theorem dX4_movedOf_27 : decode cX4_movedOf 27 = .ok (.iload_n 2, 1) := by decide +kernel
theorem dX4_movedOf_28 : decode cX4_movedOf 28 = .ok (.invokestatic 78, 3) := by decide +kernel
theorem dX4_movedOf_31 : decode cX4_movedOf 31 = .ok (.iaload, 1) := by decide +kernel
theorem dX4_movedOf_32 : decode cX4_movedOf 32 = .ok (.aload_n 0, 1) := by decide +kernel
theorem dX4_movedOf_33 : decode cX4_movedOf 33 = .ok (.getfield 22, 3) := by decide +kernel
theorem dX4_movedOf_36 : decode cX4_movedOf 36 = .ok (.iload 7, 2) := by decide +kernel
theorem dX4_movedOf_38 : decode cX4_movedOf 38 = .ok (.iload_n 2, 1) := by decide +kernel
theorem dX4_movedOf_39 : decode cX4_movedOf 39 = .ok (.invokestatic 78, 3) := by decide +kernel
theorem dX4_movedOf_42 : decode cX4_movedOf 42 = .ok (.iaload, 1) := by decide +kernel
theorem dX4_movedOf_43 : decode cX4_movedOf 43 = .ok (.isub, 1) := by decide +kernel
theorem dX4_movedOf_44 : decode cX4_movedOf 44 = .ok (.istore 8, 2) := by decide +kernel
theorem dX4_movedOf_46 : decode cX4_movedOf 46 = .ok (.iload 5, 2) := by decide +kernel
theorem dX4_movedOf_48 : decode cX4_movedOf 48 = .ok (.iconst 0, 1) := by decide +kernel
theorem dX4_movedOf_49 : decode cX4_movedOf 49 = .ok (.iload 8, 2) := by decide +kernel
theorem dX4_movedOf_51 : decode cX4_movedOf 51 = .ok (.invokestatic 83, 3) := by decide +kernel
theorem dX4_movedOf_54 : decode cX4_movedOf 54 = .ok (.iadd, 1) := by decide +kernel
theorem dX4_movedOf_55 : decode cX4_movedOf 55 = .ok (.istore 5, 2) := by decide +kernel
theorem dX4_movedOf_57 : decode cX4_movedOf 57 = .ok (.iload 6, 2) := by decide +kernel
theorem dX4_movedOf_59 : decode cX4_movedOf 59 = .ok (.iload 8, 2) := by decide +kernel
theorem dX4_movedOf_61 : decode cX4_movedOf 61 = .ok (.iadd, 1) := by decide +kernel
theorem dX4_movedOf_62 : decode cX4_movedOf 62 = .ok (.istore 6, 2) := by decide +kernel
theorem dX4_movedOf_64 : decode cX4_movedOf 64 = .ok (.iload 4, 2) := by decide +kernel
theorem dX4_movedOf_66 : decode cX4_movedOf 66 = .ok (.iload 6, 2) := by decide +kernel
theorem dX4_movedOf_68 : decode cX4_movedOf 68 = .ok (.invokestatic 86, 3) := by decide +kernel
theorem dX4_movedOf_71 : decode cX4_movedOf 71 = .ok (.iadd, 1) := by decide +kernel
theorem dX4_movedOf_72 : decode cX4_movedOf 72 = .ok (.istore 4, 2) := by decide +kernel
theorem dX4_movedOf_74 : decode cX4_movedOf 74 = .ok (.iinc 7 1, 3) := by decide +kernel
theorem dX4_movedOf_77 : decode cX4_movedOf 77 = .ok (.goto (-65), 3) := by decide +kernel
theorem dX4_movedOf_80 : decode cX4_movedOf 80 = .ok (.iload 6, 2) := by decide +kernel
theorem dX4_movedOf_82 : decode cX4_movedOf 82 = .ok (.ifCond .eq 5, 3) := by decide +kernel
theorem dX4_movedOf_85 : decode cX4_movedOf 85 = .ok (.iconst (-1), 1) := by decide +kernel
theorem dX4_movedOf_86 : decode cX4_movedOf 86 = .ok (.ireturn, 1) := by decide +kernel
theorem dX4_movedOf_87 : decode cX4_movedOf 87 = .ok (.iload_n 3, 1) := by decide +kernel
theorem dX4_movedOf_88 : decode cX4_movedOf 88 = .ok (.ifCond .eq 8, 3) := by decide +kernel
theorem dX4_movedOf_91 : decode cX4_movedOf 91 = .ok (.iload 5, 2) := by decide +kernel
theorem dX4_movedOf_93 : decode cX4_movedOf 93 = .ok (.goto 5, 3) := by decide +kernel
theorem dX4_movedOf_96 : decode cX4_movedOf 96 = .ok (.iload 4, 2) := by decide +kernel
theorem dX4_movedOf_98 : decode cX4_movedOf 98 = .ok (.ireturn, 1) := by decide +kernel
abbrev mX4_movedOf : MI := (yX4_movedOf, cX4_movedOf, 9, (some .int))
theorem okX4_movedOf : cok mX4_movedOf 3 := ⟨tw983, tw6, by decide, by decide, by decide, by decide +kernel⟩
def fX4_movedOf (M : Mem) (a0 a1 a2 a3 : Int) : Option Int :=
  iterC (fun (rec1 : (Int × Int × Int × Int) → Option Int) (s2 : Int × Int × Int × Int) => if M.2.1 a1 = 7 then if s2.2.2.2 < M.1 a1 0 then ((fX10_cell M s2.2.2.2 a2).bind fun r5 => if M.2.1 (M.1 a1 2) = 12 ∧ 0 ≤ r5 ∧ r5 < M.2.2.1 (M.1 a1 2) then if M.2.1 a0 = 4 then (fX10_cell M s2.2.2.2 a2).bind fun r9 => if M.2.1 (M.1 a0 3) = 12 ∧ 0 ≤ r9 ∧ r9 < M.2.2.1 (M.1 a0 3) then rec1 (w32 (s2.1 + (iabs (w32 (s2.2.2.1 + (w32 ((M.1 (M.1 a1 2) r5) - (M.1 (M.1 a0 3) r9))))))), w32 (s2.2.1 + (imax 0 (w32 ((M.1 (M.1 a1 2) r5) - (M.1 (M.1 a0 3) r9))))), w32 (s2.2.2.1 + (w32 ((M.1 (M.1 a1 2) r5) - (M.1 (M.1 a0 3) r9)))), w32 (s2.2.2.2 + 1)) else none else none else none) else (if s2.2.2.1 = 0 then (if a3 = 0 then (some s2.1) else (some s2.2.1)) else (some (-1))) else none) BIG (0, 0, 0, 0)
set_option maxRecDepth 100000 in
set_option maxHeartbeats 4000000 in
theorem kX4_movedOf (d : Nat) (hd : 1 ≤ d) (M : Mem) (a0 a1 a2 a3 : Int) : Ct mX4_movedOf d 0 0 [pA a0, pA a1, pI a2, pI a3] M (dI M) (fX4_movedOf M a0 a1 a2 a3) := by
  obtain ⟨d, rfl⟩ : ∃ k, d = k + 1 := ⟨d - 1, by omega⟩
  refine Ct.of 5 (by decide +kernel) rfl ?_
  unfold fX4_movedOf
  refine v_iconst dX4_movedOf_0 (by decide) ?_
  refine v_istore (ls' := [some (pA a0), some (pA a1), some (pI a2), some (pI a3), some (pI 0), none, none, none, none]) dX4_movedOf_1 (by decide) rfl ?_
  refine v_iconst dX4_movedOf_3 (by decide) ?_
  refine v_istore (ls' := [some (pA a0), some (pA a1), some (pI a2), some (pI a3), some (pI 0), some (pI 0), none, none, none]) dX4_movedOf_4 (by decide) rfl ?_
  refine v_iconst dX4_movedOf_6 (by decide) ?_
  refine v_istore (ls' := [some (pA a0), some (pA a1), some (pI a2), some (pI a3), some (pI 0), some (pI 0), some (pI 0), none, none]) dX4_movedOf_7 (by decide) rfl ?_
  refine v_iconst dX4_movedOf_9 (by decide) ?_
  refine v_istore (ls' := [some (pA a0), some (pA a1), some (pI a2), some (pI a3), some (pI 0), some (pI 0), some (pI 0), some (pI 0), none]) dX4_movedOf_10 (by decide) rfl ?_
  refine v_loop (fun (s2 : Int × Int × Int × Int) => [some (pA a0), some (pA a1), some (pI a2), some (pI a3), some (pI s2.1), some (pI s2.2.1), some (pI s2.2.2.1), some (pI s2.2.2.2), none]) (fun (s2 : Int × Int × Int × Int) => M) (s0 := (0, 0, 0, 0)) ?_
  intro rec1 hrec1 s2
  refine v_iload dX4_movedOf_12 rfl ?_
  refine v_aload_n dX4_movedOf_14 rfl ?_
  refine v_if (fun h3 => ?_)
  refine v_get (v := pI (M.1 a1 0)) 7 0 rfl inX7 (by decide) tw59 dX4_movedOf_15 h3 rfl ?_
  refine v_icmp_ge (tgt := 80) dX4_movedOf_18 (by decide) (fun c4 => ?_) (fun c4 => ?_)
  · refine v_aload_n dX4_movedOf_21 rfl ?_
    refine v_get (v := pA (M.1 a1 2)) 7 2 rfl inX7 (by decide) tw70 dX4_movedOf_22 h3 rfl ?_
    refine v_iload dX4_movedOf_25 rfl ?_
    refine v_iload_n dX4_movedOf_27 rfl ?_
    refine v_cS (mi := mX4_movedOf) (As := [pI s2.2.2.2, pI a2]) (st := [pA (M.1 a1 2)]) (kX10_cell d (by omega) _ _ _) okX10_cell (Or.inr nw22) tw621 rfl (Nat.le_of_ble_eq_true rfl) dX4_movedOf_28 (fun r5 => [pI r5, pA (M.1 a1 2)]) (fun r5 => M) (fun _ => rfl) (fun _ => rfl) (fun r5 h6 => ?_) rfl
    refine v_if (fun h7 => ?_)
    refine v_iaload h7 dX4_movedOf_31 ?_
    refine v_aload_n dX4_movedOf_32 rfl ?_
    refine v_if (fun h8 => ?_)
    refine v_get (v := pA (M.1 a0 3)) 4 3 rfl inX4 (by decide) tw192 dX4_movedOf_33 h8 rfl ?_
    refine v_iload dX4_movedOf_36 rfl ?_
    refine v_iload_n dX4_movedOf_38 rfl ?_
    refine v_cS (mi := mX4_movedOf) (As := [pI s2.2.2.2, pI a2]) (st := [pA (M.1 a0 3), pI (M.1 (M.1 a1 2) r5)]) (kX10_cell d (by omega) _ _ _) okX10_cell (Or.inr nw22) tw621 rfl (Nat.le_of_ble_eq_true rfl) dX4_movedOf_39 (fun r9 => [pI r9, pA (M.1 a0 3), pI (M.1 (M.1 a1 2) r5)]) (fun r9 => M) (fun _ => rfl) (fun _ => rfl) (fun r9 h10 => ?_) rfl
    refine v_if (fun h11 => ?_)
    refine v_iaload h11 dX4_movedOf_42 ?_
    refine v_isub dX4_movedOf_43 ?_
    refine v_istore (ls' := [some (pA a0), some (pA a1), some (pI a2), some (pI a3), some (pI s2.1), some (pI s2.2.1), some (pI s2.2.2.1), some (pI s2.2.2.2), some (pI (w32 ((M.1 (M.1 a1 2) r5) - (M.1 (M.1 a0 3) r9))))]) dX4_movedOf_44 (by decide) rfl ?_
    refine v_iload dX4_movedOf_46 rfl ?_
    refine v_iconst dX4_movedOf_48 (by decide) ?_
    refine v_iload dX4_movedOf_49 rfl ?_
    refine v_mmax (mi := mX4_movedOf) tw984 tw624 tw12 tw625 (Nat.le_of_ble_eq_true rfl) dX4_movedOf_51 ?_
    refine v_iadd dX4_movedOf_54 ?_
    refine v_istore (ls' := [some (pA a0), some (pA a1), some (pI a2), some (pI a3), some (pI s2.1), some (pI (w32 (s2.2.1 + (imax 0 (w32 ((M.1 (M.1 a1 2) r5) - (M.1 (M.1 a0 3) r9))))))), some (pI s2.2.2.1), some (pI s2.2.2.2), some (pI (w32 ((M.1 (M.1 a1 2) r5) - (M.1 (M.1 a0 3) r9))))]) dX4_movedOf_55 (by decide) rfl ?_
    refine v_iload dX4_movedOf_57 rfl ?_
    refine v_iload dX4_movedOf_59 rfl ?_
    refine v_iadd dX4_movedOf_61 ?_
    refine v_istore (ls' := [some (pA a0), some (pA a1), some (pI a2), some (pI a3), some (pI s2.1), some (pI (w32 (s2.2.1 + (imax 0 (w32 ((M.1 (M.1 a1 2) r5) - (M.1 (M.1 a0 3) r9))))))), some (pI (w32 (s2.2.2.1 + (w32 ((M.1 (M.1 a1 2) r5) - (M.1 (M.1 a0 3) r9)))))), some (pI s2.2.2.2), some (pI (w32 ((M.1 (M.1 a1 2) r5) - (M.1 (M.1 a0 3) r9))))]) dX4_movedOf_62 (by decide) rfl ?_
    refine v_iload dX4_movedOf_64 rfl ?_
    refine v_iload dX4_movedOf_66 rfl ?_
    refine v_mabs (mi := mX4_movedOf) tw985 tw907 tw12 tw908 (Nat.le_of_ble_eq_true rfl) dX4_movedOf_68 ?_
    refine v_iadd dX4_movedOf_71 ?_
    refine v_istore (ls' := [some (pA a0), some (pA a1), some (pI a2), some (pI a3), some (pI (w32 (s2.1 + (iabs (w32 (s2.2.2.1 + (w32 ((M.1 (M.1 a1 2) r5) - (M.1 (M.1 a0 3) r9))))))))), some (pI (w32 (s2.2.1 + (imax 0 (w32 ((M.1 (M.1 a1 2) r5) - (M.1 (M.1 a0 3) r9))))))), some (pI (w32 (s2.2.2.1 + (w32 ((M.1 (M.1 a1 2) r5) - (M.1 (M.1 a0 3) r9)))))), some (pI s2.2.2.2), some (pI (w32 ((M.1 (M.1 a1 2) r5) - (M.1 (M.1 a0 3) r9))))]) dX4_movedOf_72 (by decide) rfl ?_
    refine v_iinc (ls' := [some (pA a0), some (pA a1), some (pI a2), some (pI a3), some (pI (w32 (s2.1 + (iabs (w32 (s2.2.2.1 + (w32 ((M.1 (M.1 a1 2) r5) - (M.1 (M.1 a0 3) r9))))))))), some (pI (w32 (s2.2.1 + (imax 0 (w32 ((M.1 (M.1 a1 2) r5) - (M.1 (M.1 a0 3) r9))))))), some (pI (w32 (s2.2.2.1 + (w32 ((M.1 (M.1 a1 2) r5) - (M.1 (M.1 a0 3) r9)))))), some (pI (w32 (s2.2.2.2 + 1))), some (pI (w32 ((M.1 (M.1 a1 2) r5) - (M.1 (M.1 a0 3) r9))))]) dX4_movedOf_74 (by decide) rfl rfl ?_
    refine v_goto (tgt := 12) dX4_movedOf_77 (by decide) ?_
    exact v_drop [some (pA a0), some (pA a1), some (pI a2), some (pI a3), some (pI (w32 (s2.1 + (iabs (w32 (s2.2.2.1 + (w32 ((M.1 (M.1 a1 2) r5) - (M.1 (M.1 a0 3) r9))))))))), some (pI (w32 (s2.2.1 + (imax 0 (w32 ((M.1 (M.1 a1 2) r5) - (M.1 (M.1 a0 3) r9))))))), some (pI (w32 (s2.2.2.1 + (w32 ((M.1 (M.1 a1 2) r5) - (M.1 (M.1 a0 3) r9)))))), some (pI (w32 (s2.2.2.2 + 1))), none] (ls_s (ls_s (ls_s (ls_s (ls_s (ls_s (ls_s (ls_s (ls_n ls_e))))))))) (hrec1 (w32 (s2.1 + (iabs (w32 (s2.2.2.1 + (w32 ((M.1 (M.1 a1 2) r5) - (M.1 (M.1 a0 3) r9))))))), w32 (s2.2.1 + (imax 0 (w32 ((M.1 (M.1 a1 2) r5) - (M.1 (M.1 a0 3) r9))))), w32 (s2.2.2.1 + (w32 ((M.1 (M.1 a1 2) r5) - (M.1 (M.1 a0 3) r9)))), w32 (s2.2.2.2 + 1)))
  · refine v_iload dX4_movedOf_80 rfl ?_
    refine v_if_eq (tgt := 87) dX4_movedOf_82 (by decide) (fun c12 => ?_) (fun c12 => ?_)
    · refine v_iload_n dX4_movedOf_87 rfl ?_
      refine v_if_eq (tgt := 96) dX4_movedOf_88 (by decide) (fun c13 => ?_) (fun c13 => ?_)
      · refine v_iload dX4_movedOf_96 rfl ?_
        exact v_ireturn dX4_movedOf_98 rfl rfl
      · refine v_iload dX4_movedOf_91 rfl ?_
        refine v_goto (tgt := 98) dX4_movedOf_93 (by decide) ?_
        exact v_ireturn dX4_movedOf_98 rfl rfl
    · refine v_iconst dX4_movedOf_85 (by decide) ?_
      exact v_ireturn dX4_movedOf_86 rfl rfl
theorem dX4_movedFrom_0 : decode cX4_movedFrom 0 = .ok (.iconst 0, 1) := by decide +kernel
theorem dX4_movedFrom_1 : decode cX4_movedFrom 1 = .ok (.istore_n 3, 1) := by decide +kernel
theorem dX4_movedFrom_2 : decode cX4_movedFrom 2 = .ok (.iconst 0, 1) := by decide +kernel
theorem dX4_movedFrom_3 : decode cX4_movedFrom 3 = .ok (.istore 4, 2) := by decide +kernel
theorem dX4_movedFrom_5 : decode cX4_movedFrom 5 = .ok (.iload 4, 2) := by decide +kernel
theorem dX4_movedFrom_7 : decode cX4_movedFrom 7 = .ok (.iconst 5, 1) := by decide +kernel
theorem dX4_movedFrom_8 : decode cX4_movedFrom 8 = .ok (.if_icmp .ge 42, 3) := by decide +kernel
theorem dX4_movedFrom_11 : decode cX4_movedFrom 11 = .ok (.aload_n 0, 1) := by decide +kernel
theorem dX4_movedFrom_12 : decode cX4_movedFrom 12 = .ok (.aload_n 1, 1) := by decide +kernel
theorem dX4_movedFrom_13 : decode cX4_movedFrom 13 = .ok (.iload 4, 2) := by decide +kernel
theorem dX4_movedFrom_15 : decode cX4_movedFrom 15 = .ok (.invokevirtual 65, 3) := by decide +kernel
theorem dX4_movedFrom_18 : decode cX4_movedFrom 18 = .ok (.ifCond .eq 26, 3) := by decide +kernel
theorem dX4_movedFrom_21 : decode cX4_movedFrom 21 = .ok (.aload_n 0, 1) := by decide +kernel
theorem dX4_movedFrom_22 : decode cX4_movedFrom 22 = .ok (.aload_n 1, 1) := by decide +kernel
theorem dX4_movedFrom_23 : decode cX4_movedFrom 23 = .ok (.iload 4, 2) := by decide +kernel
theorem dX4_movedFrom_25 : decode cX4_movedFrom 25 = .ok (.iload_n 2, 1) := by decide +kernel
theorem dX4_movedFrom_26 : decode cX4_movedFrom 26 = .ok (.invokevirtual 69, 3) := by decide +kernel
theorem dX4_movedFrom_29 : decode cX4_movedFrom 29 = .ok (.istore 5, 2) := by decide +kernel
theorem dX4_movedFrom_31 : decode cX4_movedFrom 31 = .ok (.iload 5, 2) := by decide +kernel
theorem dX4_movedFrom_33 : decode cX4_movedFrom 33 = .ok (.iconst (-1), 1) := by decide +kernel
theorem dX4_movedFrom_34 : decode cX4_movedFrom 34 = .ok (.if_icmp .ne 5, 3) := by decide +kernel
theorem dX4_movedFrom_37 : decode cX4_movedFrom 37 = .ok (.iconst (-1), 1) := by decide +kernel
theorem dX4_movedFrom_38 : decode cX4_movedFrom 38 = .ok (.ireturn, 1) := by decide +kernel
theorem dX4_movedFrom_39 : decode cX4_movedFrom 39 = .ok (.iload_n 3, 1) := by decide +kernel
theorem dX4_movedFrom_40 : decode cX4_movedFrom 40 = .ok (.iload 5, 2) := by decide +kernel
theorem dX4_movedFrom_42 : decode cX4_movedFrom 42 = .ok (.iadd, 1) := by decide +kernel
theorem dX4_movedFrom_43 : decode cX4_movedFrom 43 = .ok (.istore_n 3, 1) := by decide +kernel
theorem dX4_movedFrom_44 : decode cX4_movedFrom 44 = .ok (.iinc 4 1, 3) := by decide +kernel
theorem dX4_movedFrom_47 : decode cX4_movedFrom 47 = .ok (.goto (-42), 3) := by decide +kernel
theorem dX4_movedFrom_50 : decode cX4_movedFrom 50 = .ok (.iload_n 3, 1) := by decide +kernel
theorem dX4_movedFrom_51 : decode cX4_movedFrom 51 = .ok (.ireturn, 1) := by decide +kernel
abbrev mX4_movedFrom : MI := (yX4_movedFrom, cX4_movedFrom, 6, (some .int))
theorem okX4_movedFrom : cok mX4_movedFrom 2 := ⟨tw974, tw6, by decide, by decide, by decide, by decide +kernel⟩
def fX4_movedFrom (M : Mem) (a0 a1 a2 : Int) : Option Int :=
  iterC (fun (rec1 : (Int × Int) → Option Int) (s2 : Int × Int) => if s2.2 < 5 then (if M.2.1 a0 = 4 then (fX4_isTold M a0 a1 s2.2).bind fun r4 => if r4 = 0 then (rec1 (s2.1, w32 (s2.2 + 1))) else ((fX4_movedOf M a0 a1 s2.2 a2).bind fun r8 => if r8 = (-1) then (some (-1)) else (rec1 (w32 (s2.1 + r8), w32 (s2.2 + 1)))) else none) else (some s2.1)) BIG (0, 0)
set_option maxRecDepth 100000 in
set_option maxHeartbeats 4000000 in
theorem kX4_movedFrom (d : Nat) (hd : 2 ≤ d) (M : Mem) (a0 a1 a2 : Int) : Ct mX4_movedFrom d 0 0 [pA a0, pA a1, pI a2] M (dI M) (fX4_movedFrom M a0 a1 a2) := by
  obtain ⟨d, rfl⟩ : ∃ k, d = k + 1 := ⟨d - 1, by omega⟩
  refine Ct.of 3 (by decide +kernel) rfl ?_
  unfold fX4_movedFrom
  refine v_iconst dX4_movedFrom_0 (by decide) ?_
  refine v_istore_n (ls' := [some (pA a0), some (pA a1), some (pI a2), some (pI 0), none, none]) dX4_movedFrom_1 (by decide) rfl ?_
  refine v_iconst dX4_movedFrom_2 (by decide) ?_
  refine v_istore (ls' := [some (pA a0), some (pA a1), some (pI a2), some (pI 0), some (pI 0), none]) dX4_movedFrom_3 (by decide) rfl ?_
  refine v_loop (fun (s2 : Int × Int) => [some (pA a0), some (pA a1), some (pI a2), some (pI s2.1), some (pI s2.2), none]) (fun (s2 : Int × Int) => M) (s0 := (0, 0)) ?_
  intro rec1 hrec1 s2
  refine v_iload dX4_movedFrom_5 rfl ?_
  refine v_iconst dX4_movedFrom_7 (by decide) ?_
  refine v_icmp_ge (tgt := 50) dX4_movedFrom_8 (by decide) (fun c3 => ?_) (fun c3 => ?_)
  · refine v_aload_n dX4_movedFrom_11 rfl ?_
    refine v_aload_n dX4_movedFrom_12 rfl ?_
    refine v_iload dX4_movedFrom_13 rfl ?_
    refine v_if (fun h6 => ?_)
    refine v_cV (mi := mX4_movedFrom) (As := [pA a1, pI s2.2]) (st := []) (kX4_isTold d (by omega) _ _ _ _) rfl h6 rfl okX4_isTold (Or.inl tw975) tw977 tp21 rfl (Nat.le_of_ble_eq_true rfl) dX4_movedFrom_15 (fun r4 => [pI r4]) (fun r4 => M) (fun _ => rfl) (fun _ => rfl) (fun r4 h5 => ?_) rfl
    refine v_if_eq (tgt := 44) dX4_movedFrom_18 (by decide) (fun c7 => ?_) (fun c7 => ?_)
    · refine v_iinc (ls' := [some (pA a0), some (pA a1), some (pI a2), some (pI s2.1), some (pI (w32 (s2.2 + 1))), none]) dX4_movedFrom_44 (by decide) rfl rfl ?_
      refine v_goto (tgt := 5) dX4_movedFrom_47 (by decide) ?_
      exact hrec1 (s2.1, w32 (s2.2 + 1))
    · refine v_aload_n dX4_movedFrom_21 rfl ?_
      refine v_aload_n dX4_movedFrom_22 rfl ?_
      refine v_iload dX4_movedFrom_23 rfl ?_
      refine v_iload_n dX4_movedFrom_25 rfl ?_
      refine v_cV (mi := mX4_movedFrom) (As := [pA a1, pI s2.2, pI a2]) (st := []) (kX4_movedOf d (by omega) _ _ _ _ _) rfl h6 rfl okX4_movedOf (Or.inl tw980) tw982 tp22 rfl (Nat.le_of_ble_eq_true rfl) dX4_movedFrom_26 (fun r8 => [pI r8]) (fun r8 => M) (fun _ => rfl) (fun _ => rfl) (fun r8 h9 => ?_) rfl
      refine v_istore (ls' := [some (pA a0), some (pA a1), some (pI a2), some (pI s2.1), some (pI s2.2), some (pI r8)]) dX4_movedFrom_29 (by decide) rfl ?_
      refine v_iload dX4_movedFrom_31 rfl ?_
      refine v_iconst dX4_movedFrom_33 (by decide) ?_
      refine v_icmp_ne (tgt := 39) dX4_movedFrom_34 (by decide) (fun c10 => ?_) (fun c10 => ?_)
      · refine v_iconst dX4_movedFrom_37 (by decide) ?_
        exact v_ireturn dX4_movedFrom_38 rfl rfl
      · refine v_iload_n dX4_movedFrom_39 rfl ?_
        refine v_iload dX4_movedFrom_40 rfl ?_
        refine v_iadd dX4_movedFrom_42 ?_
        refine v_istore_n (ls' := [some (pA a0), some (pA a1), some (pI a2), some (pI (w32 (s2.1 + r8))), some (pI s2.2), some (pI r8)]) dX4_movedFrom_43 (by decide) rfl ?_
        refine v_iinc (ls' := [some (pA a0), some (pA a1), some (pI a2), some (pI (w32 (s2.1 + r8))), some (pI (w32 (s2.2 + 1))), some (pI r8)]) dX4_movedFrom_44 (by decide) rfl rfl ?_
        refine v_goto (tgt := 5) dX4_movedFrom_47 (by decide) ?_
        exact v_drop [some (pA a0), some (pA a1), some (pI a2), some (pI (w32 (s2.1 + r8))), some (pI (w32 (s2.2 + 1))), none] (ls_s (ls_s (ls_s (ls_s (ls_s (ls_n ls_e)))))) (hrec1 (w32 (s2.1 + r8), w32 (s2.2 + 1)))
  · refine v_iload_n dX4_movedFrom_50 rfl ?_
    exact v_ireturn dX4_movedFrom_51 rfl rfl
theorem dX7_clear_0 : decode cX7_clear 0 = .ok (.aload_n 0, 1) := by decide +kernel
theorem dX7_clear_1 : decode cX7_clear 1 = .ok (.iconst 3, 1) := by decide +kernel
theorem dX7_clear_2 : decode cX7_clear 2 = .ok (.putfield 39, 3) := by decide +kernel
theorem dX7_clear_5 : decode cX7_clear 5 = .ok (.aload_n 0, 1) := by decide +kernel
theorem dX7_clear_6 : decode cX7_clear 6 = .ok (.iconst 0, 1) := by decide +kernel
theorem dX7_clear_7 : decode cX7_clear 7 = .ok (.putfield 43, 3) := by decide +kernel
theorem dX7_clear_10 : decode cX7_clear 10 = .ok (.aload_n 0, 1) := by decide +kernel
theorem dX7_clear_11 : decode cX7_clear 11 = .ok (.getfield 9, 3) := by decide +kernel
theorem dX7_clear_14 : decode cX7_clear 14 = .ok (.iconst 0, 1) := by decide +kernel
theorem dX7_clear_15 : decode cX7_clear 15 = .ok (.invokestatic 46, 3) := by decide +kernel
theorem dX7_clear_18 : decode cX7_clear 18 = .ok (.aload_n 0, 1) := by decide +kernel
theorem dX7_clear_19 : decode cX7_clear 19 = .ok (.getfield 15, 3) := by decide +kernel
theorem dX7_clear_22 : decode cX7_clear 22 = .ok (.iconst 0, 1) := by decide +kernel
theorem dX7_clear_23 : decode cX7_clear 23 = .ok (.invokestatic 46, 3) := by decide +kernel
theorem dX7_clear_26 : decode cX7_clear 26 = .ok (.aload_n 0, 1) := by decide +kernel
theorem dX7_clear_27 : decode cX7_clear 27 = .ok (.getfield 18, 3) := by decide +kernel
theorem dX7_clear_30 : decode cX7_clear 30 = .ok (.iconst 0, 1) := by decide +kernel
theorem dX7_clear_31 : decode cX7_clear 31 = .ok (.invokestatic 46, 3) := by decide +kernel
theorem dX7_clear_34 : decode cX7_clear 34 = .ok (.iconst 0, 1) := by decide +kernel
theorem dX7_clear_35 : decode cX7_clear 35 = .ok (.istore_n 1, 1) := by decide +kernel
theorem dX7_clear_36 : decode cX7_clear 36 = .ok (.iload_n 1, 1) := by decide +kernel
theorem dX7_clear_37 : decode cX7_clear 37 = .ok (.bipush 6, 2) := by decide +kernel
theorem dX7_clear_39 : decode cX7_clear 39 = .ok (.if_icmp .ge 16, 3) := by decide +kernel
theorem dX7_clear_42 : decode cX7_clear 42 = .ok (.aload_n 0, 1) := by decide +kernel
theorem dX7_clear_43 : decode cX7_clear 43 = .ok (.getfield 21, 3) := by decide +kernel
theorem dX7_clear_46 : decode cX7_clear 46 = .ok (.iload_n 1, 1) := by decide +kernel
theorem dX7_clear_47 : decode cX7_clear 47 = .ok (.iload_n 1, 1) := by decide +kernel
theorem dX7_clear_48 : decode cX7_clear 48 = .ok (.iastore, 1) := by decide +kernel
theorem dX7_clear_49 : decode cX7_clear 49 = .ok (.iinc 1 1, 3) := by decide +kernel
theorem dX7_clear_52 : decode cX7_clear 52 = .ok (.goto (-16), 3) := by decide +kernel
theorem dX7_clear_55 : decode cX7_clear 55 = .ok (.aload_n 0, 1) := by decide +kernel
theorem dX7_clear_56 : decode cX7_clear 56 = .ok (.getfield 24, 3) := by decide +kernel
theorem dX7_clear_59 : decode cX7_clear 59 = .ok (.iconst 1, 1) := by decide +kernel
theorem dX7_clear_60 : decode cX7_clear 60 = .ok (.invokestatic 46, 3) := by decide +kernel
theorem dX7_clear_63 : decode cX7_clear 63 = .ok (.aload_n 0, 1) := by decide +kernel
theorem dX7_clear_64 : decode cX7_clear 64 = .ok (.getfield 27, 3) := by decide +kernel
theorem dX7_clear_67 : decode cX7_clear 67 = .ok (.iconst 1, 1) := by decide +kernel
theorem dX7_clear_68 : decode cX7_clear 68 = .ok (.invokestatic 46, 3) := by decide +kernel
theorem dX7_clear_71 : decode cX7_clear 71 = .ok (.aload_n 0, 1) := by decide +kernel
theorem dX7_clear_72 : decode cX7_clear 72 = .ok (.getfield 30, 3) := by decide +kernel
theorem dX7_clear_75 : decode cX7_clear 75 = .ok (.iconst 0, 1) := by decide +kernel
theorem dX7_clear_76 : decode cX7_clear 76 = .ok (.invokestatic 46, 3) := by decide +kernel
theorem dX7_clear_79 : decode cX7_clear 79 = .ok (.aload_n 0, 1) := by decide +kernel
theorem dX7_clear_80 : decode cX7_clear 80 = .ok (.getfield 33, 3) := by decide +kernel
theorem dX7_clear_83 : decode cX7_clear 83 = .ok (.iconst (-1), 1) := by decide +kernel
theorem dX7_clear_84 : decode cX7_clear 84 = .ok (.invokestatic 46, 3) := by decide +kernel
theorem dX7_clear_87 : decode cX7_clear 87 = .ok (.return_, 1) := by decide +kernel
abbrev mX7_clear : MI := (yX7_clear, cX7_clear, 2, none)
theorem okX7_clear : cok mX7_clear 0 := ⟨tw50, tw3, by decide, by decide, by decide, by decide +kernel⟩
def fX7_clear (M : Mem) (a0 : Int) : Option Mem :=
  if M.2.1 a0 = 7 then bM (mst M a0 0 3) fun M2 => bM (mst M2 a0 1 0) fun M4 => (fX10_fillRow M4 (M4.1 a0 2) 0).bind fun r6 => if r6.2.1 a0 = 7 then (fX10_fillRow r6 (r6.1 a0 3) 0).bind fun r9 => if r9.2.1 a0 = 7 then (fX10_fillRow r9 (r9.1 a0 4) 0).bind fun r12 => iterC (fun (rec14 : (Int × Mem) → Option Mem) (s15 : Int × Mem) => if s15.1 < 6 then (if s15.2.2.1 a0 = 7 then if s15.2.2.1 (s15.2.1 a0 5) = 12 ∧ 0 ≤ s15.1 ∧ s15.1 < s15.2.2.2.1 (s15.2.1 a0 5) then bM (mst s15.2 (s15.2.1 a0 5) s15.1 s15.1) fun M19 => rec14 (w32 (s15.1 + 1), M19) else none else none) else (if s15.2.2.1 a0 = 7 then (fX10_fillRow s15.2 (s15.2.1 a0 6) 1).bind fun r22 => if r22.2.1 a0 = 7 then (fX10_fillRow r22 (r22.1 a0 7) 1).bind fun r25 => if r25.2.1 a0 = 7 then (fX10_fillRow r25 (r25.1 a0 8) 0).bind fun r28 => if r28.2.1 a0 = 7 then (fX10_fillRow r28 (r28.1 a0 9) (-1)).bind fun r31 => some r31 else none else none else none else none)) BIG (0, r12) else none else none else none
set_option maxRecDepth 100000 in
set_option maxHeartbeats 4000000 in
theorem kX7_clear (d : Nat) (hd : 1 ≤ d) (M : Mem) (a0 : Int) : Ct mX7_clear d 0 0 [pA a0] M dV (fX7_clear M a0) := by
  obtain ⟨d, rfl⟩ : ∃ k, d = k + 1 := ⟨d - 1, by omega⟩
  refine Ct.of 1 (by decide +kernel) rfl ?_
  unfold fX7_clear
  refine v_aload_n dX7_clear_0 rfl ?_
  refine v_iconst dX7_clear_1 (by decide) ?_
  refine v_if (fun h1 => ?_)
  refine v_put (x := 3) 7 0 rfl inX7 (by decide) tw54 (Or.inl rfl) rfl dX7_clear_2 h1 rfl id ?_
  refine v_bM (fun M2 e3 => ?_)
  refine v_aload_n dX7_clear_5 rfl ?_
  refine v_iconst dX7_clear_6 (by decide) ?_
  refine v_put (x := 0) 7 1 rfl inX7 (by decide) tw61 (Or.inl rfl) rfl dX7_clear_7 (by rw [e3]; exact h1) rfl id ?_
  refine v_bM (fun M4 e5 => ?_)
  refine v_aload_n dX7_clear_10 rfl ?_
  refine v_get (v := pA (M4.1 a0 2)) 7 2 rfl inX7 (by decide) tw66 dX7_clear_11 (by rw [e5, e3]; exact h1) rfl ?_
  refine v_iconst dX7_clear_14 (by decide) ?_
  refine v_cS (mi := mX7_clear) (As := [pA (M4.1 a0 2), pI 0]) (st := []) (kX10_fillRow d (by omega) _ _ _) okX10_fillRow (Or.inr nw0) tw52 rfl (Nat.le_of_ble_eq_true rfl) dX7_clear_15 (fun r6 => []) (fun r6 => r6) (fun _ => rfl) (fun _ => rfl) (fun r6 h7 => ?_) rfl
  refine v_aload_n dX7_clear_18 rfl ?_
  refine v_if (fun h8 => ?_)
  refine v_get (v := pA (r6.1 a0 3)) 7 3 rfl inX7 (by decide) tw72 dX7_clear_19 h8 rfl ?_
  refine v_iconst dX7_clear_22 (by decide) ?_
  refine v_cS (mi := mX7_clear) (As := [pA (r6.1 a0 3), pI 0]) (st := []) (kX10_fillRow d (by omega) _ _ _) okX10_fillRow (Or.inr nw0) tw52 rfl (Nat.le_of_ble_eq_true rfl) dX7_clear_23 (fun r9 => []) (fun r9 => r9) (fun _ => rfl) (fun _ => rfl) (fun r9 h10 => ?_) rfl
  refine v_aload_n dX7_clear_26 rfl ?_
  refine v_if (fun h11 => ?_)
  refine v_get (v := pA (r9.1 a0 4)) 7 4 rfl inX7 (by decide) tw76 dX7_clear_27 h11 rfl ?_
  refine v_iconst dX7_clear_30 (by decide) ?_
  refine v_cS (mi := mX7_clear) (As := [pA (r9.1 a0 4), pI 0]) (st := []) (kX10_fillRow d (by omega) _ _ _) okX10_fillRow (Or.inr nw0) tw52 rfl (Nat.le_of_ble_eq_true rfl) dX7_clear_31 (fun r12 => []) (fun r12 => r12) (fun _ => rfl) (fun _ => rfl) (fun r12 h13 => ?_) rfl
  refine v_iconst dX7_clear_34 (by decide) ?_
  refine v_istore_n (ls' := [some (pA a0), some (pI 0)]) dX7_clear_35 (by decide) rfl ?_
  refine v_loop (fun (s15 : Int × Mem) => [some (pA a0), some (pI s15.1)]) (fun (s15 : Int × Mem) => s15.2) (s0 := (0, r12)) ?_
  intro rec14 hrec14 s15
  refine v_iload_n dX7_clear_36 rfl ?_
  refine v_bipush dX7_clear_37 (by decide) ?_
  refine v_icmp_ge (tgt := 55) dX7_clear_39 (by decide) (fun c16 => ?_) (fun c16 => ?_)
  · refine v_aload_n dX7_clear_42 rfl ?_
    refine v_if (fun h17 => ?_)
    refine v_get (v := pA (s15.2.1 a0 5)) 7 5 rfl inX7 (by decide) tw81 dX7_clear_43 h17 rfl ?_
    refine v_iload_n dX7_clear_46 rfl ?_
    refine v_iload_n dX7_clear_47 rfl ?_
    refine v_if (fun h18 => ?_)
    refine v_iastore h18 dX7_clear_48 ?_
    refine v_bM (fun M19 e20 => ?_)
    refine v_iinc (ls' := [some (pA a0), some (pI (w32 (s15.1 + 1)))]) dX7_clear_49 (by decide) rfl rfl ?_
    refine v_goto (tgt := 36) dX7_clear_52 (by decide) ?_
    exact hrec14 (w32 (s15.1 + 1), M19)
  · refine v_aload_n dX7_clear_55 rfl ?_
    refine v_if (fun h21 => ?_)
    refine v_get (v := pA (s15.2.1 a0 6)) 7 6 rfl inX7 (by decide) tw84 dX7_clear_56 h21 rfl ?_
    refine v_iconst dX7_clear_59 (by decide) ?_
    refine v_cS (mi := mX7_clear) (As := [pA (s15.2.1 a0 6), pI 1]) (st := []) (kX10_fillRow d (by omega) _ _ _) okX10_fillRow (Or.inr nw0) tw52 rfl (Nat.le_of_ble_eq_true rfl) dX7_clear_60 (fun r22 => []) (fun r22 => r22) (fun _ => rfl) (fun _ => rfl) (fun r22 h23 => ?_) rfl
    refine v_aload_n dX7_clear_63 rfl ?_
    refine v_if (fun h24 => ?_)
    refine v_get (v := pA (r22.1 a0 7)) 7 7 rfl inX7 (by decide) tw89 dX7_clear_64 h24 rfl ?_
    refine v_iconst dX7_clear_67 (by decide) ?_
    refine v_cS (mi := mX7_clear) (As := [pA (r22.1 a0 7), pI 1]) (st := []) (kX10_fillRow d (by omega) _ _ _) okX10_fillRow (Or.inr nw0) tw52 rfl (Nat.le_of_ble_eq_true rfl) dX7_clear_68 (fun r25 => []) (fun r25 => r25) (fun _ => rfl) (fun _ => rfl) (fun r25 h26 => ?_) rfl
    refine v_aload_n dX7_clear_71 rfl ?_
    refine v_if (fun h27 => ?_)
    refine v_get (v := pA (r25.1 a0 8)) 7 8 rfl inX7 (by decide) tw93 dX7_clear_72 h27 rfl ?_
    refine v_iconst dX7_clear_75 (by decide) ?_
    refine v_cS (mi := mX7_clear) (As := [pA (r25.1 a0 8), pI 0]) (st := []) (kX10_fillRow d (by omega) _ _ _) okX10_fillRow (Or.inr nw0) tw52 rfl (Nat.le_of_ble_eq_true rfl) dX7_clear_76 (fun r28 => []) (fun r28 => r28) (fun _ => rfl) (fun _ => rfl) (fun r28 h29 => ?_) rfl
    refine v_aload_n dX7_clear_79 rfl ?_
    refine v_if (fun h30 => ?_)
    refine v_get (v := pA (r28.1 a0 9)) 7 9 rfl inX7 (by decide) tw96 dX7_clear_80 h30 rfl ?_
    refine v_iconst dX7_clear_83 (by decide) ?_
    refine v_cS (mi := mX7_clear) (As := [pA (r28.1 a0 9), pI (-1)]) (st := []) (kX10_fillRow d (by omega) _ _ _) okX10_fillRow (Or.inr nw0) tw52 rfl (Nat.le_of_ble_eq_true rfl) dX7_clear_84 (fun r31 => []) (fun r31 => r31) (fun _ => rfl) (fun _ => rfl) (fun r31 h32 => ?_) rfl
    exact v_return dX7_clear_87 rfl rfl
theorem dX7_init_0 : decode cX7_init 0 = .ok (.aload_n 0, 1) := by decide +kernel
theorem dX7_init_1 : decode cX7_init 1 = .ok (.invokespecial 3, 3) := by decide +kernel
theorem dX7_init_4 : decode cX7_init 4 = .ok (.aload_n 0, 1) := by decide +kernel
theorem dX7_init_5 : decode cX7_init 5 = .ok (.bipush 30, 2) := by decide +kernel
theorem dX7_init_7 : decode cX7_init 7 = .ok (.newarray .int, 2) := by decide +kernel
theorem dX7_init_9 : decode cX7_init 9 = .ok (.putfield 9, 3) := by decide +kernel
theorem dX7_init_12 : decode cX7_init 12 = .ok (.aload_n 0, 1) := by decide +kernel
theorem dX7_init_13 : decode cX7_init 13 = .ok (.bipush 30, 2) := by decide +kernel
theorem dX7_init_15 : decode cX7_init 15 = .ok (.newarray .int, 2) := by decide +kernel
theorem dX7_init_17 : decode cX7_init 17 = .ok (.putfield 15, 3) := by decide +kernel
theorem dX7_init_20 : decode cX7_init 20 = .ok (.aload_n 0, 1) := by decide +kernel
theorem dX7_init_21 : decode cX7_init 21 = .ok (.bipush 6, 2) := by decide +kernel
theorem dX7_init_23 : decode cX7_init 23 = .ok (.newarray .int, 2) := by decide +kernel
theorem dX7_init_25 : decode cX7_init 25 = .ok (.putfield 18, 3) := by decide +kernel
theorem dX7_init_28 : decode cX7_init 28 = .ok (.aload_n 0, 1) := by decide +kernel
theorem dX7_init_29 : decode cX7_init 29 = .ok (.bipush 6, 2) := by decide +kernel
theorem dX7_init_31 : decode cX7_init 31 = .ok (.newarray .int, 2) := by decide +kernel
theorem dX7_init_33 : decode cX7_init 33 = .ok (.putfield 21, 3) := by decide +kernel
theorem dX7_init_36 : decode cX7_init 36 = .ok (.aload_n 0, 1) := by decide +kernel
theorem dX7_init_37 : decode cX7_init 37 = .ok (.iconst 5, 1) := by decide +kernel
theorem dX7_init_38 : decode cX7_init 38 = .ok (.newarray .int, 2) := by decide +kernel
theorem dX7_init_40 : decode cX7_init 40 = .ok (.putfield 24, 3) := by decide +kernel
theorem dX7_init_43 : decode cX7_init 43 = .ok (.aload_n 0, 1) := by decide +kernel
theorem dX7_init_44 : decode cX7_init 44 = .ok (.iconst 5, 1) := by decide +kernel
theorem dX7_init_45 : decode cX7_init 45 = .ok (.newarray .int, 2) := by decide +kernel
theorem dX7_init_47 : decode cX7_init 47 = .ok (.putfield 27, 3) := by decide +kernel
theorem dX7_init_50 : decode cX7_init 50 = .ok (.aload_n 0, 1) := by decide +kernel
theorem dX7_init_51 : decode cX7_init 51 = .ok (.iconst 4, 1) := by decide +kernel
theorem dX7_init_52 : decode cX7_init 52 = .ok (.newarray .int, 2) := by decide +kernel
theorem dX7_init_54 : decode cX7_init 54 = .ok (.putfield 30, 3) := by decide +kernel
theorem dX7_init_57 : decode cX7_init 57 = .ok (.aload_n 0, 1) := by decide +kernel
theorem dX7_init_58 : decode cX7_init 58 = .ok (.iconst 4, 1) := by decide +kernel
theorem dX7_init_59 : decode cX7_init 59 = .ok (.newarray .int, 2) := by decide +kernel
theorem dX7_init_61 : decode cX7_init 61 = .ok (.putfield 33, 3) := by decide +kernel
theorem dX7_init_64 : decode cX7_init 64 = .ok (.aload_n 0, 1) := by decide +kernel
theorem dX7_init_65 : decode cX7_init 65 = .ok (.invokevirtual 36, 3) := by decide +kernel
theorem dX7_init_68 : decode cX7_init 68 = .ok (.return_, 1) := by decide +kernel
abbrev mX7_init : MI := (yX7_init, cX7_init, 1, none)
theorem okX7_init : cok mX7_init 0 := ⟨tw45, tw3, by decide, by decide, by decide, by decide +kernel⟩
def fX7_init (M : Mem) (a0 : Int) : Option Mem :=
  if 0 ≤ a0 then bM (mnew M 12 30) fun M2 => if M2.2.1 a0 = 7 then if -1 ≤ (M.2.2.2 : Int) then bM (mst M2 a0 2 (M.2.2.2 : Int)) fun M6 => bM (mnew M6 12 30) fun M8 => if M8.2.1 a0 = 7 then if -1 ≤ (M6.2.2.2 : Int) then bM (mst M8 a0 3 (M6.2.2.2 : Int)) fun M12 => bM (mnew M12 12 6) fun M14 => if M14.2.1 a0 = 7 then if -1 ≤ (M12.2.2.2 : Int) then bM (mst M14 a0 4 (M12.2.2.2 : Int)) fun M18 => bM (mnew M18 12 6) fun M20 => if M20.2.1 a0 = 7 then if -1 ≤ (M18.2.2.2 : Int) then bM (mst M20 a0 5 (M18.2.2.2 : Int)) fun M24 => bM (mnew M24 12 5) fun M26 => if M26.2.1 a0 = 7 then if -1 ≤ (M24.2.2.2 : Int) then bM (mst M26 a0 6 (M24.2.2.2 : Int)) fun M30 => bM (mnew M30 12 5) fun M32 => if M32.2.1 a0 = 7 then if -1 ≤ (M30.2.2.2 : Int) then bM (mst M32 a0 7 (M30.2.2.2 : Int)) fun M36 => bM (mnew M36 12 4) fun M38 => if M38.2.1 a0 = 7 then if -1 ≤ (M36.2.2.2 : Int) then bM (mst M38 a0 8 (M36.2.2.2 : Int)) fun M42 => bM (mnew M42 12 4) fun M44 => if M44.2.1 a0 = 7 then if -1 ≤ (M42.2.2.2 : Int) then bM (mst M44 a0 9 (M42.2.2.2 : Int)) fun M48 => (fX7_clear M48 a0).bind fun r50 => some r50 else none else none else none else none else none else none else none else none else none else none else none else none else none else none else none else none else none
set_option maxRecDepth 100000 in
set_option maxHeartbeats 4000000 in
theorem kX7_init (d : Nat) (hd : 2 ≤ d) (M : Mem) (a0 : Int) : Ct mX7_init d 8 90 [pA a0] M dV (fX7_init M a0) := by
  obtain ⟨d, rfl⟩ : ∃ k, d = k + 1 := ⟨d - 1, by omega⟩
  refine Ct.of 0 (by decide +kernel) rfl ?_
  unfold fX7_init
  refine v_aload_n dX7_init_0 rfl ?_
  refine v_if (fun h1 => ?_)
  refine v_objInit (mi := mX7_init) h1 tw46 tw26 tw27 (Nat.le_of_ble_eq_true rfl) dX7_init_1 ?_
  refine v_aload_n dX7_init_4 rfl ?_
  refine v_bipush dX7_init_5 (by decide) ?_
  refine v_newarray (t := .int) (n := 30) 12 (by decide) (by decide) tw121 dX7_init_7 ?_
  refine v_bM (fun M2 e3 => ?_)
  refine v_if (fun h4 => ?_)
  refine v_if (fun h5 => ?_)
  refine v_put (x := (M.2.2.2 : Int)) 7 2 rfl inX7 (by decide) tw66 (Or.inr ⟨rfl, rfl, rfl⟩) rfl dX7_init_9 h4 rfl (fun _ => h5) ?_
  refine v_bM (fun M6 e7 => ?_)
  refine v_aload_n dX7_init_12 rfl ?_
  refine v_bipush dX7_init_13 (by decide) ?_
  refine v_newarray (t := .int) (n := 30) 12 (by decide) (by decide) tw121 dX7_init_15 ?_
  refine v_bM (fun M8 e9 => ?_)
  refine v_if (fun h10 => ?_)
  refine v_if (fun h11 => ?_)
  refine v_put (x := (M6.2.2.2 : Int)) 7 3 rfl inX7 (by decide) tw72 (Or.inr ⟨rfl, rfl, rfl⟩) rfl dX7_init_17 h10 rfl (fun _ => h11) ?_
  refine v_bM (fun M12 e13 => ?_)
  refine v_aload_n dX7_init_20 rfl ?_
  refine v_bipush dX7_init_21 (by decide) ?_
  refine v_newarray (t := .int) (n := 6) 12 (by decide) (by decide) tw121 dX7_init_23 ?_
  refine v_bM (fun M14 e15 => ?_)
  refine v_if (fun h16 => ?_)
  refine v_if (fun h17 => ?_)
  refine v_put (x := (M12.2.2.2 : Int)) 7 4 rfl inX7 (by decide) tw76 (Or.inr ⟨rfl, rfl, rfl⟩) rfl dX7_init_25 h16 rfl (fun _ => h17) ?_
  refine v_bM (fun M18 e19 => ?_)
  refine v_aload_n dX7_init_28 rfl ?_
  refine v_bipush dX7_init_29 (by decide) ?_
  refine v_newarray (t := .int) (n := 6) 12 (by decide) (by decide) tw121 dX7_init_31 ?_
  refine v_bM (fun M20 e21 => ?_)
  refine v_if (fun h22 => ?_)
  refine v_if (fun h23 => ?_)
  refine v_put (x := (M18.2.2.2 : Int)) 7 5 rfl inX7 (by decide) tw81 (Or.inr ⟨rfl, rfl, rfl⟩) rfl dX7_init_33 h22 rfl (fun _ => h23) ?_
  refine v_bM (fun M24 e25 => ?_)
  refine v_aload_n dX7_init_36 rfl ?_
  refine v_iconst dX7_init_37 (by decide) ?_
  refine v_newarray (t := .int) (n := 5) 12 (by decide) (by decide) tw121 dX7_init_38 ?_
  refine v_bM (fun M26 e27 => ?_)
  refine v_if (fun h28 => ?_)
  refine v_if (fun h29 => ?_)
  refine v_put (x := (M24.2.2.2 : Int)) 7 6 rfl inX7 (by decide) tw84 (Or.inr ⟨rfl, rfl, rfl⟩) rfl dX7_init_40 h28 rfl (fun _ => h29) ?_
  refine v_bM (fun M30 e31 => ?_)
  refine v_aload_n dX7_init_43 rfl ?_
  refine v_iconst dX7_init_44 (by decide) ?_
  refine v_newarray (t := .int) (n := 5) 12 (by decide) (by decide) tw121 dX7_init_45 ?_
  refine v_bM (fun M32 e33 => ?_)
  refine v_if (fun h34 => ?_)
  refine v_if (fun h35 => ?_)
  refine v_put (x := (M30.2.2.2 : Int)) 7 7 rfl inX7 (by decide) tw89 (Or.inr ⟨rfl, rfl, rfl⟩) rfl dX7_init_47 h34 rfl (fun _ => h35) ?_
  refine v_bM (fun M36 e37 => ?_)
  refine v_aload_n dX7_init_50 rfl ?_
  refine v_iconst dX7_init_51 (by decide) ?_
  refine v_newarray (t := .int) (n := 4) 12 (by decide) (by decide) tw121 dX7_init_52 ?_
  refine v_bM (fun M38 e39 => ?_)
  refine v_if (fun h40 => ?_)
  refine v_if (fun h41 => ?_)
  refine v_put (x := (M36.2.2.2 : Int)) 7 8 rfl inX7 (by decide) tw93 (Or.inr ⟨rfl, rfl, rfl⟩) rfl dX7_init_54 h40 rfl (fun _ => h41) ?_
  refine v_bM (fun M42 e43 => ?_)
  refine v_aload_n dX7_init_57 rfl ?_
  refine v_iconst dX7_init_58 (by decide) ?_
  refine v_newarray (t := .int) (n := 4) 12 (by decide) (by decide) tw121 dX7_init_59 ?_
  refine v_bM (fun M44 e45 => ?_)
  refine v_if (fun h46 => ?_)
  refine v_if (fun h47 => ?_)
  refine v_put (x := (M42.2.2.2 : Int)) 7 9 rfl inX7 (by decide) tw96 (Or.inr ⟨rfl, rfl, rfl⟩) rfl dX7_init_61 h46 rfl (fun _ => h47) ?_
  refine v_bM (fun M48 e49 => ?_)
  refine v_aload_n dX7_init_64 rfl ?_
  refine v_cV (mi := mX7_init) (As := []) (st := []) (kX7_clear d (by omega) _ _) rfl (by rw [e49]; exact h46) rfl okX7_clear (Or.inl tw47) tw48 tw49 rfl (Nat.le_of_ble_eq_true rfl) dX7_init_65 (fun r50 => []) (fun r50 => r50) (fun _ => rfl) (fun _ => rfl) (fun r50 h51 => ?_) rfl
  exact v_return dX7_init_68 rfl rfl
theorem dX7_copy_0 : decode cX7_copy 0 = .ok (.aload_n 0, 1) := by decide +kernel
theorem dX7_copy_1 : decode cX7_copy 1 = .ok (.aload_n 1, 1) := by decide +kernel
theorem dX7_copy_2 : decode cX7_copy 2 = .ok (.getfield 39, 3) := by decide +kernel
theorem dX7_copy_5 : decode cX7_copy 5 = .ok (.putfield 39, 3) := by decide +kernel
theorem dX7_copy_8 : decode cX7_copy 8 = .ok (.aload_n 0, 1) := by decide +kernel
theorem dX7_copy_9 : decode cX7_copy 9 = .ok (.aload_n 1, 1) := by decide +kernel
theorem dX7_copy_10 : decode cX7_copy 10 = .ok (.getfield 43, 3) := by decide +kernel
theorem dX7_copy_13 : decode cX7_copy 13 = .ok (.putfield 43, 3) := by decide +kernel
theorem dX7_copy_16 : decode cX7_copy 16 = .ok (.aload_n 1, 1) := by decide +kernel
theorem dX7_copy_17 : decode cX7_copy 17 = .ok (.getfield 9, 3) := by decide +kernel
theorem dX7_copy_20 : decode cX7_copy 20 = .ok (.aload_n 0, 1) := by decide +kernel
theorem dX7_copy_21 : decode cX7_copy 21 = .ok (.getfield 9, 3) := by decide +kernel
theorem dX7_copy_24 : decode cX7_copy 24 = .ok (.invokestatic 50, 3) := by decide +kernel
theorem dX7_copy_27 : decode cX7_copy 27 = .ok (.aload_n 1, 1) := by decide +kernel
theorem dX7_copy_28 : decode cX7_copy 28 = .ok (.getfield 15, 3) := by decide +kernel
theorem dX7_copy_31 : decode cX7_copy 31 = .ok (.aload_n 0, 1) := by decide +kernel
theorem dX7_copy_32 : decode cX7_copy 32 = .ok (.getfield 15, 3) := by decide +kernel
theorem dX7_copy_35 : decode cX7_copy 35 = .ok (.invokestatic 50, 3) := by decide +kernel
theorem dX7_copy_38 : decode cX7_copy 38 = .ok (.aload_n 1, 1) := by decide +kernel
theorem dX7_copy_39 : decode cX7_copy 39 = .ok (.getfield 18, 3) := by decide +kernel
theorem dX7_copy_42 : decode cX7_copy 42 = .ok (.aload_n 0, 1) := by decide +kernel
theorem dX7_copy_43 : decode cX7_copy 43 = .ok (.getfield 18, 3) := by decide +kernel
theorem dX7_copy_46 : decode cX7_copy 46 = .ok (.invokestatic 50, 3) := by decide +kernel
theorem dX7_copy_49 : decode cX7_copy 49 = .ok (.aload_n 1, 1) := by decide +kernel
theorem dX7_copy_50 : decode cX7_copy 50 = .ok (.getfield 21, 3) := by decide +kernel
theorem dX7_copy_53 : decode cX7_copy 53 = .ok (.aload_n 0, 1) := by decide +kernel
theorem dX7_copy_54 : decode cX7_copy 54 = .ok (.getfield 21, 3) := by decide +kernel
theorem dX7_copy_57 : decode cX7_copy 57 = .ok (.invokestatic 50, 3) := by decide +kernel
theorem dX7_copy_60 : decode cX7_copy 60 = .ok (.aload_n 1, 1) := by decide +kernel
theorem dX7_copy_61 : decode cX7_copy 61 = .ok (.getfield 24, 3) := by decide +kernel
theorem dX7_copy_64 : decode cX7_copy 64 = .ok (.aload_n 0, 1) := by decide +kernel
theorem dX7_copy_65 : decode cX7_copy 65 = .ok (.getfield 24, 3) := by decide +kernel
theorem dX7_copy_68 : decode cX7_copy 68 = .ok (.invokestatic 50, 3) := by decide +kernel
theorem dX7_copy_71 : decode cX7_copy 71 = .ok (.aload_n 1, 1) := by decide +kernel
theorem dX7_copy_72 : decode cX7_copy 72 = .ok (.getfield 27, 3) := by decide +kernel
theorem dX7_copy_75 : decode cX7_copy 75 = .ok (.aload_n 0, 1) := by decide +kernel
theorem dX7_copy_76 : decode cX7_copy 76 = .ok (.getfield 27, 3) := by decide +kernel
theorem dX7_copy_79 : decode cX7_copy 79 = .ok (.invokestatic 50, 3) := by decide +kernel
theorem dX7_copy_82 : decode cX7_copy 82 = .ok (.aload_n 1, 1) := by decide +kernel
theorem dX7_copy_83 : decode cX7_copy 83 = .ok (.getfield 30, 3) := by decide +kernel
theorem dX7_copy_86 : decode cX7_copy 86 = .ok (.aload_n 0, 1) := by decide +kernel
theorem dX7_copy_87 : decode cX7_copy 87 = .ok (.getfield 30, 3) := by decide +kernel
theorem dX7_copy_90 : decode cX7_copy 90 = .ok (.invokestatic 50, 3) := by decide +kernel
theorem dX7_copy_93 : decode cX7_copy 93 = .ok (.aload_n 1, 1) := by decide +kernel
theorem dX7_copy_94 : decode cX7_copy 94 = .ok (.getfield 33, 3) := by decide +kernel
theorem dX7_copy_97 : decode cX7_copy 97 = .ok (.aload_n 0, 1) := by decide +kernel
theorem dX7_copy_98 : decode cX7_copy 98 = .ok (.getfield 33, 3) := by decide +kernel
theorem dX7_copy_101 : decode cX7_copy 101 = .ok (.invokestatic 50, 3) := by decide +kernel
theorem dX7_copy_104 : decode cX7_copy 104 = .ok (.return_, 1) := by decide +kernel
abbrev mX7_copy : MI := (yX7_copy, cX7_copy, 2, none)
theorem okX7_copy : cok mX7_copy 1 := ⟨tw649, tw3, by decide, by decide, by decide, by decide +kernel⟩
def fX7_copy (M : Mem) (a0 a1 : Int) : Option Mem :=
  if M.2.1 a1 = 7 then if M.2.1 a0 = 7 then bM (mst M a0 0 (M.1 a1 0)) fun M3 => bM (mst M3 a0 1 (M3.1 a1 1)) fun M5 => (fX10_copyRow M5 (M5.1 a1 2) (M5.1 a0 2)).bind fun r7 => if r7.2.1 a1 = 7 then if r7.2.1 a0 = 7 then (fX10_copyRow r7 (r7.1 a1 3) (r7.1 a0 3)).bind fun r11 => if r11.2.1 a1 = 7 then if r11.2.1 a0 = 7 then (fX10_copyRow r11 (r11.1 a1 4) (r11.1 a0 4)).bind fun r15 => if r15.2.1 a1 = 7 then if r15.2.1 a0 = 7 then (fX10_copyRow r15 (r15.1 a1 5) (r15.1 a0 5)).bind fun r19 => if r19.2.1 a1 = 7 then if r19.2.1 a0 = 7 then (fX10_copyRow r19 (r19.1 a1 6) (r19.1 a0 6)).bind fun r23 => if r23.2.1 a1 = 7 then if r23.2.1 a0 = 7 then (fX10_copyRow r23 (r23.1 a1 7) (r23.1 a0 7)).bind fun r27 => if r27.2.1 a1 = 7 then if r27.2.1 a0 = 7 then (fX10_copyRow r27 (r27.1 a1 8) (r27.1 a0 8)).bind fun r31 => if r31.2.1 a1 = 7 then if r31.2.1 a0 = 7 then (fX10_copyRow r31 (r31.1 a1 9) (r31.1 a0 9)).bind fun r35 => some r35 else none else none else none else none else none else none else none else none else none else none else none else none else none else none else none else none
set_option maxRecDepth 100000 in
set_option maxHeartbeats 4000000 in
theorem kX7_copy (d : Nat) (hd : 2 ≤ d) (M : Mem) (a0 a1 : Int) : Ct mX7_copy d 0 0 [pA a0, pA a1] M dV (fX7_copy M a0 a1) := by
  obtain ⟨d, rfl⟩ : ∃ k, d = k + 1 := ⟨d - 1, by omega⟩
  refine Ct.of 0 (by decide +kernel) rfl ?_
  unfold fX7_copy
  refine v_aload_n dX7_copy_0 rfl ?_
  refine v_aload_n dX7_copy_1 rfl ?_
  refine v_if (fun h1 => ?_)
  refine v_get (v := pI (M.1 a1 0)) 7 0 rfl inX7 (by decide) tw54 dX7_copy_2 h1 rfl ?_
  refine v_if (fun h2 => ?_)
  refine v_put (x := M.1 a1 0) 7 0 rfl inX7 (by decide) tw54 (Or.inl rfl) rfl dX7_copy_5 h2 rfl id ?_
  refine v_bM (fun M3 e4 => ?_)
  refine v_aload_n dX7_copy_8 rfl ?_
  refine v_aload_n dX7_copy_9 rfl ?_
  refine v_get (v := pI (M3.1 a1 1)) 7 1 rfl inX7 (by decide) tw61 dX7_copy_10 (by rw [e4]; exact h1) rfl ?_
  refine v_put (x := M3.1 a1 1) 7 1 rfl inX7 (by decide) tw61 (Or.inl rfl) rfl dX7_copy_13 (by rw [e4]; exact h2) rfl id ?_
  refine v_bM (fun M5 e6 => ?_)
  refine v_aload_n dX7_copy_16 rfl ?_
  refine v_get (v := pA (M5.1 a1 2)) 7 2 rfl inX7 (by decide) tw66 dX7_copy_17 (by rw [e6, e4]; exact h1) rfl ?_
  refine v_aload_n dX7_copy_20 rfl ?_
  refine v_get (v := pA (M5.1 a0 2)) 7 2 rfl inX7 (by decide) tw66 dX7_copy_21 (by rw [e6, e4]; exact h2) rfl ?_
  refine v_cS (mi := mX7_copy) (As := [pA (M5.1 a1 2), pA (M5.1 a0 2)]) (st := []) (kX10_copyRow d (by omega) _ _ _) okX10_copyRow (Or.inr nw9) tw651 rfl (Nat.le_of_ble_eq_true rfl) dX7_copy_24 (fun r7 => []) (fun r7 => r7) (fun _ => rfl) (fun _ => rfl) (fun r7 h8 => ?_) rfl
  refine v_aload_n dX7_copy_27 rfl ?_
  refine v_if (fun h9 => ?_)
  refine v_get (v := pA (r7.1 a1 3)) 7 3 rfl inX7 (by decide) tw72 dX7_copy_28 h9 rfl ?_
  refine v_aload_n dX7_copy_31 rfl ?_
  refine v_if (fun h10 => ?_)
  refine v_get (v := pA (r7.1 a0 3)) 7 3 rfl inX7 (by decide) tw72 dX7_copy_32 h10 rfl ?_
  refine v_cS (mi := mX7_copy) (As := [pA (r7.1 a1 3), pA (r7.1 a0 3)]) (st := []) (kX10_copyRow d (by omega) _ _ _) okX10_copyRow (Or.inr nw9) tw651 rfl (Nat.le_of_ble_eq_true rfl) dX7_copy_35 (fun r11 => []) (fun r11 => r11) (fun _ => rfl) (fun _ => rfl) (fun r11 h12 => ?_) rfl
  refine v_aload_n dX7_copy_38 rfl ?_
  refine v_if (fun h13 => ?_)
  refine v_get (v := pA (r11.1 a1 4)) 7 4 rfl inX7 (by decide) tw76 dX7_copy_39 h13 rfl ?_
  refine v_aload_n dX7_copy_42 rfl ?_
  refine v_if (fun h14 => ?_)
  refine v_get (v := pA (r11.1 a0 4)) 7 4 rfl inX7 (by decide) tw76 dX7_copy_43 h14 rfl ?_
  refine v_cS (mi := mX7_copy) (As := [pA (r11.1 a1 4), pA (r11.1 a0 4)]) (st := []) (kX10_copyRow d (by omega) _ _ _) okX10_copyRow (Or.inr nw9) tw651 rfl (Nat.le_of_ble_eq_true rfl) dX7_copy_46 (fun r15 => []) (fun r15 => r15) (fun _ => rfl) (fun _ => rfl) (fun r15 h16 => ?_) rfl
  refine v_aload_n dX7_copy_49 rfl ?_
  refine v_if (fun h17 => ?_)
  refine v_get (v := pA (r15.1 a1 5)) 7 5 rfl inX7 (by decide) tw81 dX7_copy_50 h17 rfl ?_
  refine v_aload_n dX7_copy_53 rfl ?_
  refine v_if (fun h18 => ?_)
  refine v_get (v := pA (r15.1 a0 5)) 7 5 rfl inX7 (by decide) tw81 dX7_copy_54 h18 rfl ?_
  refine v_cS (mi := mX7_copy) (As := [pA (r15.1 a1 5), pA (r15.1 a0 5)]) (st := []) (kX10_copyRow d (by omega) _ _ _) okX10_copyRow (Or.inr nw9) tw651 rfl (Nat.le_of_ble_eq_true rfl) dX7_copy_57 (fun r19 => []) (fun r19 => r19) (fun _ => rfl) (fun _ => rfl) (fun r19 h20 => ?_) rfl
  refine v_aload_n dX7_copy_60 rfl ?_
  refine v_if (fun h21 => ?_)
  refine v_get (v := pA (r19.1 a1 6)) 7 6 rfl inX7 (by decide) tw84 dX7_copy_61 h21 rfl ?_
  refine v_aload_n dX7_copy_64 rfl ?_
  refine v_if (fun h22 => ?_)
  refine v_get (v := pA (r19.1 a0 6)) 7 6 rfl inX7 (by decide) tw84 dX7_copy_65 h22 rfl ?_
  refine v_cS (mi := mX7_copy) (As := [pA (r19.1 a1 6), pA (r19.1 a0 6)]) (st := []) (kX10_copyRow d (by omega) _ _ _) okX10_copyRow (Or.inr nw9) tw651 rfl (Nat.le_of_ble_eq_true rfl) dX7_copy_68 (fun r23 => []) (fun r23 => r23) (fun _ => rfl) (fun _ => rfl) (fun r23 h24 => ?_) rfl
  refine v_aload_n dX7_copy_71 rfl ?_
  refine v_if (fun h25 => ?_)
  refine v_get (v := pA (r23.1 a1 7)) 7 7 rfl inX7 (by decide) tw89 dX7_copy_72 h25 rfl ?_
  refine v_aload_n dX7_copy_75 rfl ?_
  refine v_if (fun h26 => ?_)
  refine v_get (v := pA (r23.1 a0 7)) 7 7 rfl inX7 (by decide) tw89 dX7_copy_76 h26 rfl ?_
  refine v_cS (mi := mX7_copy) (As := [pA (r23.1 a1 7), pA (r23.1 a0 7)]) (st := []) (kX10_copyRow d (by omega) _ _ _) okX10_copyRow (Or.inr nw9) tw651 rfl (Nat.le_of_ble_eq_true rfl) dX7_copy_79 (fun r27 => []) (fun r27 => r27) (fun _ => rfl) (fun _ => rfl) (fun r27 h28 => ?_) rfl
  refine v_aload_n dX7_copy_82 rfl ?_
  refine v_if (fun h29 => ?_)
  refine v_get (v := pA (r27.1 a1 8)) 7 8 rfl inX7 (by decide) tw93 dX7_copy_83 h29 rfl ?_
  refine v_aload_n dX7_copy_86 rfl ?_
  refine v_if (fun h30 => ?_)
  refine v_get (v := pA (r27.1 a0 8)) 7 8 rfl inX7 (by decide) tw93 dX7_copy_87 h30 rfl ?_
  refine v_cS (mi := mX7_copy) (As := [pA (r27.1 a1 8), pA (r27.1 a0 8)]) (st := []) (kX10_copyRow d (by omega) _ _ _) okX10_copyRow (Or.inr nw9) tw651 rfl (Nat.le_of_ble_eq_true rfl) dX7_copy_90 (fun r31 => []) (fun r31 => r31) (fun _ => rfl) (fun _ => rfl) (fun r31 h32 => ?_) rfl
  refine v_aload_n dX7_copy_93 rfl ?_
  refine v_if (fun h33 => ?_)
  refine v_get (v := pA (r31.1 a1 9)) 7 9 rfl inX7 (by decide) tw96 dX7_copy_94 h33 rfl ?_
  refine v_aload_n dX7_copy_97 rfl ?_
  refine v_if (fun h34 => ?_)
  refine v_get (v := pA (r31.1 a0 9)) 7 9 rfl inX7 (by decide) tw96 dX7_copy_98 h34 rfl ?_
  refine v_cS (mi := mX7_copy) (As := [pA (r31.1 a1 9), pA (r31.1 a0 9)]) (st := []) (kX10_copyRow d (by omega) _ _ _) okX10_copyRow (Or.inr nw9) tw651 rfl (Nat.le_of_ble_eq_true rfl) dX7_copy_101 (fun r35 => []) (fun r35 => r35) (fun _ => rfl) (fun _ => rfl) (fun r35 h36 => ?_) rfl
  exact v_return dX7_copy_104 rfl rfl
theorem dX7_isHouse_0 : decode cX7_isHouse 0 = .ok (.iload_n 1, 1) := by decide +kernel
theorem dX7_isHouse_1 : decode cX7_isHouse 1 = .ok (.ifCond .lt 21, 3) := by decide +kernel
theorem dX7_isHouse_4 : decode cX7_isHouse 4 = .ok (.iload_n 1, 1) := by decide +kernel
theorem dX7_isHouse_5 : decode cX7_isHouse 5 = .ok (.aload_n 0, 1) := by decide +kernel
theorem dX7_isHouse_6 : decode cX7_isHouse 6 = .ok (.getfield 39, 3) := by decide +kernel
theorem dX7_isHouse_9 : decode cX7_isHouse 9 = .ok (.if_icmp .ge 13, 3) := by decide +kernel
theorem dX7_isHouse_12 : decode cX7_isHouse 12 = .ok (.iload_n 1, 1) := by decide +kernel
theorem dX7_isHouse_13 : decode cX7_isHouse 13 = .ok (.bipush 6, 2) := by decide +kernel
theorem dX7_isHouse_15 : decode cX7_isHouse 15 = .ok (.if_icmp .ge 7, 3) := by decide +kernel
theorem dX7_isHouse_18 : decode cX7_isHouse 18 = .ok (.iconst 1, 1) := by decide +kernel
theorem dX7_isHouse_19 : decode cX7_isHouse 19 = .ok (.goto 4, 3) := by decide +kernel
theorem dX7_isHouse_22 : decode cX7_isHouse 22 = .ok (.iconst 0, 1) := by decide +kernel
theorem dX7_isHouse_23 : decode cX7_isHouse 23 = .ok (.ireturn, 1) := by decide +kernel
abbrev mX7_isHouse : MI := (yX7_isHouse, cX7_isHouse, 2, (some .boolean))
theorem okX7_isHouse : cok mX7_isHouse 1 := ⟨tw687, tw3, by decide, by decide, by decide, by decide +kernel⟩
def fX7_isHouse (M : Mem) (a0 a1 : Int) : Option Int :=
  if a1 < 0 then (some 0) else (if M.2.1 a0 = 7 then if a1 < M.1 a0 0 then (if a1 < 6 then (some 1) else (some 0)) else (some 0) else none)
set_option maxRecDepth 100000 in
set_option maxHeartbeats 4000000 in
theorem kX7_isHouse (d : Nat) (hd : 0 ≤ d) (M : Mem) (a0 a1 : Int) : Ct mX7_isHouse d 0 0 [pA a0, pI a1] M (dI M) (fX7_isHouse M a0 a1) := by
  refine Ct.of 0 (by decide +kernel) rfl ?_
  unfold fX7_isHouse
  refine v_iload_n dX7_isHouse_0 rfl ?_
  refine v_if_lt (tgt := 22) dX7_isHouse_1 (by decide) (fun c1 => ?_) (fun c1 => ?_)
  · refine v_iconst dX7_isHouse_22 (by decide) ?_
    exact v_breturn dX7_isHouse_23 rfl (by decide) rfl
  · refine v_iload_n dX7_isHouse_4 rfl ?_
    refine v_aload_n dX7_isHouse_5 rfl ?_
    refine v_if (fun h2 => ?_)
    refine v_get (v := pI (M.1 a0 0)) 7 0 rfl inX7 (by decide) tw54 dX7_isHouse_6 h2 rfl ?_
    refine v_icmp_ge (tgt := 22) dX7_isHouse_9 (by decide) (fun c3 => ?_) (fun c3 => ?_)
    · refine v_iload_n dX7_isHouse_12 rfl ?_
      refine v_bipush dX7_isHouse_13 (by decide) ?_
      refine v_icmp_ge (tgt := 22) dX7_isHouse_15 (by decide) (fun c4 => ?_) (fun c4 => ?_)
      · refine v_iconst dX7_isHouse_18 (by decide) ?_
        refine v_goto (tgt := 23) dX7_isHouse_19 (by decide) ?_
        exact v_breturn dX7_isHouse_23 rfl (by decide) rfl
      · refine v_iconst dX7_isHouse_22 (by decide) ?_
        exact v_breturn dX7_isHouse_23 rfl (by decide) rfl
    · refine v_iconst dX7_isHouse_22 (by decide) ?_
      exact v_breturn dX7_isHouse_23 rfl (by decide) rfl
theorem dX7_isThief_0 : decode cX7_isThief 0 = .ok (.iload_n 1, 1) := by decide +kernel
theorem dX7_isThief_1 : decode cX7_isThief 1 = .ok (.ifCond .lt 20, 3) := by decide +kernel
theorem dX7_isThief_4 : decode cX7_isThief 4 = .ok (.iload_n 1, 1) := by decide +kernel
theorem dX7_isThief_5 : decode cX7_isThief 5 = .ok (.aload_n 0, 1) := by decide +kernel
theorem dX7_isThief_6 : decode cX7_isThief 6 = .ok (.getfield 43, 3) := by decide +kernel
theorem dX7_isThief_9 : decode cX7_isThief 9 = .ok (.if_icmp .ge 12, 3) := by decide +kernel
theorem dX7_isThief_12 : decode cX7_isThief 12 = .ok (.iload_n 1, 1) := by decide +kernel
theorem dX7_isThief_13 : decode cX7_isThief 13 = .ok (.iconst 4, 1) := by decide +kernel
theorem dX7_isThief_14 : decode cX7_isThief 14 = .ok (.if_icmp .ge 7, 3) := by decide +kernel
theorem dX7_isThief_17 : decode cX7_isThief 17 = .ok (.iconst 1, 1) := by decide +kernel
theorem dX7_isThief_18 : decode cX7_isThief 18 = .ok (.goto 4, 3) := by decide +kernel
theorem dX7_isThief_21 : decode cX7_isThief 21 = .ok (.iconst 0, 1) := by decide +kernel
theorem dX7_isThief_22 : decode cX7_isThief 22 = .ok (.ireturn, 1) := by decide +kernel
abbrev mX7_isThief : MI := (yX7_isThief, cX7_isThief, 2, (some .boolean))
theorem okX7_isThief : cok mX7_isThief 1 := ⟨tw694, tw3, by decide, by decide, by decide, by decide +kernel⟩
def fX7_isThief (M : Mem) (a0 a1 : Int) : Option Int :=
  if a1 < 0 then (some 0) else (if M.2.1 a0 = 7 then if a1 < M.1 a0 1 then (if a1 < 4 then (some 1) else (some 0)) else (some 0) else none)
set_option maxRecDepth 100000 in
set_option maxHeartbeats 4000000 in
theorem kX7_isThief (d : Nat) (hd : 0 ≤ d) (M : Mem) (a0 a1 : Int) : Ct mX7_isThief d 0 0 [pA a0, pI a1] M (dI M) (fX7_isThief M a0 a1) := by
  refine Ct.of 0 (by decide +kernel) rfl ?_
  unfold fX7_isThief
  refine v_iload_n dX7_isThief_0 rfl ?_
  refine v_if_lt (tgt := 21) dX7_isThief_1 (by decide) (fun c1 => ?_) (fun c1 => ?_)
  · refine v_iconst dX7_isThief_21 (by decide) ?_
    exact v_breturn dX7_isThief_22 rfl (by decide) rfl
  · refine v_iload_n dX7_isThief_4 rfl ?_
    refine v_aload_n dX7_isThief_5 rfl ?_
    refine v_if (fun h2 => ?_)
    refine v_get (v := pI (M.1 a0 1)) 7 1 rfl inX7 (by decide) tw61 dX7_isThief_6 h2 rfl ?_
    refine v_icmp_ge (tgt := 21) dX7_isThief_9 (by decide) (fun c3 => ?_) (fun c3 => ?_)
    · refine v_iload_n dX7_isThief_12 rfl ?_
      refine v_iconst dX7_isThief_13 (by decide) ?_
      refine v_icmp_ge (tgt := 21) dX7_isThief_14 (by decide) (fun c4 => ?_) (fun c4 => ?_)
      · refine v_iconst dX7_isThief_17 (by decide) ?_
        refine v_goto (tgt := 22) dX7_isThief_18 (by decide) ?_
        exact v_breturn dX7_isThief_22 rfl (by decide) rfl
      · refine v_iconst dX7_isThief_21 (by decide) ?_
        exact v_breturn dX7_isThief_22 rfl (by decide) rfl
    · refine v_iconst dX7_isThief_21 (by decide) ?_
      exact v_breturn dX7_isThief_22 rfl (by decide) rfl
theorem dX7_addThief_0 : decode cX7_addThief 0 = .ok (.aload_n 0, 1) := by decide +kernel
theorem dX7_addThief_1 : decode cX7_addThief 1 = .ok (.getfield 43, 3) := by decide +kernel
theorem dX7_addThief_4 : decode cX7_addThief 4 = .ok (.iconst 4, 1) := by decide +kernel
theorem dX7_addThief_5 : decode cX7_addThief 5 = .ok (.if_icmp .ge 23, 3) := by decide +kernel
theorem dX7_addThief_8 : decode cX7_addThief 8 = .ok (.aload_n 0, 1) := by decide +kernel
theorem dX7_addThief_9 : decode cX7_addThief 9 = .ok (.getfield 30, 3) := by decide +kernel
theorem dX7_addThief_12 : decode cX7_addThief 12 = .ok (.aload_n 0, 1) := by decide +kernel
theorem dX7_addThief_13 : decode cX7_addThief 13 = .ok (.getfield 43, 3) := by decide +kernel
theorem dX7_addThief_16 : decode cX7_addThief 16 = .ok (.iload_n 1, 1) := by decide +kernel
theorem dX7_addThief_17 : decode cX7_addThief 17 = .ok (.iastore, 1) := by decide +kernel
theorem dX7_addThief_18 : decode cX7_addThief 18 = .ok (.aload_n 0, 1) := by decide +kernel
theorem dX7_addThief_19 : decode cX7_addThief 19 = .ok (.dup, 1) := by decide +kernel
theorem dX7_addThief_20 : decode cX7_addThief 20 = .ok (.getfield 43, 3) := by decide +kernel
theorem dX7_addThief_23 : decode cX7_addThief 23 = .ok (.iconst 1, 1) := by decide +kernel
theorem dX7_addThief_24 : decode cX7_addThief 24 = .ok (.iadd, 1) := by decide +kernel
theorem dX7_addThief_25 : decode cX7_addThief 25 = .ok (.putfield 43, 3) := by decide +kernel
theorem dX7_addThief_28 : decode cX7_addThief 28 = .ok (.return_, 1) := by decide +kernel
abbrev mX7_addThief : MI := (yX7_addThief, cX7_addThief, 2, none)
theorem okX7_addThief : cok mX7_addThief 1 := ⟨tw629, tw3, by decide, by decide, by decide, by decide +kernel⟩
def fX7_addThief (M : Mem) (a0 a1 : Int) : Option Mem :=
  if M.2.1 a0 = 7 then if M.1 a0 1 < 4 then (if M.2.1 (M.1 a0 8) = 12 ∧ 0 ≤ (M.1 a0 1) ∧ (M.1 a0 1) < M.2.2.1 (M.1 a0 8) then bM (mst M (M.1 a0 8) (M.1 a0 1) a1) fun M4 => bM (mst M4 a0 1 (w32 ((M4.1 a0 1) + 1))) fun M6 => some M6 else none) else (some M) else none
set_option maxRecDepth 100000 in
set_option maxHeartbeats 4000000 in
theorem kX7_addThief (d : Nat) (hd : 0 ≤ d) (M : Mem) (a0 a1 : Int) : Ct mX7_addThief d 0 0 [pA a0, pI a1] M dV (fX7_addThief M a0 a1) := by
  refine Ct.of 0 (by decide +kernel) rfl ?_
  unfold fX7_addThief
  refine v_aload_n dX7_addThief_0 rfl ?_
  refine v_if (fun h1 => ?_)
  refine v_get (v := pI (M.1 a0 1)) 7 1 rfl inX7 (by decide) tw61 dX7_addThief_1 h1 rfl ?_
  refine v_iconst dX7_addThief_4 (by decide) ?_
  refine v_icmp_ge (tgt := 28) dX7_addThief_5 (by decide) (fun c2 => ?_) (fun c2 => ?_)
  · refine v_aload_n dX7_addThief_8 rfl ?_
    refine v_get (v := pA (M.1 a0 8)) 7 8 rfl inX7 (by decide) tw93 dX7_addThief_9 h1 rfl ?_
    refine v_aload_n dX7_addThief_12 rfl ?_
    refine v_get (v := pI (M.1 a0 1)) 7 1 rfl inX7 (by decide) tw61 dX7_addThief_13 h1 rfl ?_
    refine v_iload_n dX7_addThief_16 rfl ?_
    refine v_if (fun h3 => ?_)
    refine v_iastore h3 dX7_addThief_17 ?_
    refine v_bM (fun M4 e5 => ?_)
    refine v_aload_n dX7_addThief_18 rfl ?_
    refine v_dup dX7_addThief_19 (by intro z hz; cases hz) ?_
    refine v_get (v := pI (M4.1 a0 1)) 7 1 rfl inX7 (by decide) tw61 dX7_addThief_20 (by rw [e5]; exact h1) rfl ?_
    refine v_iconst dX7_addThief_23 (by decide) ?_
    refine v_iadd dX7_addThief_24 ?_
    refine v_put (x := w32 ((M4.1 a0 1) + 1)) 7 1 rfl inX7 (by decide) tw61 (Or.inl rfl) rfl dX7_addThief_25 (by rw [e5]; exact h1) rfl id ?_
    refine v_bM (fun M6 e7 => ?_)
    exact v_return dX7_addThief_28 rfl rfl
  · exact v_return dX7_addThief_28 rfl rfl
theorem dX7_areKin_0 : decode cX7_areKin 0 = .ok (.aload_n 0, 1) := by decide +kernel
theorem dX7_areKin_1 : decode cX7_areKin 1 = .ok (.getfield 33, 3) := by decide +kernel
theorem dX7_areKin_4 : decode cX7_areKin 4 = .ok (.iload_n 1, 1) := by decide +kernel
theorem dX7_areKin_5 : decode cX7_areKin 5 = .ok (.iaload, 1) := by decide +kernel
theorem dX7_areKin_6 : decode cX7_areKin 6 = .ok (.iload_n 2, 1) := by decide +kernel
theorem dX7_areKin_7 : decode cX7_areKin 7 = .ok (.if_icmp .eq 13, 3) := by decide +kernel
theorem dX7_areKin_10 : decode cX7_areKin 10 = .ok (.aload_n 0, 1) := by decide +kernel
theorem dX7_areKin_11 : decode cX7_areKin 11 = .ok (.getfield 33, 3) := by decide +kernel
theorem dX7_areKin_14 : decode cX7_areKin 14 = .ok (.iload_n 2, 1) := by decide +kernel
theorem dX7_areKin_15 : decode cX7_areKin 15 = .ok (.iaload, 1) := by decide +kernel
theorem dX7_areKin_16 : decode cX7_areKin 16 = .ok (.iload_n 1, 1) := by decide +kernel
theorem dX7_areKin_17 : decode cX7_areKin 17 = .ok (.if_icmp .ne 7, 3) := by decide +kernel
theorem dX7_areKin_20 : decode cX7_areKin 20 = .ok (.iconst 1, 1) := by decide +kernel
theorem dX7_areKin_21 : decode cX7_areKin 21 = .ok (.goto 4, 3) := by decide +kernel
theorem dX7_areKin_24 : decode cX7_areKin 24 = .ok (.iconst 0, 1) := by decide +kernel
theorem dX7_areKin_25 : decode cX7_areKin 25 = .ok (.ireturn, 1) := by decide +kernel
abbrev mX7_areKin : MI := (yX7_areKin, cX7_areKin, 3, (some .boolean))
theorem okX7_areKin : cok mX7_areKin 2 := ⟨tw784, tw3, by decide, by decide, by decide, by decide +kernel⟩
def fX7_areKin (M : Mem) (a0 a1 a2 : Int) : Option Int :=
  if M.2.1 a0 = 7 then if M.2.1 (M.1 a0 9) = 12 ∧ 0 ≤ a1 ∧ a1 < M.2.2.1 (M.1 a0 9) then if M.1 (M.1 a0 9) a1 = a2 then (some 1) else (if M.2.1 (M.1 a0 9) = 12 ∧ 0 ≤ a2 ∧ a2 < M.2.2.1 (M.1 a0 9) then if M.1 (M.1 a0 9) a2 = a1 then (some 1) else (some 0) else none) else none else none
set_option maxRecDepth 100000 in
set_option maxHeartbeats 4000000 in
theorem kX7_areKin (d : Nat) (hd : 0 ≤ d) (M : Mem) (a0 a1 a2 : Int) : Ct mX7_areKin d 0 0 [pA a0, pI a1, pI a2] M (dI M) (fX7_areKin M a0 a1 a2) := by
  refine Ct.of 0 (by decide +kernel) rfl ?_
  unfold fX7_areKin
  refine v_aload_n dX7_areKin_0 rfl ?_
  refine v_if (fun h1 => ?_)
  refine v_get (v := pA (M.1 a0 9)) 7 9 rfl inX7 (by decide) tw96 dX7_areKin_1 h1 rfl ?_
  refine v_iload_n dX7_areKin_4 rfl ?_
  refine v_if (fun h2 => ?_)
  refine v_iaload h2 dX7_areKin_5 ?_
  refine v_iload_n dX7_areKin_6 rfl ?_
  refine v_icmp_eq (tgt := 20) dX7_areKin_7 (by decide) (fun c3 => ?_) (fun c3 => ?_)
  · refine v_iconst dX7_areKin_20 (by decide) ?_
    refine v_goto (tgt := 25) dX7_areKin_21 (by decide) ?_
    exact v_breturn dX7_areKin_25 rfl (by decide) rfl
  · refine v_aload_n dX7_areKin_10 rfl ?_
    refine v_get (v := pA (M.1 a0 9)) 7 9 rfl inX7 (by decide) tw96 dX7_areKin_11 h1 rfl ?_
    refine v_iload_n dX7_areKin_14 rfl ?_
    refine v_if (fun h4 => ?_)
    refine v_iaload h4 dX7_areKin_15 ?_
    refine v_iload_n dX7_areKin_16 rfl ?_
    refine v_icmp_ne (tgt := 24) dX7_areKin_17 (by decide) (fun c5 => ?_) (fun c5 => ?_)
    · refine v_iconst dX7_areKin_20 (by decide) ?_
      refine v_goto (tgt := 25) dX7_areKin_21 (by decide) ?_
      exact v_breturn dX7_areKin_25 rfl (by decide) rfl
    · refine v_iconst dX7_areKin_24 (by decide) ?_
      exact v_breturn dX7_areKin_25 rfl (by decide) rfl
theorem dX7_spareOf_0 : decode cX7_spareOf 0 = .ok (.iconst 0, 1) := by decide +kernel
theorem dX7_spareOf_1 : decode cX7_spareOf 1 = .ok (.aload_n 0, 1) := by decide +kernel
theorem dX7_spareOf_2 : decode cX7_spareOf 2 = .ok (.getfield 9, 3) := by decide +kernel
theorem dX7_spareOf_5 : decode cX7_spareOf 5 = .ok (.iload_n 1, 1) := by decide +kernel
theorem dX7_spareOf_6 : decode cX7_spareOf 6 = .ok (.iload_n 2, 1) := by decide +kernel
theorem dX7_spareOf_7 : decode cX7_spareOf 7 = .ok (.invokestatic 54, 3) := by decide +kernel
theorem dX7_spareOf_10 : decode cX7_spareOf 10 = .ok (.iaload, 1) := by decide +kernel
theorem dX7_spareOf_11 : decode cX7_spareOf 11 = .ok (.aload_n 0, 1) := by decide +kernel
theorem dX7_spareOf_12 : decode cX7_spareOf 12 = .ok (.getfield 15, 3) := by decide +kernel
theorem dX7_spareOf_15 : decode cX7_spareOf 15 = .ok (.iload_n 1, 1) := by decide +kernel
theorem dX7_spareOf_16 : decode cX7_spareOf 16 = .ok (.iload_n 2, 1) := by decide +kernel
theorem dX7_spareOf_17 : decode cX7_spareOf 17 = .ok (.invokestatic 54, 3) := by decide +kernel
theorem dX7_spareOf_20 : decode cX7_spareOf 20 = .ok (.iaload, 1) := by decide +kernel
theorem dX7_spareOf_21 : decode cX7_spareOf 21 = .ok (.isub, 1) := by decide +kernel
theorem dX7_spareOf_22 : decode cX7_spareOf 22 = .ok (.invokestatic 58, 3) := by decide +kernel
theorem dX7_spareOf_25 : decode cX7_spareOf 25 = .ok (.ireturn, 1) := by decide +kernel
abbrev mX7_spareOf : MI := (yX7_spareOf, cX7_spareOf, 3, (some .int))
theorem okX7_spareOf : cok mX7_spareOf 2 := ⟨tw703, tw3, by decide, by decide, by decide, by decide +kernel⟩
def fX7_spareOf (M : Mem) (a0 a1 a2 : Int) : Option Int :=
  if M.2.1 a0 = 7 then (fX10_cell M a1 a2).bind fun r2 => if M.2.1 (M.1 a0 2) = 12 ∧ 0 ≤ r2 ∧ r2 < M.2.2.1 (M.1 a0 2) then (fX10_cell M a1 a2).bind fun r5 => if M.2.1 (M.1 a0 3) = 12 ∧ 0 ≤ r5 ∧ r5 < M.2.2.1 (M.1 a0 3) then some (imax 0 (w32 ((M.1 (M.1 a0 2) r2) - (M.1 (M.1 a0 3) r5)))) else none else none else none
set_option maxRecDepth 100000 in
set_option maxHeartbeats 4000000 in
theorem kX7_spareOf (d : Nat) (hd : 1 ≤ d) (M : Mem) (a0 a1 a2 : Int) : Ct mX7_spareOf d 0 0 [pA a0, pI a1, pI a2] M (dI M) (fX7_spareOf M a0 a1 a2) := by
  obtain ⟨d, rfl⟩ : ∃ k, d = k + 1 := ⟨d - 1, by omega⟩
  refine Ct.of 0 (by decide +kernel) rfl ?_
  unfold fX7_spareOf
  refine v_iconst dX7_spareOf_0 (by decide) ?_
  refine v_aload_n dX7_spareOf_1 rfl ?_
  refine v_if (fun h1 => ?_)
  refine v_get (v := pA (M.1 a0 2)) 7 2 rfl inX7 (by decide) tw66 dX7_spareOf_2 h1 rfl ?_
  refine v_iload_n dX7_spareOf_5 rfl ?_
  refine v_iload_n dX7_spareOf_6 rfl ?_
  refine v_cS (mi := mX7_spareOf) (As := [pI a1, pI a2]) (st := [pA (M.1 a0 2), pI 0]) (kX10_cell d (by omega) _ _ _) okX10_cell (Or.inr nw12) tw621 rfl (Nat.le_of_ble_eq_true rfl) dX7_spareOf_7 (fun r2 => [pI r2, pA (M.1 a0 2), pI 0]) (fun r2 => M) (fun _ => rfl) (fun _ => rfl) (fun r2 h3 => ?_) rfl
  refine v_if (fun h4 => ?_)
  refine v_iaload h4 dX7_spareOf_10 ?_
  refine v_aload_n dX7_spareOf_11 rfl ?_
  refine v_get (v := pA (M.1 a0 3)) 7 3 rfl inX7 (by decide) tw72 dX7_spareOf_12 h1 rfl ?_
  refine v_iload_n dX7_spareOf_15 rfl ?_
  refine v_iload_n dX7_spareOf_16 rfl ?_
  refine v_cS (mi := mX7_spareOf) (As := [pI a1, pI a2]) (st := [pA (M.1 a0 3), pI (M.1 (M.1 a0 2) r2), pI 0]) (kX10_cell d (by omega) _ _ _) okX10_cell (Or.inr nw12) tw621 rfl (Nat.le_of_ble_eq_true rfl) dX7_spareOf_17 (fun r5 => [pI r5, pA (M.1 a0 3), pI (M.1 (M.1 a0 2) r2), pI 0]) (fun r5 => M) (fun _ => rfl) (fun _ => rfl) (fun r5 h6 => ?_) rfl
  refine v_if (fun h7 => ?_)
  refine v_iaload h7 dX7_spareOf_20 ?_
  refine v_isub dX7_spareOf_21 ?_
  refine v_mmax (mi := mX7_spareOf) tw705 tw624 tw12 tw625 (Nat.le_of_ble_eq_true rfl) dX7_spareOf_22 ?_
  exact v_ireturn dX7_spareOf_25 rfl rfl
theorem dX7_lackOf_0 : decode cX7_lackOf 0 = .ok (.iconst 0, 1) := by decide +kernel
theorem dX7_lackOf_1 : decode cX7_lackOf 1 = .ok (.aload_n 0, 1) := by decide +kernel
theorem dX7_lackOf_2 : decode cX7_lackOf 2 = .ok (.getfield 15, 3) := by decide +kernel
theorem dX7_lackOf_5 : decode cX7_lackOf 5 = .ok (.iload_n 1, 1) := by decide +kernel
theorem dX7_lackOf_6 : decode cX7_lackOf 6 = .ok (.iload_n 2, 1) := by decide +kernel
theorem dX7_lackOf_7 : decode cX7_lackOf 7 = .ok (.invokestatic 54, 3) := by decide +kernel
theorem dX7_lackOf_10 : decode cX7_lackOf 10 = .ok (.iaload, 1) := by decide +kernel
theorem dX7_lackOf_11 : decode cX7_lackOf 11 = .ok (.aload_n 0, 1) := by decide +kernel
theorem dX7_lackOf_12 : decode cX7_lackOf 12 = .ok (.getfield 9, 3) := by decide +kernel
theorem dX7_lackOf_15 : decode cX7_lackOf 15 = .ok (.iload_n 1, 1) := by decide +kernel
theorem dX7_lackOf_16 : decode cX7_lackOf 16 = .ok (.iload_n 2, 1) := by decide +kernel
theorem dX7_lackOf_17 : decode cX7_lackOf 17 = .ok (.invokestatic 54, 3) := by decide +kernel
theorem dX7_lackOf_20 : decode cX7_lackOf 20 = .ok (.iaload, 1) := by decide +kernel
theorem dX7_lackOf_21 : decode cX7_lackOf 21 = .ok (.isub, 1) := by decide +kernel
theorem dX7_lackOf_22 : decode cX7_lackOf 22 = .ok (.invokestatic 58, 3) := by decide +kernel
theorem dX7_lackOf_25 : decode cX7_lackOf 25 = .ok (.ireturn, 1) := by decide +kernel
abbrev mX7_lackOf : MI := (yX7_lackOf, cX7_lackOf, 3, (some .int))
theorem okX7_lackOf : cok mX7_lackOf 2 := ⟨tw709, tw3, by decide, by decide, by decide, by decide +kernel⟩
def fX7_lackOf (M : Mem) (a0 a1 a2 : Int) : Option Int :=
  if M.2.1 a0 = 7 then (fX10_cell M a1 a2).bind fun r2 => if M.2.1 (M.1 a0 3) = 12 ∧ 0 ≤ r2 ∧ r2 < M.2.2.1 (M.1 a0 3) then (fX10_cell M a1 a2).bind fun r5 => if M.2.1 (M.1 a0 2) = 12 ∧ 0 ≤ r5 ∧ r5 < M.2.2.1 (M.1 a0 2) then some (imax 0 (w32 ((M.1 (M.1 a0 3) r2) - (M.1 (M.1 a0 2) r5)))) else none else none else none
set_option maxRecDepth 100000 in
set_option maxHeartbeats 4000000 in
theorem kX7_lackOf (d : Nat) (hd : 1 ≤ d) (M : Mem) (a0 a1 a2 : Int) : Ct mX7_lackOf d 0 0 [pA a0, pI a1, pI a2] M (dI M) (fX7_lackOf M a0 a1 a2) := by
  obtain ⟨d, rfl⟩ : ∃ k, d = k + 1 := ⟨d - 1, by omega⟩
  refine Ct.of 0 (by decide +kernel) rfl ?_
  unfold fX7_lackOf
  refine v_iconst dX7_lackOf_0 (by decide) ?_
  refine v_aload_n dX7_lackOf_1 rfl ?_
  refine v_if (fun h1 => ?_)
  refine v_get (v := pA (M.1 a0 3)) 7 3 rfl inX7 (by decide) tw72 dX7_lackOf_2 h1 rfl ?_
  refine v_iload_n dX7_lackOf_5 rfl ?_
  refine v_iload_n dX7_lackOf_6 rfl ?_
  refine v_cS (mi := mX7_lackOf) (As := [pI a1, pI a2]) (st := [pA (M.1 a0 3), pI 0]) (kX10_cell d (by omega) _ _ _) okX10_cell (Or.inr nw12) tw621 rfl (Nat.le_of_ble_eq_true rfl) dX7_lackOf_7 (fun r2 => [pI r2, pA (M.1 a0 3), pI 0]) (fun r2 => M) (fun _ => rfl) (fun _ => rfl) (fun r2 h3 => ?_) rfl
  refine v_if (fun h4 => ?_)
  refine v_iaload h4 dX7_lackOf_10 ?_
  refine v_aload_n dX7_lackOf_11 rfl ?_
  refine v_get (v := pA (M.1 a0 2)) 7 2 rfl inX7 (by decide) tw66 dX7_lackOf_12 h1 rfl ?_
  refine v_iload_n dX7_lackOf_15 rfl ?_
  refine v_iload_n dX7_lackOf_16 rfl ?_
  refine v_cS (mi := mX7_lackOf) (As := [pI a1, pI a2]) (st := [pA (M.1 a0 2), pI (M.1 (M.1 a0 3) r2), pI 0]) (kX10_cell d (by omega) _ _ _) okX10_cell (Or.inr nw12) tw621 rfl (Nat.le_of_ble_eq_true rfl) dX7_lackOf_17 (fun r5 => [pI r5, pA (M.1 a0 2), pI (M.1 (M.1 a0 3) r2), pI 0]) (fun r5 => M) (fun _ => rfl) (fun _ => rfl) (fun r5 h6 => ?_) rfl
  refine v_if (fun h7 => ?_)
  refine v_iaload h7 dX7_lackOf_20 ?_
  refine v_isub dX7_lackOf_21 ?_
  refine v_mmax (mi := mX7_lackOf) tw705 tw624 tw12 tw625 (Nat.le_of_ble_eq_true rfl) dX7_lackOf_22 ?_
  exact v_ireturn dX7_lackOf_25 rfl rfl
theorem dX7_spareOfAll_0 : decode cX7_spareOfAll 0 = .ok (.iconst 0, 1) := by decide +kernel
theorem dX7_spareOfAll_1 : decode cX7_spareOfAll 1 = .ok (.istore_n 2, 1) := by decide +kernel
theorem dX7_spareOfAll_2 : decode cX7_spareOfAll 2 = .ok (.iconst 0, 1) := by decide +kernel
theorem dX7_spareOfAll_3 : decode cX7_spareOfAll 3 = .ok (.istore_n 3, 1) := by decide +kernel
theorem dX7_spareOfAll_4 : decode cX7_spareOfAll 4 = .ok (.iload_n 3, 1) := by decide +kernel
theorem dX7_spareOfAll_5 : decode cX7_spareOfAll 5 = .ok (.aload_n 0, 1) := by decide +kernel
theorem dX7_spareOfAll_6 : decode cX7_spareOfAll 6 = .ok (.getfield 39, 3) := by decide +kernel
theorem dX7_spareOfAll_9 : decode cX7_spareOfAll 9 = .ok (.if_icmp .ge 18, 3) := by decide +kernel
theorem dX7_spareOfAll_12 : decode cX7_spareOfAll 12 = .ok (.iload_n 2, 1) := by decide +kernel
theorem dX7_spareOfAll_13 : decode cX7_spareOfAll 13 = .ok (.aload_n 0, 1) := by decide +kernel
theorem dX7_spareOfAll_14 : decode cX7_spareOfAll 14 = .ok (.iload_n 3, 1) := by decide +kernel
theorem dX7_spareOfAll_15 : decode cX7_spareOfAll 15 = .ok (.iload_n 1, 1) := by decide +kernel
theorem dX7_spareOfAll_16 : decode cX7_spareOfAll 16 = .ok (.invokevirtual 63, 3) := by decide +kernel
theorem dX7_spareOfAll_19 : decode cX7_spareOfAll 19 = .ok (.iadd, 1) := by decide +kernel
theorem dX7_spareOfAll_20 : decode cX7_spareOfAll 20 = .ok (.istore_n 2, 1) := by decide +kernel
theorem dX7_spareOfAll_21 : decode cX7_spareOfAll 21 = .ok (.iinc 3 1, 3) := by decide +kernel
theorem dX7_spareOfAll_24 : decode cX7_spareOfAll 24 = .ok (.goto (-20), 3) := by decide +kernel
theorem dX7_spareOfAll_27 : decode cX7_spareOfAll 27 = .ok (.iload_n 2, 1) := by decide +kernel
theorem dX7_spareOfAll_28 : decode cX7_spareOfAll 28 = .ok (.ireturn, 1) := by decide +kernel
abbrev mX7_spareOfAll : MI := (yX7_spareOfAll, cX7_spareOfAll, 4, (some .int))
theorem okX7_spareOfAll : cok mX7_spareOfAll 1 := ⟨tw863, tw3, by decide, by decide, by decide, by decide +kernel⟩
def fX7_spareOfAll (M : Mem) (a0 a1 : Int) : Option Int :=
  iterC (fun (rec1 : (Int × Int) → Option Int) (s2 : Int × Int) => if M.2.1 a0 = 7 then if s2.2 < M.1 a0 0 then ((fX7_spareOf M a0 s2.2 a1).bind fun r5 => rec1 (w32 (s2.1 + r5), w32 (s2.2 + 1))) else (some s2.1) else none) BIG (0, 0)
set_option maxRecDepth 100000 in
set_option maxHeartbeats 4000000 in
theorem kX7_spareOfAll (d : Nat) (hd : 2 ≤ d) (M : Mem) (a0 a1 : Int) : Ct mX7_spareOfAll d 0 0 [pA a0, pI a1] M (dI M) (fX7_spareOfAll M a0 a1) := by
  obtain ⟨d, rfl⟩ : ∃ k, d = k + 1 := ⟨d - 1, by omega⟩
  refine Ct.of 2 (by decide +kernel) rfl ?_
  unfold fX7_spareOfAll
  refine v_iconst dX7_spareOfAll_0 (by decide) ?_
  refine v_istore_n (ls' := [some (pA a0), some (pI a1), some (pI 0), none]) dX7_spareOfAll_1 (by decide) rfl ?_
  refine v_iconst dX7_spareOfAll_2 (by decide) ?_
  refine v_istore_n (ls' := [some (pA a0), some (pI a1), some (pI 0), some (pI 0)]) dX7_spareOfAll_3 (by decide) rfl ?_
  refine v_loop (fun (s2 : Int × Int) => [some (pA a0), some (pI a1), some (pI s2.1), some (pI s2.2)]) (fun (s2 : Int × Int) => M) (s0 := (0, 0)) ?_
  intro rec1 hrec1 s2
  refine v_iload_n dX7_spareOfAll_4 rfl ?_
  refine v_aload_n dX7_spareOfAll_5 rfl ?_
  refine v_if (fun h3 => ?_)
  refine v_get (v := pI (M.1 a0 0)) 7 0 rfl inX7 (by decide) tw54 dX7_spareOfAll_6 h3 rfl ?_
  refine v_icmp_ge (tgt := 27) dX7_spareOfAll_9 (by decide) (fun c4 => ?_) (fun c4 => ?_)
  · refine v_iload_n dX7_spareOfAll_12 rfl ?_
    refine v_aload_n dX7_spareOfAll_13 rfl ?_
    refine v_iload_n dX7_spareOfAll_14 rfl ?_
    refine v_iload_n dX7_spareOfAll_15 rfl ?_
    refine v_cV (mi := mX7_spareOfAll) (As := [pI s2.2, pI a1]) (st := [pI s2.1]) (kX7_spareOf d (by omega) _ _ _ _) rfl h3 rfl okX7_spareOf (Or.inl tw864) tw701 tw702 rfl (Nat.le_of_ble_eq_true rfl) dX7_spareOfAll_16 (fun r5 => [pI r5, pI s2.1]) (fun r5 => M) (fun _ => rfl) (fun _ => rfl) (fun r5 h6 => ?_) rfl
    refine v_iadd dX7_spareOfAll_19 ?_
    refine v_istore_n (ls' := [some (pA a0), some (pI a1), some (pI (w32 (s2.1 + r5))), some (pI s2.2)]) dX7_spareOfAll_20 (by decide) rfl ?_
    refine v_iinc (ls' := [some (pA a0), some (pI a1), some (pI (w32 (s2.1 + r5))), some (pI (w32 (s2.2 + 1)))]) dX7_spareOfAll_21 (by decide) rfl rfl ?_
    refine v_goto (tgt := 4) dX7_spareOfAll_24 (by decide) ?_
    exact hrec1 (w32 (s2.1 + r5), w32 (s2.2 + 1))
  · refine v_iload_n dX7_spareOfAll_27 rfl ?_
    exact v_ireturn dX7_spareOfAll_28 rfl rfl
theorem dX7_lackOfAll_0 : decode cX7_lackOfAll 0 = .ok (.iconst 0, 1) := by decide +kernel
theorem dX7_lackOfAll_1 : decode cX7_lackOfAll 1 = .ok (.istore_n 2, 1) := by decide +kernel
theorem dX7_lackOfAll_2 : decode cX7_lackOfAll 2 = .ok (.iconst 0, 1) := by decide +kernel
theorem dX7_lackOfAll_3 : decode cX7_lackOfAll 3 = .ok (.istore_n 3, 1) := by decide +kernel
theorem dX7_lackOfAll_4 : decode cX7_lackOfAll 4 = .ok (.iload_n 3, 1) := by decide +kernel
theorem dX7_lackOfAll_5 : decode cX7_lackOfAll 5 = .ok (.aload_n 0, 1) := by decide +kernel
theorem dX7_lackOfAll_6 : decode cX7_lackOfAll 6 = .ok (.getfield 39, 3) := by decide +kernel
theorem dX7_lackOfAll_9 : decode cX7_lackOfAll 9 = .ok (.if_icmp .ge 18, 3) := by decide +kernel
theorem dX7_lackOfAll_12 : decode cX7_lackOfAll 12 = .ok (.iload_n 2, 1) := by decide +kernel
theorem dX7_lackOfAll_13 : decode cX7_lackOfAll 13 = .ok (.aload_n 0, 1) := by decide +kernel
theorem dX7_lackOfAll_14 : decode cX7_lackOfAll 14 = .ok (.iload_n 3, 1) := by decide +kernel
theorem dX7_lackOfAll_15 : decode cX7_lackOfAll 15 = .ok (.iload_n 1, 1) := by decide +kernel
theorem dX7_lackOfAll_16 : decode cX7_lackOfAll 16 = .ok (.invokevirtual 66, 3) := by decide +kernel
theorem dX7_lackOfAll_19 : decode cX7_lackOfAll 19 = .ok (.iadd, 1) := by decide +kernel
theorem dX7_lackOfAll_20 : decode cX7_lackOfAll 20 = .ok (.istore_n 2, 1) := by decide +kernel
theorem dX7_lackOfAll_21 : decode cX7_lackOfAll 21 = .ok (.iinc 3 1, 3) := by decide +kernel
theorem dX7_lackOfAll_24 : decode cX7_lackOfAll 24 = .ok (.goto (-20), 3) := by decide +kernel
theorem dX7_lackOfAll_27 : decode cX7_lackOfAll 27 = .ok (.iload_n 2, 1) := by decide +kernel
theorem dX7_lackOfAll_28 : decode cX7_lackOfAll 28 = .ok (.ireturn, 1) := by decide +kernel
abbrev mX7_lackOfAll : MI := (yX7_lackOfAll, cX7_lackOfAll, 4, (some .int))
theorem okX7_lackOfAll : cok mX7_lackOfAll 1 := ⟨tw868, tw3, by decide, by decide, by decide, by decide +kernel⟩
def fX7_lackOfAll (M : Mem) (a0 a1 : Int) : Option Int :=
  iterC (fun (rec1 : (Int × Int) → Option Int) (s2 : Int × Int) => if M.2.1 a0 = 7 then if s2.2 < M.1 a0 0 then ((fX7_lackOf M a0 s2.2 a1).bind fun r5 => rec1 (w32 (s2.1 + r5), w32 (s2.2 + 1))) else (some s2.1) else none) BIG (0, 0)
set_option maxRecDepth 100000 in
set_option maxHeartbeats 4000000 in
theorem kX7_lackOfAll (d : Nat) (hd : 2 ≤ d) (M : Mem) (a0 a1 : Int) : Ct mX7_lackOfAll d 0 0 [pA a0, pI a1] M (dI M) (fX7_lackOfAll M a0 a1) := by
  obtain ⟨d, rfl⟩ : ∃ k, d = k + 1 := ⟨d - 1, by omega⟩
  refine Ct.of 2 (by decide +kernel) rfl ?_
  unfold fX7_lackOfAll
  refine v_iconst dX7_lackOfAll_0 (by decide) ?_
  refine v_istore_n (ls' := [some (pA a0), some (pI a1), some (pI 0), none]) dX7_lackOfAll_1 (by decide) rfl ?_
  refine v_iconst dX7_lackOfAll_2 (by decide) ?_
  refine v_istore_n (ls' := [some (pA a0), some (pI a1), some (pI 0), some (pI 0)]) dX7_lackOfAll_3 (by decide) rfl ?_
  refine v_loop (fun (s2 : Int × Int) => [some (pA a0), some (pI a1), some (pI s2.1), some (pI s2.2)]) (fun (s2 : Int × Int) => M) (s0 := (0, 0)) ?_
  intro rec1 hrec1 s2
  refine v_iload_n dX7_lackOfAll_4 rfl ?_
  refine v_aload_n dX7_lackOfAll_5 rfl ?_
  refine v_if (fun h3 => ?_)
  refine v_get (v := pI (M.1 a0 0)) 7 0 rfl inX7 (by decide) tw54 dX7_lackOfAll_6 h3 rfl ?_
  refine v_icmp_ge (tgt := 27) dX7_lackOfAll_9 (by decide) (fun c4 => ?_) (fun c4 => ?_)
  · refine v_iload_n dX7_lackOfAll_12 rfl ?_
    refine v_aload_n dX7_lackOfAll_13 rfl ?_
    refine v_iload_n dX7_lackOfAll_14 rfl ?_
    refine v_iload_n dX7_lackOfAll_15 rfl ?_
    refine v_cV (mi := mX7_lackOfAll) (As := [pI s2.2, pI a1]) (st := [pI s2.1]) (kX7_lackOf d (by omega) _ _ _ _) rfl h3 rfl okX7_lackOf (Or.inl tw869) tw707 tw708 rfl (Nat.le_of_ble_eq_true rfl) dX7_lackOfAll_16 (fun r5 => [pI r5, pI s2.1]) (fun r5 => M) (fun _ => rfl) (fun _ => rfl) (fun r5 h6 => ?_) rfl
    refine v_iadd dX7_lackOfAll_19 ?_
    refine v_istore_n (ls' := [some (pA a0), some (pI a1), some (pI (w32 (s2.1 + r5))), some (pI s2.2)]) dX7_lackOfAll_20 (by decide) rfl ?_
    refine v_iinc (ls' := [some (pA a0), some (pI a1), some (pI (w32 (s2.1 + r5))), some (pI (w32 (s2.2 + 1)))]) dX7_lackOfAll_21 (by decide) rfl rfl ?_
    refine v_goto (tgt := 4) dX7_lackOfAll_24 (by decide) ?_
    exact hrec1 (w32 (s2.1 + r5), w32 (s2.2 + 1))
  · refine v_iload_n dX7_lackOfAll_27 rfl ?_
    exact v_ireturn dX7_lackOfAll_28 rfl rfl
theorem dX7_limitOfAll_0 : decode cX7_limitOfAll 0 = .ok (.iconst 0, 1) := by decide +kernel
theorem dX7_limitOfAll_1 : decode cX7_limitOfAll 1 = .ok (.istore_n 1, 1) := by decide +kernel
theorem dX7_limitOfAll_2 : decode cX7_limitOfAll 2 = .ok (.iconst 0, 1) := by decide +kernel
theorem dX7_limitOfAll_3 : decode cX7_limitOfAll 3 = .ok (.istore_n 2, 1) := by decide +kernel
theorem dX7_limitOfAll_4 : decode cX7_limitOfAll 4 = .ok (.iload_n 2, 1) := by decide +kernel
theorem dX7_limitOfAll_5 : decode cX7_limitOfAll 5 = .ok (.aload_n 0, 1) := by decide +kernel
theorem dX7_limitOfAll_6 : decode cX7_limitOfAll 6 = .ok (.getfield 43, 3) := by decide +kernel
theorem dX7_limitOfAll_9 : decode cX7_limitOfAll 9 = .ok (.if_icmp .ge 18, 3) := by decide +kernel
theorem dX7_limitOfAll_12 : decode cX7_limitOfAll 12 = .ok (.iload_n 1, 1) := by decide +kernel
theorem dX7_limitOfAll_13 : decode cX7_limitOfAll 13 = .ok (.aload_n 0, 1) := by decide +kernel
theorem dX7_limitOfAll_14 : decode cX7_limitOfAll 14 = .ok (.getfield 30, 3) := by decide +kernel
theorem dX7_limitOfAll_17 : decode cX7_limitOfAll 17 = .ok (.iload_n 2, 1) := by decide +kernel
theorem dX7_limitOfAll_18 : decode cX7_limitOfAll 18 = .ok (.iaload, 1) := by decide +kernel
theorem dX7_limitOfAll_19 : decode cX7_limitOfAll 19 = .ok (.iadd, 1) := by decide +kernel
theorem dX7_limitOfAll_20 : decode cX7_limitOfAll 20 = .ok (.istore_n 1, 1) := by decide +kernel
theorem dX7_limitOfAll_21 : decode cX7_limitOfAll 21 = .ok (.iinc 2 1, 3) := by decide +kernel
theorem dX7_limitOfAll_24 : decode cX7_limitOfAll 24 = .ok (.goto (-20), 3) := by decide +kernel
theorem dX7_limitOfAll_27 : decode cX7_limitOfAll 27 = .ok (.iload_n 1, 1) := by decide +kernel
theorem dX7_limitOfAll_28 : decode cX7_limitOfAll 28 = .ok (.ireturn, 1) := by decide +kernel
abbrev mX7_limitOfAll : MI := (yX7_limitOfAll, cX7_limitOfAll, 3, (some .int))
theorem okX7_limitOfAll : cok mX7_limitOfAll 0 := ⟨tw882, tw3, by decide, by decide, by decide, by decide +kernel⟩
def fX7_limitOfAll (M : Mem) (a0 : Int) : Option Int :=
  iterC (fun (rec1 : (Int × Int) → Option Int) (s2 : Int × Int) => if M.2.1 a0 = 7 then if s2.2 < M.1 a0 1 then (if M.2.1 (M.1 a0 8) = 12 ∧ 0 ≤ s2.2 ∧ s2.2 < M.2.2.1 (M.1 a0 8) then rec1 (w32 (s2.1 + (M.1 (M.1 a0 8) s2.2)), w32 (s2.2 + 1)) else none) else (some s2.1) else none) BIG (0, 0)
set_option maxRecDepth 100000 in
set_option maxHeartbeats 4000000 in
theorem kX7_limitOfAll (d : Nat) (hd : 0 ≤ d) (M : Mem) (a0 : Int) : Ct mX7_limitOfAll d 0 0 [pA a0] M (dI M) (fX7_limitOfAll M a0) := by
  refine Ct.of 2 (by decide +kernel) rfl ?_
  unfold fX7_limitOfAll
  refine v_iconst dX7_limitOfAll_0 (by decide) ?_
  refine v_istore_n (ls' := [some (pA a0), some (pI 0), none]) dX7_limitOfAll_1 (by decide) rfl ?_
  refine v_iconst dX7_limitOfAll_2 (by decide) ?_
  refine v_istore_n (ls' := [some (pA a0), some (pI 0), some (pI 0)]) dX7_limitOfAll_3 (by decide) rfl ?_
  refine v_loop (fun (s2 : Int × Int) => [some (pA a0), some (pI s2.1), some (pI s2.2)]) (fun (s2 : Int × Int) => M) (s0 := (0, 0)) ?_
  intro rec1 hrec1 s2
  refine v_iload_n dX7_limitOfAll_4 rfl ?_
  refine v_aload_n dX7_limitOfAll_5 rfl ?_
  refine v_if (fun h3 => ?_)
  refine v_get (v := pI (M.1 a0 1)) 7 1 rfl inX7 (by decide) tw61 dX7_limitOfAll_6 h3 rfl ?_
  refine v_icmp_ge (tgt := 27) dX7_limitOfAll_9 (by decide) (fun c4 => ?_) (fun c4 => ?_)
  · refine v_iload_n dX7_limitOfAll_12 rfl ?_
    refine v_aload_n dX7_limitOfAll_13 rfl ?_
    refine v_get (v := pA (M.1 a0 8)) 7 8 rfl inX7 (by decide) tw93 dX7_limitOfAll_14 h3 rfl ?_
    refine v_iload_n dX7_limitOfAll_17 rfl ?_
    refine v_if (fun h5 => ?_)
    refine v_iaload h5 dX7_limitOfAll_18 ?_
    refine v_iadd dX7_limitOfAll_19 ?_
    refine v_istore_n (ls' := [some (pA a0), some (pI (w32 (s2.1 + (M.1 (M.1 a0 8) s2.2)))), some (pI s2.2)]) dX7_limitOfAll_20 (by decide) rfl ?_
    refine v_iinc (ls' := [some (pA a0), some (pI (w32 (s2.1 + (M.1 (M.1 a0 8) s2.2)))), some (pI (w32 (s2.2 + 1)))]) dX7_limitOfAll_21 (by decide) rfl rfl ?_
    refine v_goto (tgt := 4) dX7_limitOfAll_24 (by decide) ?_
    exact hrec1 (w32 (s2.1 + (M.1 (M.1 a0 8) s2.2)), w32 (s2.2 + 1))
  · refine v_iload_n dX7_limitOfAll_27 rfl ?_
    exact v_ireturn dX7_limitOfAll_28 rfl rfl
theorem dX7_worthIn_0 : decode cX7_worthIn 0 = .ok (.iconst 0, 1) := by decide +kernel
theorem dX7_worthIn_1 : decode cX7_worthIn 1 = .ok (.istore_n 3, 1) := by decide +kernel
theorem dX7_worthIn_2 : decode cX7_worthIn 2 = .ok (.iconst 0, 1) := by decide +kernel
theorem dX7_worthIn_3 : decode cX7_worthIn 3 = .ok (.istore 4, 2) := by decide +kernel
theorem dX7_worthIn_5 : decode cX7_worthIn 5 = .ok (.iload 4, 2) := by decide +kernel
theorem dX7_worthIn_7 : decode cX7_worthIn 7 = .ok (.iconst 5, 1) := by decide +kernel
theorem dX7_worthIn_8 : decode cX7_worthIn 8 = .ok (.if_icmp .ge 28, 3) := by decide +kernel
theorem dX7_worthIn_11 : decode cX7_worthIn 11 = .ok (.iload_n 3, 1) := by decide +kernel
theorem dX7_worthIn_12 : decode cX7_worthIn 12 = .ok (.aload_n 0, 1) := by decide +kernel
theorem dX7_worthIn_13 : decode cX7_worthIn 13 = .ok (.getfield 27, 3) := by decide +kernel
theorem dX7_worthIn_16 : decode cX7_worthIn 16 = .ok (.iload 4, 2) := by decide +kernel
theorem dX7_worthIn_18 : decode cX7_worthIn 18 = .ok (.iaload, 1) := by decide +kernel
theorem dX7_worthIn_19 : decode cX7_worthIn 19 = .ok (.aload_n 1, 1) := by decide +kernel
theorem dX7_worthIn_20 : decode cX7_worthIn 20 = .ok (.iload_n 2, 1) := by decide +kernel
theorem dX7_worthIn_21 : decode cX7_worthIn 21 = .ok (.iload 4, 2) := by decide +kernel
theorem dX7_worthIn_23 : decode cX7_worthIn 23 = .ok (.invokestatic 54, 3) := by decide +kernel
theorem dX7_worthIn_26 : decode cX7_worthIn 26 = .ok (.iaload, 1) := by decide +kernel
theorem dX7_worthIn_27 : decode cX7_worthIn 27 = .ok (.imul, 1) := by decide +kernel
theorem dX7_worthIn_28 : decode cX7_worthIn 28 = .ok (.iadd, 1) := by decide +kernel
theorem dX7_worthIn_29 : decode cX7_worthIn 29 = .ok (.istore_n 3, 1) := by decide +kernel
theorem dX7_worthIn_30 : decode cX7_worthIn 30 = .ok (.iinc 4 1, 3) := by decide +kernel
theorem dX7_worthIn_33 : decode cX7_worthIn 33 = .ok (.goto (-28), 3) := by decide +kernel
theorem dX7_worthIn_36 : decode cX7_worthIn 36 = .ok (.iload_n 3, 1) := by decide +kernel
theorem dX7_worthIn_37 : decode cX7_worthIn 37 = .ok (.ireturn, 1) := by decide +kernel
abbrev mX7_worthIn : MI := (yX7_worthIn, cX7_worthIn, 5, (some .int))
theorem okX7_worthIn : cok mX7_worthIn 2 := ⟨tw1019, tw3, by decide, by decide, by decide, by decide +kernel⟩
def fX7_worthIn (M : Mem) (a0 a1 a2 : Int) : Option Int :=
  iterC (fun (rec1 : (Int × Int) → Option Int) (s2 : Int × Int) => if s2.2 < 5 then (if M.2.1 a0 = 7 then if M.2.1 (M.1 a0 7) = 12 ∧ 0 ≤ s2.2 ∧ s2.2 < M.2.2.1 (M.1 a0 7) then (fX10_cell M a2 s2.2).bind fun r6 => if M.2.1 a1 = 12 ∧ 0 ≤ r6 ∧ r6 < M.2.2.1 a1 then rec1 (w32 (s2.1 + (w32 ((M.1 (M.1 a0 7) s2.2) * (M.1 a1 r6)))), w32 (s2.2 + 1)) else none else none else none) else (some s2.1)) BIG (0, 0)
set_option maxRecDepth 100000 in
set_option maxHeartbeats 4000000 in
theorem kX7_worthIn (d : Nat) (hd : 1 ≤ d) (M : Mem) (a0 a1 a2 : Int) : Ct mX7_worthIn d 0 0 [pA a0, pA a1, pI a2] M (dI M) (fX7_worthIn M a0 a1 a2) := by
  obtain ⟨d, rfl⟩ : ∃ k, d = k + 1 := ⟨d - 1, by omega⟩
  refine Ct.of 2 (by decide +kernel) rfl ?_
  unfold fX7_worthIn
  refine v_iconst dX7_worthIn_0 (by decide) ?_
  refine v_istore_n (ls' := [some (pA a0), some (pA a1), some (pI a2), some (pI 0), none]) dX7_worthIn_1 (by decide) rfl ?_
  refine v_iconst dX7_worthIn_2 (by decide) ?_
  refine v_istore (ls' := [some (pA a0), some (pA a1), some (pI a2), some (pI 0), some (pI 0)]) dX7_worthIn_3 (by decide) rfl ?_
  refine v_loop (fun (s2 : Int × Int) => [some (pA a0), some (pA a1), some (pI a2), some (pI s2.1), some (pI s2.2)]) (fun (s2 : Int × Int) => M) (s0 := (0, 0)) ?_
  intro rec1 hrec1 s2
  refine v_iload dX7_worthIn_5 rfl ?_
  refine v_iconst dX7_worthIn_7 (by decide) ?_
  refine v_icmp_ge (tgt := 36) dX7_worthIn_8 (by decide) (fun c3 => ?_) (fun c3 => ?_)
  · refine v_iload_n dX7_worthIn_11 rfl ?_
    refine v_aload_n dX7_worthIn_12 rfl ?_
    refine v_if (fun h4 => ?_)
    refine v_get (v := pA (M.1 a0 7)) 7 7 rfl inX7 (by decide) tw89 dX7_worthIn_13 h4 rfl ?_
    refine v_iload dX7_worthIn_16 rfl ?_
    refine v_if (fun h5 => ?_)
    refine v_iaload h5 dX7_worthIn_18 ?_
    refine v_aload_n dX7_worthIn_19 rfl ?_
    refine v_iload_n dX7_worthIn_20 rfl ?_
    refine v_iload dX7_worthIn_21 rfl ?_
    refine v_cS (mi := mX7_worthIn) (As := [pI a2, pI s2.2]) (st := [pA a1, pI (M.1 (M.1 a0 7) s2.2), pI s2.1]) (kX10_cell d (by omega) _ _ _) okX10_cell (Or.inr nw12) tw621 rfl (Nat.le_of_ble_eq_true rfl) dX7_worthIn_23 (fun r6 => [pI r6, pA a1, pI (M.1 (M.1 a0 7) s2.2), pI s2.1]) (fun r6 => M) (fun _ => rfl) (fun _ => rfl) (fun r6 h7 => ?_) rfl
    refine v_if (fun h8 => ?_)
    refine v_iaload h8 dX7_worthIn_26 ?_
    refine v_imul dX7_worthIn_27 ?_
    refine v_iadd dX7_worthIn_28 ?_
    refine v_istore_n (ls' := [some (pA a0), some (pA a1), some (pI a2), some (pI (w32 (s2.1 + (w32 ((M.1 (M.1 a0 7) s2.2) * (M.1 a1 r6)))))), some (pI s2.2)]) dX7_worthIn_29 (by decide) rfl ?_
    refine v_iinc (ls' := [some (pA a0), some (pA a1), some (pI a2), some (pI (w32 (s2.1 + (w32 ((M.1 (M.1 a0 7) s2.2) * (M.1 a1 r6)))))), some (pI (w32 (s2.2 + 1)))]) dX7_worthIn_30 (by decide) rfl rfl ?_
    refine v_goto (tgt := 5) dX7_worthIn_33 (by decide) ?_
    exact hrec1 (w32 (s2.1 + (w32 ((M.1 (M.1 a0 7) s2.2) * (M.1 a1 r6)))), w32 (s2.2 + 1))
  · refine v_iload_n dX7_worthIn_36 rfl ?_
    exact v_ireturn dX7_worthIn_37 rfl rfl
theorem dX7_evenOut_0 : decode cX7_evenOut 0 = .ok (.aload_n 0, 1) := by decide +kernel
theorem dX7_evenOut_1 : decode cX7_evenOut 1 = .ok (.getfield 39, 3) := by decide +kernel
theorem dX7_evenOut_4 : decode cX7_evenOut 4 = .ok (.iconst 1, 1) := by decide +kernel
theorem dX7_evenOut_5 : decode cX7_evenOut 5 = .ok (.if_icmp .ge 5, 3) := by decide +kernel
theorem dX7_evenOut_8 : decode cX7_evenOut 8 = .ok (.iconst 0, 1) := by decide +kernel
theorem dX7_evenOut_9 : decode cX7_evenOut 9 = .ok (.ireturn, 1) := by decide +kernel
theorem dX7_evenOut_10 : decode cX7_evenOut 10 = .ok (.iconst 0, 1) := by decide +kernel
theorem dX7_evenOut_11 : decode cX7_evenOut 11 = .ok (.istore_n 2, 1) := by decide +kernel
theorem dX7_evenOut_12 : decode cX7_evenOut 12 = .ok (.iconst 0, 1) := by decide +kernel
theorem dX7_evenOut_13 : decode cX7_evenOut 13 = .ok (.istore_n 3, 1) := by decide +kernel
theorem dX7_evenOut_14 : decode cX7_evenOut 14 = .ok (.iload_n 3, 1) := by decide +kernel
theorem dX7_evenOut_15 : decode cX7_evenOut 15 = .ok (.aload_n 0, 1) := by decide +kernel
theorem dX7_evenOut_16 : decode cX7_evenOut 16 = .ok (.getfield 39, 3) := by decide +kernel
theorem dX7_evenOut_19 : decode cX7_evenOut 19 = .ok (.if_icmp .ge 22, 3) := by decide +kernel
theorem dX7_evenOut_22 : decode cX7_evenOut 22 = .ok (.iload_n 2, 1) := by decide +kernel
theorem dX7_evenOut_23 : decode cX7_evenOut 23 = .ok (.aload_n 0, 1) := by decide +kernel
theorem dX7_evenOut_24 : decode cX7_evenOut 24 = .ok (.getfield 9, 3) := by decide +kernel
theorem dX7_evenOut_27 : decode cX7_evenOut 27 = .ok (.iload_n 3, 1) := by decide +kernel
theorem dX7_evenOut_28 : decode cX7_evenOut 28 = .ok (.iload_n 1, 1) := by decide +kernel
theorem dX7_evenOut_29 : decode cX7_evenOut 29 = .ok (.invokestatic 54, 3) := by decide +kernel
theorem dX7_evenOut_32 : decode cX7_evenOut 32 = .ok (.iaload, 1) := by decide +kernel
theorem dX7_evenOut_33 : decode cX7_evenOut 33 = .ok (.iadd, 1) := by decide +kernel
theorem dX7_evenOut_34 : decode cX7_evenOut 34 = .ok (.istore_n 2, 1) := by decide +kernel
theorem dX7_evenOut_35 : decode cX7_evenOut 35 = .ok (.iinc 3 1, 3) := by decide +kernel
theorem dX7_evenOut_38 : decode cX7_evenOut 38 = .ok (.goto (-24), 3) := by decide +kernel
theorem dX7_evenOut_41 : decode cX7_evenOut 41 = .ok (.iload_n 2, 1) := by decide +kernel
theorem dX7_evenOut_42 : decode cX7_evenOut 42 = .ok (.aload_n 0, 1) := by decide +kernel
theorem dX7_evenOut_43 : decode cX7_evenOut 43 = .ok (.getfield 39, 3) := by decide +kernel
theorem dX7_evenOut_46 : decode cX7_evenOut 46 = .ok (.idiv, 1) := by decide +kernel
theorem dX7_evenOut_47 : decode cX7_evenOut 47 = .ok (.istore_n 3, 1) := by decide +kernel
theorem dX7_evenOut_48 : decode cX7_evenOut 48 = .ok (.iconst 0, 1) := by decide +kernel
theorem dX7_evenOut_49 : decode cX7_evenOut 49 = .ok (.istore 4, 2) := by decide +kernel
theorem dX7_evenOut_51 : decode cX7_evenOut 51 = .ok (.iconst 0, 1) := by decide +kernel
theorem dX7_evenOut_52 : decode cX7_evenOut 52 = .ok (.istore 5, 2) := by decide +kernel
theorem dX7_evenOut_54 : decode cX7_evenOut 54 = .ok (.iconst 0, 1) := by decide +kernel
theorem dX7_evenOut_55 : decode cX7_evenOut 55 = .ok (.istore 6, 2) := by decide +kernel
theorem dX7_evenOut_57 : decode cX7_evenOut 57 = .ok (.iload 6, 2) := by decide +kernel
theorem dX7_evenOut_59 : decode cX7_evenOut 59 = .ok (.aload_n 0, 1) := by decide +kernel
theorem dX7_evenOut_60 : decode cX7_evenOut 60 = .ok (.getfield 39, 3) := by decide +kernel
theorem dX7_evenOut_63 : decode cX7_evenOut 63 = .ok (.if_icmp .ge 45, 3) := by decide +kernel
theorem dX7_evenOut_66 : decode cX7_evenOut 66 = .ok (.aload_n 0, 1) := by decide +kernel
theorem dX7_evenOut_67 : decode cX7_evenOut 67 = .ok (.getfield 9, 3) := by decide +kernel
theorem dX7_evenOut_70 : decode cX7_evenOut 70 = .ok (.iload 6, 2) := by decide +kernel
theorem dX7_evenOut_72 : decode cX7_evenOut 72 = .ok (.iload_n 1, 1) := by decide +kernel
theorem dX7_evenOut_73 : decode cX7_evenOut 73 = .ok (.invokestatic 54, 3) := by decide +kernel
theorem dX7_evenOut_76 : decode cX7_evenOut 76 = .ok (.iaload, 1) := by decide +kernel
theorem dX7_evenOut_77 : decode cX7_evenOut 77 = .ok (.iload_n 3, 1) := by decide +kernel
theorem dX7_evenOut_78 : decode cX7_evenOut 78 = .ok (.if_icmp .le 24, 3) := by decide +kernel
theorem dX7_evenOut_81 : decode cX7_evenOut 81 = .ok (.iload 4, 2) := by decide +kernel
theorem dX7_evenOut_83 : decode cX7_evenOut 83 = .ok (.aload_n 0, 1) := by decide +kernel
theorem dX7_evenOut_84 : decode cX7_evenOut 84 = .ok (.getfield 9, 3) := by decide +kernel
theorem dX7_evenOut_87 : decode cX7_evenOut 87 = .ok (.iload 6, 2) := by decide +kernel
theorem dX7_evenOut_89 : decode cX7_evenOut 89 = .ok (.iload_n 1, 1) := by decide +kernel
theorem dX7_evenOut_90 : decode cX7_evenOut 90 = .ok (.invokestatic 54, 3) := by decide +kernel
theorem dX7_evenOut_93 : decode cX7_evenOut 93 = .ok (.iaload, 1) := by decide +kernel
theorem dX7_evenOut_94 : decode cX7_evenOut 94 = .ok (.iload_n 3, 1) := by decide +kernel
theorem dX7_evenOut_95 : decode cX7_evenOut 95 = .ok (.isub, 1) := by decide +kernel
theorem dX7_evenOut_96 : decode cX7_evenOut 96 = .ok (.iadd, 1) := by decide +kernel
theorem dX7_evenOut_97 : decode cX7_evenOut 97 = .ok (.istore 4, 2) := by decide +kernel
theorem dX7_evenOut_99 : decode cX7_evenOut 99 = .ok (.iinc 5 1, 3) := by decide +kernel
theorem dX7_evenOut_102 : decode cX7_evenOut 102 = .ok (.iinc 6 1, 3) := by decide +kernel
theorem dX7_evenOut_105 : decode cX7_evenOut 105 = .ok (.goto (-48), 3) := by decide +kernel
theorem dX7_evenOut_108 : decode cX7_evenOut 108 = .ok (.iload 4, 2) := by decide +kernel
theorem dX7_evenOut_110 : decode cX7_evenOut 110 = .ok (.iload 5, 2) := by decide +kernel
theorem dX7_evenOut_112 : decode cX7_evenOut 112 = .ok (.iload_n 2, 1) := by decide +kernel
theorem dX7_evenOut_113 : decode cX7_evenOut 113 = .ok (.aload_n 0, 1) := by decide +kernel
theorem dX7_evenOut_114 : decode cX7_evenOut 114 = .ok (.getfield 39, 3) := by decide +kernel
theorem dX7_evenOut_117 : decode cX7_evenOut 117 = .ok (.irem, 1) := by decide +kernel
theorem dX7_evenOut_118 : decode cX7_evenOut 118 = .ok (.invokestatic 69, 3) := by decide +kernel
theorem dX7_evenOut_121 : decode cX7_evenOut 121 = .ok (.isub, 1) := by decide +kernel
theorem dX7_evenOut_122 : decode cX7_evenOut 122 = .ok (.ireturn, 1) := by decide +kernel
abbrev mX7_evenOut : MI := (yX7_evenOut, cX7_evenOut, 7, (some .int))
theorem okX7_evenOut : cok mX7_evenOut 1 := ⟨tw1049, tw3, by decide, by decide, by decide, by decide +kernel⟩
def fX7_evenOut (M : Mem) (a0 a1 : Int) : Option Int :=
  if M.2.1 a0 = 7 then if M.1 a0 0 < 1 then (some 0) else (iterC (fun (rec3 : (Int × Int) → Option Int) (s4 : Int × Int) => if s4.2 < M.1 a0 0 then ((fX10_cell M s4.2 a1).bind fun r6 => if M.2.1 (M.1 a0 2) = 12 ∧ 0 ≤ r6 ∧ r6 < M.2.2.1 (M.1 a0 2) then rec3 (w32 (s4.1 + (M.1 (M.1 a0 2) r6)), w32 (s4.2 + 1)) else none) else (if (M.1 a0 0) ≠ 0 then iterC (fun (rec10 : (Int × Int × Int) → Option Int) (s11 : Int × Int × Int) => if s11.2.2 < M.1 a0 0 then ((fX10_cell M s11.2.2 a1).bind fun r13 => if M.2.1 (M.1 a0 2) = 12 ∧ 0 ≤ r13 ∧ r13 < M.2.2.1 (M.1 a0 2) then if w32 (s4.1.tdiv (M.1 a0 0)) < M.1 (M.1 a0 2) r13 then ((fX10_cell M s11.2.2 a1).bind fun r17 => if M.2.1 (M.1 a0 2) = 12 ∧ 0 ≤ r17 ∧ r17 < M.2.2.1 (M.1 a0 2) then rec10 (w32 (s11.1 + (w32 ((M.1 (M.1 a0 2) r17) - (w32 (s4.1.tdiv (M.1 a0 0)))))), w32 (s11.2.1 + 1), w32 (s11.2.2 + 1)) else none) else (rec10 (s11.1, s11.2.1, w32 (s11.2.2 + 1))) else none) else (if (M.1 a0 0) ≠ 0 then some (w32 (s11.1 - (imin s11.2.1 (s4.1.tmod (M.1 a0 0))))) else none)) BIG (0, 0, 0) else none)) BIG (0, 0)) else none
set_option maxRecDepth 100000 in
set_option maxHeartbeats 4000000 in
theorem kX7_evenOut (d : Nat) (hd : 1 ≤ d) (M : Mem) (a0 a1 : Int) : Ct mX7_evenOut d 0 0 [pA a0, pI a1] M (dI M) (fX7_evenOut M a0 a1) := by
  obtain ⟨d, rfl⟩ : ∃ k, d = k + 1 := ⟨d - 1, by omega⟩
  refine Ct.of 5 (by decide +kernel) rfl ?_
  unfold fX7_evenOut
  refine v_aload_n dX7_evenOut_0 rfl ?_
  refine v_if (fun h1 => ?_)
  refine v_get (v := pI (M.1 a0 0)) 7 0 rfl inX7 (by decide) tw54 dX7_evenOut_1 h1 rfl ?_
  refine v_iconst dX7_evenOut_4 (by decide) ?_
  refine v_icmp_ge (tgt := 10) dX7_evenOut_5 (by decide) (fun c2 => ?_) (fun c2 => ?_)
  · refine v_iconst dX7_evenOut_8 (by decide) ?_
    exact v_ireturn dX7_evenOut_9 rfl rfl
  · refine v_iconst dX7_evenOut_10 (by decide) ?_
    refine v_istore_n (ls' := [some (pA a0), some (pI a1), some (pI 0), none, none, none, none]) dX7_evenOut_11 (by decide) rfl ?_
    refine v_iconst dX7_evenOut_12 (by decide) ?_
    refine v_istore_n (ls' := [some (pA a0), some (pI a1), some (pI 0), some (pI 0), none, none, none]) dX7_evenOut_13 (by decide) rfl ?_
    refine v_loop (fun (s4 : Int × Int) => [some (pA a0), some (pI a1), some (pI s4.1), some (pI s4.2), none, none, none]) (fun (s4 : Int × Int) => M) (s0 := (0, 0)) ?_
    intro rec3 hrec3 s4
    refine v_iload_n dX7_evenOut_14 rfl ?_
    refine v_aload_n dX7_evenOut_15 rfl ?_
    refine v_get (v := pI (M.1 a0 0)) 7 0 rfl inX7 (by decide) tw54 dX7_evenOut_16 h1 rfl ?_
    refine v_icmp_ge (tgt := 41) dX7_evenOut_19 (by decide) (fun c5 => ?_) (fun c5 => ?_)
    · refine v_iload_n dX7_evenOut_22 rfl ?_
      refine v_aload_n dX7_evenOut_23 rfl ?_
      refine v_get (v := pA (M.1 a0 2)) 7 2 rfl inX7 (by decide) tw66 dX7_evenOut_24 h1 rfl ?_
      refine v_iload_n dX7_evenOut_27 rfl ?_
      refine v_iload_n dX7_evenOut_28 rfl ?_
      refine v_cS (mi := mX7_evenOut) (As := [pI s4.2, pI a1]) (st := [pA (M.1 a0 2), pI s4.1]) (kX10_cell d (by omega) _ _ _) okX10_cell (Or.inr nw12) tw621 rfl (Nat.le_of_ble_eq_true rfl) dX7_evenOut_29 (fun r6 => [pI r6, pA (M.1 a0 2), pI s4.1]) (fun r6 => M) (fun _ => rfl) (fun _ => rfl) (fun r6 h7 => ?_) rfl
      refine v_if (fun h8 => ?_)
      refine v_iaload h8 dX7_evenOut_32 ?_
      refine v_iadd dX7_evenOut_33 ?_
      refine v_istore_n (ls' := [some (pA a0), some (pI a1), some (pI (w32 (s4.1 + (M.1 (M.1 a0 2) r6)))), some (pI s4.2), none, none, none]) dX7_evenOut_34 (by decide) rfl ?_
      refine v_iinc (ls' := [some (pA a0), some (pI a1), some (pI (w32 (s4.1 + (M.1 (M.1 a0 2) r6)))), some (pI (w32 (s4.2 + 1))), none, none, none]) dX7_evenOut_35 (by decide) rfl rfl ?_
      refine v_goto (tgt := 14) dX7_evenOut_38 (by decide) ?_
      exact hrec3 (w32 (s4.1 + (M.1 (M.1 a0 2) r6)), w32 (s4.2 + 1))
    · refine v_iload_n dX7_evenOut_41 rfl ?_
      refine v_aload_n dX7_evenOut_42 rfl ?_
      refine v_get (v := pI (M.1 a0 0)) 7 0 rfl inX7 (by decide) tw54 dX7_evenOut_43 h1 rfl ?_
      refine v_if (fun h9 => ?_)
      refine v_idiv h9 dX7_evenOut_46 ?_
      refine v_istore_n (ls' := [some (pA a0), some (pI a1), some (pI s4.1), some (pI (w32 (s4.1.tdiv (M.1 a0 0)))), none, none, none]) dX7_evenOut_47 (by decide) rfl ?_
      refine v_iconst dX7_evenOut_48 (by decide) ?_
      refine v_istore (ls' := [some (pA a0), some (pI a1), some (pI s4.1), some (pI (w32 (s4.1.tdiv (M.1 a0 0)))), some (pI 0), none, none]) dX7_evenOut_49 (by decide) rfl ?_
      refine v_iconst dX7_evenOut_51 (by decide) ?_
      refine v_istore (ls' := [some (pA a0), some (pI a1), some (pI s4.1), some (pI (w32 (s4.1.tdiv (M.1 a0 0)))), some (pI 0), some (pI 0), none]) dX7_evenOut_52 (by decide) rfl ?_
      refine v_iconst dX7_evenOut_54 (by decide) ?_
      refine v_istore (ls' := [some (pA a0), some (pI a1), some (pI s4.1), some (pI (w32 (s4.1.tdiv (M.1 a0 0)))), some (pI 0), some (pI 0), some (pI 0)]) dX7_evenOut_55 (by decide) rfl ?_
      refine v_loop (fun (s11 : Int × Int × Int) => [some (pA a0), some (pI a1), some (pI s4.1), some (pI (w32 (s4.1.tdiv (M.1 a0 0)))), some (pI s11.1), some (pI s11.2.1), some (pI s11.2.2)]) (fun (s11 : Int × Int × Int) => M) (s0 := (0, 0, 0)) ?_
      intro rec10 hrec10 s11
      refine v_iload dX7_evenOut_57 rfl ?_
      refine v_aload_n dX7_evenOut_59 rfl ?_
      refine v_get (v := pI (M.1 a0 0)) 7 0 rfl inX7 (by decide) tw54 dX7_evenOut_60 h1 rfl ?_
      refine v_icmp_ge (tgt := 108) dX7_evenOut_63 (by decide) (fun c12 => ?_) (fun c12 => ?_)
      · refine v_aload_n dX7_evenOut_66 rfl ?_
        refine v_get (v := pA (M.1 a0 2)) 7 2 rfl inX7 (by decide) tw66 dX7_evenOut_67 h1 rfl ?_
        refine v_iload dX7_evenOut_70 rfl ?_
        refine v_iload_n dX7_evenOut_72 rfl ?_
        refine v_cS (mi := mX7_evenOut) (As := [pI s11.2.2, pI a1]) (st := [pA (M.1 a0 2)]) (kX10_cell d (by omega) _ _ _) okX10_cell (Or.inr nw12) tw621 rfl (Nat.le_of_ble_eq_true rfl) dX7_evenOut_73 (fun r13 => [pI r13, pA (M.1 a0 2)]) (fun r13 => M) (fun _ => rfl) (fun _ => rfl) (fun r13 h14 => ?_) rfl
        refine v_if (fun h15 => ?_)
        refine v_iaload h15 dX7_evenOut_76 ?_
        refine v_iload_n dX7_evenOut_77 rfl ?_
        refine v_icmp_le (tgt := 102) dX7_evenOut_78 (by decide) (fun c16 => ?_) (fun c16 => ?_)
        · refine v_iload dX7_evenOut_81 rfl ?_
          refine v_aload_n dX7_evenOut_83 rfl ?_
          refine v_get (v := pA (M.1 a0 2)) 7 2 rfl inX7 (by decide) tw66 dX7_evenOut_84 h1 rfl ?_
          refine v_iload dX7_evenOut_87 rfl ?_
          refine v_iload_n dX7_evenOut_89 rfl ?_
          refine v_cS (mi := mX7_evenOut) (As := [pI s11.2.2, pI a1]) (st := [pA (M.1 a0 2), pI s11.1]) (kX10_cell d (by omega) _ _ _) okX10_cell (Or.inr nw12) tw621 rfl (Nat.le_of_ble_eq_true rfl) dX7_evenOut_90 (fun r17 => [pI r17, pA (M.1 a0 2), pI s11.1]) (fun r17 => M) (fun _ => rfl) (fun _ => rfl) (fun r17 h18 => ?_) rfl
          refine v_if (fun h19 => ?_)
          refine v_iaload h19 dX7_evenOut_93 ?_
          refine v_iload_n dX7_evenOut_94 rfl ?_
          refine v_isub dX7_evenOut_95 ?_
          refine v_iadd dX7_evenOut_96 ?_
          refine v_istore (ls' := [some (pA a0), some (pI a1), some (pI s4.1), some (pI (w32 (s4.1.tdiv (M.1 a0 0)))), some (pI (w32 (s11.1 + (w32 ((M.1 (M.1 a0 2) r17) - (w32 (s4.1.tdiv (M.1 a0 0)))))))), some (pI s11.2.1), some (pI s11.2.2)]) dX7_evenOut_97 (by decide) rfl ?_
          refine v_iinc (ls' := [some (pA a0), some (pI a1), some (pI s4.1), some (pI (w32 (s4.1.tdiv (M.1 a0 0)))), some (pI (w32 (s11.1 + (w32 ((M.1 (M.1 a0 2) r17) - (w32 (s4.1.tdiv (M.1 a0 0)))))))), some (pI (w32 (s11.2.1 + 1))), some (pI s11.2.2)]) dX7_evenOut_99 (by decide) rfl rfl ?_
          refine v_iinc (ls' := [some (pA a0), some (pI a1), some (pI s4.1), some (pI (w32 (s4.1.tdiv (M.1 a0 0)))), some (pI (w32 (s11.1 + (w32 ((M.1 (M.1 a0 2) r17) - (w32 (s4.1.tdiv (M.1 a0 0)))))))), some (pI (w32 (s11.2.1 + 1))), some (pI (w32 (s11.2.2 + 1)))]) dX7_evenOut_102 (by decide) rfl rfl ?_
          refine v_goto (tgt := 57) dX7_evenOut_105 (by decide) ?_
          exact hrec10 (w32 (s11.1 + (w32 ((M.1 (M.1 a0 2) r17) - (w32 (s4.1.tdiv (M.1 a0 0)))))), w32 (s11.2.1 + 1), w32 (s11.2.2 + 1))
        · refine v_iinc (ls' := [some (pA a0), some (pI a1), some (pI s4.1), some (pI (w32 (s4.1.tdiv (M.1 a0 0)))), some (pI s11.1), some (pI s11.2.1), some (pI (w32 (s11.2.2 + 1)))]) dX7_evenOut_102 (by decide) rfl rfl ?_
          refine v_goto (tgt := 57) dX7_evenOut_105 (by decide) ?_
          exact hrec10 (s11.1, s11.2.1, w32 (s11.2.2 + 1))
      · refine v_iload dX7_evenOut_108 rfl ?_
        refine v_iload dX7_evenOut_110 rfl ?_
        refine v_iload_n dX7_evenOut_112 rfl ?_
        refine v_aload_n dX7_evenOut_113 rfl ?_
        refine v_get (v := pI (M.1 a0 0)) 7 0 rfl inX7 (by decide) tw54 dX7_evenOut_114 h1 rfl ?_
        refine v_if (fun h20 => ?_)
        refine v_irem h20 dX7_evenOut_117 ?_
        refine v_mmin (mi := mX7_evenOut) tw1050 tw469 tw12 tw470 (Nat.le_of_ble_eq_true rfl) dX7_evenOut_118 ?_
        refine v_isub dX7_evenOut_121 ?_
        exact v_ireturn dX7_evenOut_122 rfl rfl
theorem dX7_limitOf_0 : decode cX7_limitOf 0 = .ok (.iconst 0, 1) := by decide +kernel
theorem dX7_limitOf_1 : decode cX7_limitOf 1 = .ok (.istore_n 2, 1) := by decide +kernel
theorem dX7_limitOf_2 : decode cX7_limitOf 2 = .ok (.iconst 0, 1) := by decide +kernel
theorem dX7_limitOf_3 : decode cX7_limitOf 3 = .ok (.istore_n 3, 1) := by decide +kernel
theorem dX7_limitOf_4 : decode cX7_limitOf 4 = .ok (.iload_n 3, 1) := by decide +kernel
theorem dX7_limitOf_5 : decode cX7_limitOf 5 = .ok (.aload_n 0, 1) := by decide +kernel
theorem dX7_limitOf_6 : decode cX7_limitOf 6 = .ok (.getfield 43, 3) := by decide +kernel
theorem dX7_limitOf_9 : decode cX7_limitOf 9 = .ok (.if_icmp .ge 27, 3) := by decide +kernel
theorem dX7_limitOf_12 : decode cX7_limitOf 12 = .ok (.iload_n 1, 1) := by decide +kernel
theorem dX7_limitOf_13 : decode cX7_limitOf 13 = .ok (.iload_n 3, 1) := by decide +kernel
theorem dX7_limitOf_14 : decode cX7_limitOf 14 = .ok (.ishr, 1) := by decide +kernel
theorem dX7_limitOf_15 : decode cX7_limitOf 15 = .ok (.iconst 1, 1) := by decide +kernel
theorem dX7_limitOf_16 : decode cX7_limitOf 16 = .ok (.iand, 1) := by decide +kernel
theorem dX7_limitOf_17 : decode cX7_limitOf 17 = .ok (.iconst 1, 1) := by decide +kernel
theorem dX7_limitOf_18 : decode cX7_limitOf 18 = .ok (.if_icmp .ne 12, 3) := by decide +kernel
theorem dX7_limitOf_21 : decode cX7_limitOf 21 = .ok (.iload_n 2, 1) := by decide +kernel
theorem dX7_limitOf_22 : decode cX7_limitOf 22 = .ok (.aload_n 0, 1) := by decide +kernel
theorem dX7_limitOf_23 : decode cX7_limitOf 23 = .ok (.getfield 30, 3) := by decide +kernel
theorem dX7_limitOf_26 : decode cX7_limitOf 26 = .ok (.iload_n 3, 1) := by decide +kernel
theorem dX7_limitOf_27 : decode cX7_limitOf 27 = .ok (.iaload, 1) := by decide +kernel
theorem dX7_limitOf_28 : decode cX7_limitOf 28 = .ok (.iadd, 1) := by decide +kernel
theorem dX7_limitOf_29 : decode cX7_limitOf 29 = .ok (.istore_n 2, 1) := by decide +kernel
theorem dX7_limitOf_30 : decode cX7_limitOf 30 = .ok (.iinc 3 1, 3) := by decide +kernel
theorem dX7_limitOf_33 : decode cX7_limitOf 33 = .ok (.goto (-29), 3) := by decide +kernel
theorem dX7_limitOf_36 : decode cX7_limitOf 36 = .ok (.iload_n 2, 1) := by decide +kernel
theorem dX7_limitOf_37 : decode cX7_limitOf 37 = .ok (.ireturn, 1) := by decide +kernel
abbrev mX7_limitOf : MI := (yX7_limitOf, cX7_limitOf, 4, (some .int))
theorem okX7_limitOf : cok mX7_limitOf 1 := ⟨tw1149, tw3, by decide, by decide, by decide, by decide +kernel⟩
def fX7_limitOf (M : Mem) (a0 a1 : Int) : Option Int :=
  iterC (fun (rec1 : (Int × Int) → Option Int) (s2 : Int × Int) => if M.2.1 a0 = 7 then if s2.2 < M.1 a0 1 then (if bAnd (bShr a1 s2.2) 1 = 1 then (if M.2.1 (M.1 a0 8) = 12 ∧ 0 ≤ s2.2 ∧ s2.2 < M.2.2.1 (M.1 a0 8) then rec1 (w32 (s2.1 + (M.1 (M.1 a0 8) s2.2)), w32 (s2.2 + 1)) else none) else (rec1 (s2.1, w32 (s2.2 + 1)))) else (some s2.1) else none) BIG (0, 0)
set_option maxRecDepth 100000 in
set_option maxHeartbeats 4000000 in
theorem kX7_limitOf (d : Nat) (hd : 0 ≤ d) (M : Mem) (a0 a1 : Int) : Ct mX7_limitOf d 0 0 [pA a0, pI a1] M (dI M) (fX7_limitOf M a0 a1) := by
  refine Ct.of 2 (by decide +kernel) rfl ?_
  unfold fX7_limitOf
  refine v_iconst dX7_limitOf_0 (by decide) ?_
  refine v_istore_n (ls' := [some (pA a0), some (pI a1), some (pI 0), none]) dX7_limitOf_1 (by decide) rfl ?_
  refine v_iconst dX7_limitOf_2 (by decide) ?_
  refine v_istore_n (ls' := [some (pA a0), some (pI a1), some (pI 0), some (pI 0)]) dX7_limitOf_3 (by decide) rfl ?_
  refine v_loop (fun (s2 : Int × Int) => [some (pA a0), some (pI a1), some (pI s2.1), some (pI s2.2)]) (fun (s2 : Int × Int) => M) (s0 := (0, 0)) ?_
  intro rec1 hrec1 s2
  refine v_iload_n dX7_limitOf_4 rfl ?_
  refine v_aload_n dX7_limitOf_5 rfl ?_
  refine v_if (fun h3 => ?_)
  refine v_get (v := pI (M.1 a0 1)) 7 1 rfl inX7 (by decide) tw61 dX7_limitOf_6 h3 rfl ?_
  refine v_icmp_ge (tgt := 36) dX7_limitOf_9 (by decide) (fun c4 => ?_) (fun c4 => ?_)
  · refine v_iload_n dX7_limitOf_12 rfl ?_
    refine v_iload_n dX7_limitOf_13 rfl ?_
    refine v_ishr dX7_limitOf_14 ?_
    refine v_iconst dX7_limitOf_15 (by decide) ?_
    refine v_iand dX7_limitOf_16 ?_
    refine v_iconst dX7_limitOf_17 (by decide) ?_
    refine v_icmp_ne (tgt := 30) dX7_limitOf_18 (by decide) (fun c5 => ?_) (fun c5 => ?_)
    · refine v_iload_n dX7_limitOf_21 rfl ?_
      refine v_aload_n dX7_limitOf_22 rfl ?_
      refine v_get (v := pA (M.1 a0 8)) 7 8 rfl inX7 (by decide) tw93 dX7_limitOf_23 h3 rfl ?_
      refine v_iload_n dX7_limitOf_26 rfl ?_
      refine v_if (fun h6 => ?_)
      refine v_iaload h6 dX7_limitOf_27 ?_
      refine v_iadd dX7_limitOf_28 ?_
      refine v_istore_n (ls' := [some (pA a0), some (pI a1), some (pI (w32 (s2.1 + (M.1 (M.1 a0 8) s2.2)))), some (pI s2.2)]) dX7_limitOf_29 (by decide) rfl ?_
      refine v_iinc (ls' := [some (pA a0), some (pI a1), some (pI (w32 (s2.1 + (M.1 (M.1 a0 8) s2.2)))), some (pI (w32 (s2.2 + 1)))]) dX7_limitOf_30 (by decide) rfl rfl ?_
      refine v_goto (tgt := 4) dX7_limitOf_33 (by decide) ?_
      exact hrec1 (w32 (s2.1 + (M.1 (M.1 a0 8) s2.2)), w32 (s2.2 + 1))
    · refine v_iinc (ls' := [some (pA a0), some (pI a1), some (pI s2.1), some (pI (w32 (s2.2 + 1)))]) dX7_limitOf_30 (by decide) rfl rfl ?_
      refine v_goto (tgt := 4) dX7_limitOf_33 (by decide) ?_
      exact hrec1 (s2.1, w32 (s2.2 + 1))
  · refine v_iload_n dX7_limitOf_36 rfl ?_
    exact v_ireturn dX7_limitOf_37 rfl rfl
end
