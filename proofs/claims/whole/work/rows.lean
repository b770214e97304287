section
/-- a private method of a class that the tables say can be made, by its rows of tables_1 -/
def lw_okq (q : MethodName × Nat) : Prop := (q.1.cls ≠ "java/lang/invoke/MethodHandle" ∧ q.1.cls ≠ "java/lang/invoke/VarHandle") ∧ Cond.instantiable q.1.cls q.2 ∈ tables_1 ∧ Cond.privateMethod q.1 ∈ tables_1 ∧ Cond.instanceMethod q.1 ∈ tables_1
theorem lw_p0 : lw_okq (⟨"OneBack$Reader", "begin", "([BI)V"⟩, 16) := ⟨⟨by decide +kernel, by decide +kernel⟩, List.mem_of_getElem? (i := 241) (by decide +kernel), List.mem_of_getElem? (i := 472) (by decide +kernel), List.mem_of_getElem? (i := 473) (by decide +kernel)⟩
theorem lw_p1 : lw_okq (⟨"OneBack$Reader", "step", "()V"⟩, 16) := ⟨⟨by decide +kernel, by decide +kernel⟩, List.mem_of_getElem? (i := 241) (by decide +kernel), List.mem_of_getElem? (i := 486) (by decide +kernel), List.mem_of_getElem? (i := 487) (by decide +kernel)⟩
theorem lw_p2 : lw_okq (⟨"OneBack$Reader", "byteAt", "(I)I"⟩, 16) := ⟨⟨by decide +kernel, by decide +kernel⟩, List.mem_of_getElem? (i := 241) (by decide +kernel), List.mem_of_getElem? (i := 490) (by decide +kernel), List.mem_of_getElem? (i := 491) (by decide +kernel)⟩
theorem lw_p3 : lw_okq (⟨"OneBack$Reader", "stepNumber", "()V"⟩, 16) := ⟨⟨by decide +kernel, by decide +kernel⟩, List.mem_of_getElem? (i := 241) (by decide +kernel), List.mem_of_getElem? (i := 503) (by decide +kernel), List.mem_of_getElem? (i := 504) (by decide +kernel)⟩
theorem lw_p4 : lw_okq (⟨"OneBack$Reader", "readLine", "(I)V"⟩, 16) := ⟨⟨by decide +kernel, by decide +kernel⟩, List.mem_of_getElem? (i := 241) (by decide +kernel), List.mem_of_getElem? (i := 507) (by decide +kernel), List.mem_of_getElem? (i := 508) (by decide +kernel)⟩
theorem lw_p5 : lw_okq (⟨"OneBack$Reader", "lineOf", "(I)I"⟩, 16) := ⟨⟨by decide +kernel, by decide +kernel⟩, List.mem_of_getElem? (i := 241) (by decide +kernel), List.mem_of_getElem? (i := 511) (by decide +kernel), List.mem_of_getElem? (i := 512) (by decide +kernel)⟩
theorem lw_p6 : lw_okq (⟨"OneBack$Reader", "isWord", "(Ljava/lang/String;)Z"⟩, 16) := ⟨⟨by decide +kernel, by decide +kernel⟩, List.mem_of_getElem? (i := 241) (by decide +kernel), List.mem_of_getElem? (i := 539) (by decide +kernel), List.mem_of_getElem? (i := 540) (by decide +kernel)⟩
theorem lw_p7 : lw_okq (⟨"OneBack$Reader", "breakOff", "()V"⟩, 16) := ⟨⟨by decide +kernel, by decide +kernel⟩, List.mem_of_getElem? (i := 241) (by decide +kernel), List.mem_of_getElem? (i := 591) (by decide +kernel), List.mem_of_getElem? (i := 592) (by decide +kernel)⟩
theorem lw_p8 : lw_okq (⟨"OneBack$Reader", "isFull", "(I)Z"⟩, 16) := ⟨⟨by decide +kernel, by decide +kernel⟩, List.mem_of_getElem? (i := 241) (by decide +kernel), List.mem_of_getElem? (i := 595) (by decide +kernel), List.mem_of_getElem? (i := 596) (by decide +kernel)⟩
theorem lw_p9 : lw_okq (⟨"OneBack$Reader", "note", "(II)V"⟩, 16) := ⟨⟨by decide +kernel, by decide +kernel⟩, List.mem_of_getElem? (i := 241) (by decide +kernel), List.mem_of_getElem? (i := 599) (by decide +kernel), List.mem_of_getElem? (i := 600) (by decide +kernel)⟩
theorem lw_p10 : lw_okq (⟨"OneBack$Reader", "readNumber", "(II)V"⟩, 16) := ⟨⟨by decide +kernel, by decide +kernel⟩, List.mem_of_getElem? (i := 241) (by decide +kernel), List.mem_of_getElem? (i := 605) (by decide +kernel), List.mem_of_getElem? (i := 606) (by decide +kernel)⟩
theorem lw_p11 : lw_okq (⟨"OneBack$Reader", "keepLine", "(I)V"⟩, 16) := ⟨⟨by decide +kernel, by decide +kernel⟩, List.mem_of_getElem? (i := 241) (by decide +kernel), List.mem_of_getElem? (i := 613) (by decide +kernel), List.mem_of_getElem? (i := 614) (by decide +kernel)⟩
theorem lw_p12 : lw_okq (⟨"OneBack$Reader", "keepTown", "(I)V"⟩, 16) := ⟨⟨by decide +kernel, by decide +kernel⟩, List.mem_of_getElem? (i := 241) (by decide +kernel), List.mem_of_getElem? (i := 617) (by decide +kernel), List.mem_of_getElem? (i := 618) (by decide +kernel)⟩
theorem lw_p13 : lw_okq (⟨"OneBack$Reader", "keepLaw", "(I)V"⟩, 16) := ⟨⟨by decide +kernel, by decide +kernel⟩, List.mem_of_getElem? (i := 241) (by decide +kernel), List.mem_of_getElem? (i := 631) (by decide +kernel), List.mem_of_getElem? (i := 632) (by decide +kernel)⟩
theorem lw_p14 : lw_okq (⟨"OneBack", "walkTo", "(IIII)Z"⟩, 6) := ⟨⟨by decide +kernel, by decide +kernel⟩, List.mem_of_getElem? (i := 21) (by decide +kernel), List.mem_of_getElem? (i := 735) (by decide +kernel), List.mem_of_getElem? (i := 736) (by decide +kernel)⟩
theorem lw_p15 : lw_okq (⟨"OneBack$Walk", "act", "(LOneBack$Nights;I)Z"⟩, 17) := ⟨⟨by decide +kernel, by decide +kernel⟩, List.mem_of_getElem? (i := 310) (by decide +kernel), List.mem_of_getElem? (i := 750) (by decide +kernel), List.mem_of_getElem? (i := 751) (by decide +kernel)⟩
def lw_privs_1 : List (MethodName × Nat) := [(⟨"OneBack$Reader", "begin", "([BI)V"⟩, 16), (⟨"OneBack$Reader", "step", "()V"⟩, 16), (⟨"OneBack$Reader", "byteAt", "(I)I"⟩, 16), (⟨"OneBack$Reader", "stepNumber", "()V"⟩, 16), (⟨"OneBack$Reader", "readLine", "(I)V"⟩, 16), (⟨"OneBack$Reader", "lineOf", "(I)I"⟩, 16), (⟨"OneBack$Reader", "isWord", "(Ljava/lang/String;)Z"⟩, 16), (⟨"OneBack$Reader", "breakOff", "()V"⟩, 16), (⟨"OneBack$Reader", "isFull", "(I)Z"⟩, 16), (⟨"OneBack$Reader", "note", "(II)V"⟩, 16), (⟨"OneBack$Reader", "readNumber", "(II)V"⟩, 16), (⟨"OneBack$Reader", "keepLine", "(I)V"⟩, 16), (⟨"OneBack$Reader", "keepTown", "(I)V"⟩, 16), (⟨"OneBack$Reader", "keepLaw", "(I)V"⟩, 16), (⟨"OneBack", "walkTo", "(IIII)Z"⟩, 6), (⟨"OneBack$Walk", "act", "(LOneBack$Nights;I)Z"⟩, 17)]
theorem lw_r1 : ∀ q ∈ lw_privs_1, lw_okq q := List.forall_mem_cons.mpr ⟨lw_p0, List.forall_mem_cons.mpr ⟨lw_p1, List.forall_mem_cons.mpr ⟨lw_p2, List.forall_mem_cons.mpr ⟨lw_p3, List.forall_mem_cons.mpr ⟨lw_p4, List.forall_mem_cons.mpr ⟨lw_p5, List.forall_mem_cons.mpr ⟨lw_p6, List.forall_mem_cons.mpr ⟨lw_p7, List.forall_mem_cons.mpr ⟨lw_p8, List.forall_mem_cons.mpr ⟨lw_p9, List.forall_mem_cons.mpr ⟨lw_p10, List.forall_mem_cons.mpr ⟨lw_p11, List.forall_mem_cons.mpr ⟨lw_p12, List.forall_mem_cons.mpr ⟨lw_p13, List.forall_mem_cons.mpr ⟨lw_p14, List.forall_mem_cons.mpr ⟨lw_p15, fun _ h => absurd h List.not_mem_nil⟩⟩⟩⟩⟩⟩⟩⟩⟩⟩⟩⟩⟩⟩⟩⟩
theorem lw_p16 : lw_okq (⟨"OneBack", "walkJust", "(IIII)Z"⟩, 6) := ⟨⟨by decide +kernel, by decide +kernel⟩, List.mem_of_getElem? (i := 21) (by decide +kernel), List.mem_of_getElem? (i := 802) (by decide +kernel), List.mem_of_getElem? (i := 803) (by decide +kernel)⟩
theorem lw_p17 : lw_okq (⟨"OneBack$Supply", "carryGood", "(LOneBack$Town;I)I"⟩, 2) := ⟨⟨by decide +kernel, by decide +kernel⟩, List.mem_of_getElem? (i := 385) (by decide +kernel), List.mem_of_getElem? (i := 896) (by decide +kernel), List.mem_of_getElem? (i := 897) (by decide +kernel)⟩
theorem lw_p18 : lw_okq (⟨"OneBack$Supply", "leastOf", "(II)I"⟩, 2) := ⟨⟨by decide +kernel, by decide +kernel⟩, List.mem_of_getElem? (i := 385) (by decide +kernel), List.mem_of_getElem? (i := 903) (by decide +kernel), List.mem_of_getElem? (i := 904) (by decide +kernel)⟩
theorem lw_p19 : lw_okq (⟨"OneBack$Sight", "alike", "(III)I"⟩, 4) := ⟨⟨by decide +kernel, by decide +kernel⟩, List.mem_of_getElem? (i := 175) (by decide +kernel), List.mem_of_getElem? (i := 950) (by decide +kernel), List.mem_of_getElem? (i := 951) (by decide +kernel)⟩
theorem lw_p20 : lw_okq (⟨"OneBack$Sight", "waysOf", "(LOneBack$Walk;III)I"⟩, 4) := ⟨⟨by decide +kernel, by decide +kernel⟩, List.mem_of_getElem? (i := 175) (by decide +kernel), List.mem_of_getElem? (i := 954) (by decide +kernel), List.mem_of_getElem? (i := 955) (by decide +kernel)⟩
theorem lw_p21 : lw_okq (⟨"OneBack$Sight", "isTold", "(LOneBack$Town;I)Z"⟩, 4) := ⟨⟨by decide +kernel, by decide +kernel⟩, List.mem_of_getElem? (i := 175) (by decide +kernel), List.mem_of_getElem? (i := 976) (by decide +kernel), List.mem_of_getElem? (i := 977) (by decide +kernel)⟩
theorem lw_p22 : lw_okq (⟨"OneBack$Sight", "movedOf", "(LOneBack$Town;IZ)I"⟩, 4) := ⟨⟨by decide +kernel, by decide +kernel⟩, List.mem_of_getElem? (i := 175) (by decide +kernel), List.mem_of_getElem? (i := 981) (by decide +kernel), List.mem_of_getElem? (i := 982) (by decide +kernel)⟩
theorem lw_p23 : lw_okq (⟨"OneBack$Town", "isBest", "(II)Z"⟩, 10) := ⟨⟨by decide +kernel, by decide +kernel⟩, List.mem_of_getElem? (i := 42) (by decide +kernel), List.mem_of_getElem? (i := 1029) (by decide +kernel), List.mem_of_getElem? (i := 1030) (by decide +kernel)⟩
theorem lw_p24 : lw_okq (⟨"OneBack$Walk", "drawDeeds", "(I)V"⟩, 17) := ⟨⟨by decide +kernel, by decide +kernel⟩, List.mem_of_getElem? (i := 310) (by decide +kernel), List.mem_of_getElem? (i := 1060) (by decide +kernel), List.mem_of_getElem? (i := 1061) (by decide +kernel)⟩
theorem lw_p25 : lw_okq (⟨"OneBack$Walk", "drawBelow", "(I)I"⟩, 17) := ⟨⟨by decide +kernel, by decide +kernel⟩, List.mem_of_getElem? (i := 310) (by decide +kernel), List.mem_of_getElem? (i := 1064) (by decide +kernel), List.mem_of_getElem? (i := 1065) (by decide +kernel)⟩
theorem lw_p26 : lw_okq (⟨"OneBack$Walk", "giveLeast", "(I)Z"⟩, 17) := ⟨⟨by decide +kernel, by decide +kernel⟩, List.mem_of_getElem? (i := 310) (by decide +kernel), List.mem_of_getElem? (i := 1069) (by decide +kernel), List.mem_of_getElem? (i := 1070) (by decide +kernel)⟩
theorem lw_p27 : lw_okq (⟨"OneBack$Porter", "pick", "(IIII)V"⟩, 5) := ⟨⟨by decide +kernel, by decide +kernel⟩, List.mem_of_getElem? (i := 398) (by decide +kernel), List.mem_of_getElem? (i := 1126) (by decide +kernel), List.mem_of_getElem? (i := 1127) (by decide +kernel)⟩
theorem lw_p28 : lw_okq (⟨"OneBackModel", "four", "(I)V"⟩, 51) := ⟨⟨by decide +kernel, by decide +kernel⟩, List.mem_of_getElem? (i := 1182) (by decide +kernel), List.mem_of_getElem? (i := 1347) (by decide +kernel), List.mem_of_getElem? (i := 1348) (by decide +kernel)⟩
theorem lw_p29 : lw_okq (⟨"OneBackModel", "is", "(II)Z"⟩, 51) := ⟨⟨by decide +kernel, by decide +kernel⟩, List.mem_of_getElem? (i := 1182) (by decide +kernel), List.mem_of_getElem? (i := 1362) (by decide +kernel), List.mem_of_getElem? (i := 1363) (by decide +kernel)⟩
theorem lw_p30 : lw_okq (⟨"OneBackModel", "readText", "(I)Z"⟩, 51) := ⟨⟨by decide +kernel, by decide +kernel⟩, List.mem_of_getElem? (i := 1182) (by decide +kernel), List.mem_of_getElem? (i := 1366) (by decide +kernel), List.mem_of_getElem? (i := 1367) (by decide +kernel)⟩
theorem lw_p31 : lw_okq (⟨"OneBackModel", "blank", "(I)V"⟩, 51) := ⟨⟨by decide +kernel, by decide +kernel⟩, List.mem_of_getElem? (i := 1182) (by decide +kernel), List.mem_of_getElem? (i := 1370) (by decide +kernel), List.mem_of_getElem? (i := 1371) (by decide +kernel)⟩
def lw_privs_2 : List (MethodName × Nat) := [(⟨"OneBack", "walkJust", "(IIII)Z"⟩, 6), (⟨"OneBack$Supply", "carryGood", "(LOneBack$Town;I)I"⟩, 2), (⟨"OneBack$Supply", "leastOf", "(II)I"⟩, 2), (⟨"OneBack$Sight", "alike", "(III)I"⟩, 4), (⟨"OneBack$Sight", "waysOf", "(LOneBack$Walk;III)I"⟩, 4), (⟨"OneBack$Sight", "isTold", "(LOneBack$Town;I)Z"⟩, 4), (⟨"OneBack$Sight", "movedOf", "(LOneBack$Town;IZ)I"⟩, 4), (⟨"OneBack$Town", "isBest", "(II)Z"⟩, 10), (⟨"OneBack$Walk", "drawDeeds", "(I)V"⟩, 17), (⟨"OneBack$Walk", "drawBelow", "(I)I"⟩, 17), (⟨"OneBack$Walk", "giveLeast", "(I)Z"⟩, 17), (⟨"OneBack$Porter", "pick", "(IIII)V"⟩, 5), (⟨"OneBackModel", "four", "(I)V"⟩, 51), (⟨"OneBackModel", "is", "(II)Z"⟩, 51), (⟨"OneBackModel", "readText", "(I)Z"⟩, 51), (⟨"OneBackModel", "blank", "(I)V"⟩, 51)]
theorem lw_r2 : ∀ q ∈ lw_privs_2, lw_okq q := List.forall_mem_cons.mpr ⟨lw_p16, List.forall_mem_cons.mpr ⟨lw_p17, List.forall_mem_cons.mpr ⟨lw_p18, List.forall_mem_cons.mpr ⟨lw_p19, List.forall_mem_cons.mpr ⟨lw_p20, List.forall_mem_cons.mpr ⟨lw_p21, List.forall_mem_cons.mpr ⟨lw_p22, List.forall_mem_cons.mpr ⟨lw_p23, List.forall_mem_cons.mpr ⟨lw_p24, List.forall_mem_cons.mpr ⟨lw_p25, List.forall_mem_cons.mpr ⟨lw_p26, List.forall_mem_cons.mpr ⟨lw_p27, List.forall_mem_cons.mpr ⟨lw_p28, List.forall_mem_cons.mpr ⟨lw_p29, List.forall_mem_cons.mpr ⟨lw_p30, List.forall_mem_cons.mpr ⟨lw_p31, fun _ h => absurd h List.not_mem_nil⟩⟩⟩⟩⟩⟩⟩⟩⟩⟩⟩⟩⟩⟩⟩⟩
theorem lw_p32 : lw_okq (⟨"OneBackModel", "blankTown", "()V"⟩, 51) := ⟨⟨by decide +kernel, by decide +kernel⟩, List.mem_of_getElem? (i := 1182) (by decide +kernel), List.mem_of_getElem? (i := 1374) (by decide +kernel), List.mem_of_getElem? (i := 1375) (by decide +kernel)⟩
theorem lw_p33 : lw_okq (⟨"OneBackModel", "token", "()V"⟩, 51) := ⟨⟨by decide +kernel, by decide +kernel⟩, List.mem_of_getElem? (i := 1182) (by decide +kernel), List.mem_of_getElem? (i := 1378) (by decide +kernel), List.mem_of_getElem? (i := 1379) (by decide +kernel)⟩
theorem lw_p34 : lw_okq (⟨"OneBackModel", "see", "()I"⟩, 51) := ⟨⟨by decide +kernel, by decide +kernel⟩, List.mem_of_getElem? (i := 1182) (by decide +kernel), List.mem_of_getElem? (i := 1382) (by decide +kernel), List.mem_of_getElem? (i := 1383) (by decide +kernel)⟩
theorem lw_p35 : lw_okq (⟨"OneBackModel", "lines", "(I)Z"⟩, 51) := ⟨⟨by decide +kernel, by decide +kernel⟩, List.mem_of_getElem? (i := 1182) (by decide +kernel), List.mem_of_getElem? (i := 1386) (by decide +kernel), List.mem_of_getElem? (i := 1387) (by decide +kernel)⟩
theorem lw_p36 : lw_okq (⟨"OneBackModel", "lineOf", "(IJI)Z"⟩, 51) := ⟨⟨by decide +kernel, by decide +kernel⟩, List.mem_of_getElem? (i := 1182) (by decide +kernel), List.mem_of_getElem? (i := 1390) (by decide +kernel), List.mem_of_getElem? (i := 1391) (by decide +kernel)⟩
theorem lw_p37 : lw_okq (⟨"OneBackModel", "townLine", "(JI)Z"⟩, 51) := ⟨⟨by decide +kernel, by decide +kernel⟩, List.mem_of_getElem? (i := 1182) (by decide +kernel), List.mem_of_getElem? (i := 1394) (by decide +kernel), List.mem_of_getElem? (i := 1395) (by decide +kernel)⟩
theorem lw_p38 : lw_okq (⟨"OneBackModel", "fails", "()Z"⟩, 51) := ⟨⟨by decide +kernel, by decide +kernel⟩, List.mem_of_getElem? (i := 1182) (by decide +kernel), List.mem_of_getElem? (i := 1407) (by decide +kernel), List.mem_of_getElem? (i := 1408) (by decide +kernel)⟩
theorem lw_p39 : lw_okq (⟨"OneBackModel", "full", "(III)V"⟩, 51) := ⟨⟨by decide +kernel, by decide +kernel⟩, List.mem_of_getElem? (i := 1182) (by decide +kernel), List.mem_of_getElem? (i := 1411) (by decide +kernel), List.mem_of_getElem? (i := 1412) (by decide +kernel)⟩
theorem lw_p40 : lw_okq (⟨"OneBackModel", "later", "(II)V"⟩, 51) := ⟨⟨by decide +kernel, by decide +kernel⟩, List.mem_of_getElem? (i := 1182) (by decide +kernel), List.mem_of_getElem? (i := 1415) (by decide +kernel), List.mem_of_getElem? (i := 1416) (by decide +kernel)⟩
theorem lw_p41 : lw_okq (⟨"OneBackModel", "goodsLine", "(I)Z"⟩, 51) := ⟨⟨by decide +kernel, by decide +kernel⟩, List.mem_of_getElem? (i := 1182) (by decide +kernel), List.mem_of_getElem? (i := 1419) (by decide +kernel), List.mem_of_getElem? (i := 1420) (by decide +kernel)⟩
theorem lw_p42 : lw_okq (⟨"OneBackModel", "takeHouse", "(I)Z"⟩, 51) := ⟨⟨by decide +kernel, by decide +kernel⟩, List.mem_of_getElem? (i := 1182) (by decide +kernel), List.mem_of_getElem? (i := 1423) (by decide +kernel), List.mem_of_getElem? (i := 1424) (by decide +kernel)⟩
theorem lw_p43 : lw_okq (⟨"OneBackModel", "take", "(III)Z"⟩, 51) := ⟨⟨by decide +kernel, by decide +kernel⟩, List.mem_of_getElem? (i := 1182) (by decide +kernel), List.mem_of_getElem? (i := 1427) (by decide +kernel), List.mem_of_getElem? (i := 1428) (by decide +kernel)⟩
theorem lw_p44 : lw_okq (⟨"OneBackModel", "takeBut", "(IIII)Z"⟩, 51) := ⟨⟨by decide +kernel, by decide +kernel⟩, List.mem_of_getElem? (i := 1182) (by decide +kernel), List.mem_of_getElem? (i := 1431) (by decide +kernel), List.mem_of_getElem? (i := 1432) (by decide +kernel)⟩
theorem lw_p45 : lw_okq (⟨"OneBackModel", "lay", "(II)V"⟩, 51) := ⟨⟨by decide +kernel, by decide +kernel⟩, List.mem_of_getElem? (i := 1182) (by decide +kernel), List.mem_of_getElem? (i := 1438) (by decide +kernel), List.mem_of_getElem? (i := 1439) (by decide +kernel)⟩
theorem lw_p46 : lw_okq (⟨"OneBackModel", "houseLine", "(J)Z"⟩, 51) := ⟨⟨by decide +kernel, by decide +kernel⟩, List.mem_of_getElem? (i := 1182) (by decide +kernel), List.mem_of_getElem? (i := 1442) (by decide +kernel), List.mem_of_getElem? (i := 1443) (by decide +kernel)⟩
theorem lw_p47 : lw_okq (⟨"OneBackModel", "goodLine", "(J)Z"⟩, 51) := ⟨⟨by decide +kernel, by decide +kernel⟩, List.mem_of_getElem? (i := 1182) (by decide +kernel), List.mem_of_getElem? (i := 1446) (by decide +kernel), List.mem_of_getElem? (i := 1447) (by decide +kernel)⟩
def lw_privs_3 : List (MethodName × Nat) := [(⟨"OneBackModel", "blankTown", "()V"⟩, 51), (⟨"OneBackModel", "token", "()V"⟩, 51), (⟨"OneBackModel", "see", "()I"⟩, 51), (⟨"OneBackModel", "lines", "(I)Z"⟩, 51), (⟨"OneBackModel", "lineOf", "(IJI)Z"⟩, 51), (⟨"OneBackModel", "townLine", "(JI)Z"⟩, 51), (⟨"OneBackModel", "fails", "()Z"⟩, 51), (⟨"OneBackModel", "full", "(III)V"⟩, 51), (⟨"OneBackModel", "later", "(II)V"⟩, 51), (⟨"OneBackModel", "goodsLine", "(I)Z"⟩, 51), (⟨"OneBackModel", "takeHouse", "(I)Z"⟩, 51), (⟨"OneBackModel", "take", "(III)Z"⟩, 51), (⟨"OneBackModel", "takeBut", "(IIII)Z"⟩, 51), (⟨"OneBackModel", "lay", "(II)V"⟩, 51), (⟨"OneBackModel", "houseLine", "(J)Z"⟩, 51), (⟨"OneBackModel", "goodLine", "(J)Z"⟩, 51)]
theorem lw_r3 : ∀ q ∈ lw_privs_3, lw_okq q := List.forall_mem_cons.mpr ⟨lw_p32, List.forall_mem_cons.mpr ⟨lw_p33, List.forall_mem_cons.mpr ⟨lw_p34, List.forall_mem_cons.mpr ⟨lw_p35, List.forall_mem_cons.mpr ⟨lw_p36, List.forall_mem_cons.mpr ⟨lw_p37, List.forall_mem_cons.mpr ⟨lw_p38, List.forall_mem_cons.mpr ⟨lw_p39, List.forall_mem_cons.mpr ⟨lw_p40, List.forall_mem_cons.mpr ⟨lw_p41, List.forall_mem_cons.mpr ⟨lw_p42, List.forall_mem_cons.mpr ⟨lw_p43, List.forall_mem_cons.mpr ⟨lw_p44, List.forall_mem_cons.mpr ⟨lw_p45, List.forall_mem_cons.mpr ⟨lw_p46, List.forall_mem_cons.mpr ⟨lw_p47, fun _ h => absurd h List.not_mem_nil⟩⟩⟩⟩⟩⟩⟩⟩⟩⟩⟩⟩⟩⟩⟩⟩
theorem lw_p48 : lw_okq (⟨"OneBackModel", "sonLine", "()Z"⟩, 51) := ⟨⟨by decide +kernel, by decide +kernel⟩, List.mem_of_getElem? (i := 1182) (by decide +kernel), List.mem_of_getElem? (i := 1450) (by decide +kernel), List.mem_of_getElem? (i := 1451) (by decide +kernel)⟩
theorem lw_p49 : lw_okq (⟨"OneBackModel", "keep", "(IIII)V"⟩, 51) := ⟨⟨by decide +kernel, by decide +kernel⟩, List.mem_of_getElem? (i := 1182) (by decide +kernel), List.mem_of_getElem? (i := 1454) (by decide +kernel), List.mem_of_getElem? (i := 1455) (by decide +kernel)⟩
theorem lw_p50 : lw_okq (⟨"OneBackModel", "lawLine", "(J)Z"⟩, 51) := ⟨⟨by decide +kernel, by decide +kernel⟩, List.mem_of_getElem? (i := 1182) (by decide +kernel), List.mem_of_getElem? (i := 1458) (by decide +kernel), List.mem_of_getElem? (i := 1459) (by decide +kernel)⟩
theorem lw_p51 : lw_okq (⟨"OneBackModel", "nightsLine", "(JI)Z"⟩, 51) := ⟨⟨by decide +kernel, by decide +kernel⟩, List.mem_of_getElem? (i := 1182) (by decide +kernel), List.mem_of_getElem? (i := 1465) (by decide +kernel), List.mem_of_getElem? (i := 1466) (by decide +kernel)⟩
theorem lw_p52 : lw_okq (⟨"OneBackModel", "sightLine", "(JI)Z"⟩, 51) := ⟨⟨by decide +kernel, by decide +kernel⟩, List.mem_of_getElem? (i := 1182) (by decide +kernel), List.mem_of_getElem? (i := 1473) (by decide +kernel), List.mem_of_getElem? (i := 1474) (by decide +kernel)⟩
theorem lw_p53 : lw_okq (⟨"OneBackModel", "storeAll", "(II)V"⟩, 51) := ⟨⟨by decide +kernel, by decide +kernel⟩, List.mem_of_getElem? (i := 1182) (by decide +kernel), List.mem_of_getElem? (i := 1479) (by decide +kernel), List.mem_of_getElem? (i := 1480) (by decide +kernel)⟩
theorem lw_p54 : lw_okq (⟨"OneBackModel", "store", "([III)V"⟩, 51) := ⟨⟨by decide +kernel, by decide +kernel⟩, List.mem_of_getElem? (i := 1182) (by decide +kernel), List.mem_of_getElem? (i := 1483) (by decide +kernel), List.mem_of_getElem? (i := 1484) (by decide +kernel)⟩
theorem lw_p55 : lw_okq (⟨"OneBackModel", "hand", "(I)Z"⟩, 51) := ⟨⟨by decide +kernel, by decide +kernel⟩, List.mem_of_getElem? (i := 1182) (by decide +kernel), List.mem_of_getElem? (i := 1495) (by decide +kernel), List.mem_of_getElem? (i := 1496) (by decide +kernel)⟩
theorem lw_p56 : lw_okq (⟨"OneBackModel", "of", "(I)I"⟩, 51) := ⟨⟨by decide +kernel, by decide +kernel⟩, List.mem_of_getElem? (i := 1182) (by decide +kernel), List.mem_of_getElem? (i := 1499) (by decide +kernel), List.mem_of_getElem? (i := 1500) (by decide +kernel)⟩
theorem lw_p57 : lw_okq (⟨"OneBackModel", "isHouse", "(I)Z"⟩, 51) := ⟨⟨by decide +kernel, by decide +kernel⟩, List.mem_of_getElem? (i := 1182) (by decide +kernel), List.mem_of_getElem? (i := 1503) (by decide +kernel), List.mem_of_getElem? (i := 1504) (by decide +kernel)⟩
theorem lw_p58 : lw_okq (⟨"OneBackModel", "isThief", "(I)Z"⟩, 51) := ⟨⟨by decide +kernel, by decide +kernel⟩, List.mem_of_getElem? (i := 1182) (by decide +kernel), List.mem_of_getElem? (i := 1510) (by decide +kernel), List.mem_of_getElem? (i := 1511) (by decide +kernel)⟩
theorem lw_p59 : lw_okq (⟨"OneBackModel", "spare", "(II)I"⟩, 51) := ⟨⟨by decide +kernel, by decide +kernel⟩, List.mem_of_getElem? (i := 1182) (by decide +kernel), List.mem_of_getElem? (i := 1518) (by decide +kernel), List.mem_of_getElem? (i := 1519) (by decide +kernel)⟩
theorem lw_p60 : lw_okq (⟨"OneBackModel", "lacks", "(II)I"⟩, 51) := ⟨⟨by decide +kernel, by decide +kernel⟩, List.mem_of_getElem? (i := 1182) (by decide +kernel), List.mem_of_getElem? (i := 1522) (by decide +kernel), List.mem_of_getElem? (i := 1523) (by decide +kernel)⟩
theorem lw_p61 : lw_okq (⟨"OneBackModel", "hasLaw", "(I)Z"⟩, 51) := ⟨⟨by decide +kernel, by decide +kernel⟩, List.mem_of_getElem? (i := 1182) (by decide +kernel), List.mem_of_getElem? (i := 1530) (by decide +kernel), List.mem_of_getElem? (i := 1531) (by decide +kernel)⟩
theorem lw_p62 : lw_okq (⟨"OneBackModel", "lawOf", "(I)I"⟩, 51) := ⟨⟨by decide +kernel, by decide +kernel⟩, List.mem_of_getElem? (i := 1182) (by decide +kernel), List.mem_of_getElem? (i := 1534) (by decide +kernel), List.mem_of_getElem? (i := 1535) (by decide +kernel)⟩
theorem lw_p63 : lw_okq (⟨"OneBackModel", "isDouble", "(I)Z"⟩, 51) := ⟨⟨by decide +kernel, by decide +kernel⟩, List.mem_of_getElem? (i := 1182) (by decide +kernel), List.mem_of_getElem? (i := 1538) (by decide +kernel), List.mem_of_getElem? (i := 1539) (by decide +kernel)⟩
def lw_privs_4 : List (MethodName × Nat) := [(⟨"OneBackModel", "sonLine", "()Z"⟩, 51), (⟨"OneBackModel", "keep", "(IIII)V"⟩, 51), (⟨"OneBackModel", "lawLine", "(J)Z"⟩, 51), (⟨"OneBackModel", "nightsLine", "(JI)Z"⟩, 51), (⟨"OneBackModel", "sightLine", "(JI)Z"⟩, 51), (⟨"OneBackModel", "storeAll", "(II)V"⟩, 51), (⟨"OneBackModel", "store", "([III)V"⟩, 51), (⟨"OneBackModel", "hand", "(I)Z"⟩, 51), (⟨"OneBackModel", "of", "(I)I"⟩, 51), (⟨"OneBackModel", "isHouse", "(I)Z"⟩, 51), (⟨"OneBackModel", "isThief", "(I)Z"⟩, 51), (⟨"OneBackModel", "spare", "(II)I"⟩, 51), (⟨"OneBackModel", "lacks", "(II)I"⟩, 51), (⟨"OneBackModel", "hasLaw", "(I)Z"⟩, 51), (⟨"OneBackModel", "lawOf", "(I)I"⟩, 51), (⟨"OneBackModel", "isDouble", "(I)Z"⟩, 51)]
theorem lw_r4 : ∀ q ∈ lw_privs_4, lw_okq q := List.forall_mem_cons.mpr ⟨lw_p48, List.forall_mem_cons.mpr ⟨lw_p49, List.forall_mem_cons.mpr ⟨lw_p50, List.forall_mem_cons.mpr ⟨lw_p51, List.forall_mem_cons.mpr ⟨lw_p52, List.forall_mem_cons.mpr ⟨lw_p53, List.forall_mem_cons.mpr ⟨lw_p54, List.forall_mem_cons.mpr ⟨lw_p55, List.forall_mem_cons.mpr ⟨lw_p56, List.forall_mem_cons.mpr ⟨lw_p57, List.forall_mem_cons.mpr ⟨lw_p58, List.forall_mem_cons.mpr ⟨lw_p59, List.forall_mem_cons.mpr ⟨lw_p60, List.forall_mem_cons.mpr ⟨lw_p61, List.forall_mem_cons.mpr ⟨lw_p62, List.forall_mem_cons.mpr ⟨lw_p63, fun _ h => absurd h List.not_mem_nil⟩⟩⟩⟩⟩⟩⟩⟩⟩⟩⟩⟩⟩⟩⟩⟩
theorem lw_p64 : lw_okq (⟨"OneBackModel", "hasNights", "(I)Z"⟩, 51) := ⟨⟨by decide +kernel, by decide +kernel⟩, List.mem_of_getElem? (i := 1182) (by decide +kernel), List.mem_of_getElem? (i := 1549) (by decide +kernel), List.mem_of_getElem? (i := 1550) (by decide +kernel)⟩
theorem lw_p65 : lw_okq (⟨"OneBackModel", "deeds", "()I"⟩, 51) := ⟨⟨by decide +kernel, by decide +kernel⟩, List.mem_of_getElem? (i := 1182) (by decide +kernel), List.mem_of_getElem? (i := 1553) (by decide +kernel), List.mem_of_getElem? (i := 1554) (by decide +kernel)⟩
theorem lw_p66 : lw_okq (⟨"OneBackModel", "deedOf", "(II)I"⟩, 51) := ⟨⟨by decide +kernel, by decide +kernel⟩, List.mem_of_getElem? (i := 1182) (by decide +kernel), List.mem_of_getElem? (i := 1557) (by decide +kernel), List.mem_of_getElem? (i := 1558) (by decide +kernel)⟩
theorem lw_p67 : lw_okq (⟨"OneBackModel", "layAll", "(III)Z"⟩, 51) := ⟨⟨by decide +kernel, by decide +kernel⟩, List.mem_of_getElem? (i := 1182) (by decide +kernel), List.mem_of_getElem? (i := 1565) (by decide +kernel), List.mem_of_getElem? (i := 1566) (by decide +kernel)⟩
theorem lw_p68 : lw_okq (⟨"OneBackModel", "play", "(I)I"⟩, 51) := ⟨⟨by decide +kernel, by decide +kernel⟩, List.mem_of_getElem? (i := 1182) (by decide +kernel), List.mem_of_getElem? (i := 1569) (by decide +kernel), List.mem_of_getElem? (i := 1570) (by decide +kernel)⟩
theorem lw_p69 : lw_okq (⟨"OneBackModel", "begin", "()V"⟩, 51) := ⟨⟨by decide +kernel, by decide +kernel⟩, List.mem_of_getElem? (i := 1182) (by decide +kernel), List.mem_of_getElem? (i := 1573) (by decide +kernel), List.mem_of_getElem? (i := 1574) (by decide +kernel)⟩
theorem lw_p70 : lw_okq (⟨"OneBackModel", "does", "(I)Z"⟩, 51) := ⟨⟨by decide +kernel, by decide +kernel⟩, List.mem_of_getElem? (i := 1182) (by decide +kernel), List.mem_of_getElem? (i := 1577) (by decide +kernel), List.mem_of_getElem? (i := 1578) (by decide +kernel)⟩
theorem lw_p71 : lw_okq (⟨"OneBackModel", "takes", "(III)Z"⟩, 51) := ⟨⟨by decide +kernel, by decide +kernel⟩, List.mem_of_getElem? (i := 1182) (by decide +kernel), List.mem_of_getElem? (i := 1581) (by decide +kernel), List.mem_of_getElem? (i := 1582) (by decide +kernel)⟩
theorem lw_p72 : lw_okq (⟨"OneBackModel", "isFree", "(I)Z"⟩, 51) := ⟨⟨by decide +kernel, by decide +kernel⟩, List.mem_of_getElem? (i := 1182) (by decide +kernel), List.mem_of_getElem? (i := 1585) (by decide +kernel), List.mem_of_getElem? (i := 1586) (by decide +kernel)⟩
theorem lw_p73 : lw_okq (⟨"OneBackModel", "gives", "(III)Z"⟩, 51) := ⟨⟨by decide +kernel, by decide +kernel⟩, List.mem_of_getElem? (i := 1182) (by decide +kernel), List.mem_of_getElem? (i := 1592) (by decide +kernel), List.mem_of_getElem? (i := 1593) (by decide +kernel)⟩
theorem lw_p74 : lw_okq (⟨"OneBackModel", "mayGive", "(III)Z"⟩, 51) := ⟨⟨by decide +kernel, by decide +kernel⟩, List.mem_of_getElem? (i := 1182) (by decide +kernel), List.mem_of_getElem? (i := 1596) (by decide +kernel), List.mem_of_getElem? (i := 1597) (by decide +kernel)⟩
theorem lw_p75 : lw_okq (⟨"OneBackModel", "sets", "(III)Z"⟩, 51) := ⟨⟨by decide +kernel, by decide +kernel⟩, List.mem_of_getElem? (i := 1182) (by decide +kernel), List.mem_of_getElem? (i := 1600) (by decide +kernel), List.mem_of_getElem? (i := 1601) (by decide +kernel)⟩
theorem lw_p76 : lw_okq (⟨"OneBackModel", "owes", "(I)I"⟩, 51) := ⟨⟨by decide +kernel, by decide +kernel⟩, List.mem_of_getElem? (i := 1182) (by decide +kernel), List.mem_of_getElem? (i := 1604) (by decide +kernel), List.mem_of_getElem? (i := 1605) (by decide +kernel)⟩
theorem lw_p77 : lw_okq (⟨"OneBackModel", "ends", "()V"⟩, 51) := ⟨⟨by decide +kernel, by decide +kernel⟩, List.mem_of_getElem? (i := 1182) (by decide +kernel), List.mem_of_getElem? (i := 1608) (by decide +kernel), List.mem_of_getElem? (i := 1609) (by decide +kernel)⟩
theorem lw_p78 : lw_okq (⟨"OneBackModel", "layState", "(IIII)Z"⟩, 51) := ⟨⟨by decide +kernel, by decide +kernel⟩, List.mem_of_getElem? (i := 1182) (by decide +kernel), List.mem_of_getElem? (i := 1616) (by decide +kernel), List.mem_of_getElem? (i := 1617) (by decide +kernel)⟩
theorem lw_p79 : lw_okq (⟨"OneBackModel", "queued", "(I)I"⟩, 51) := ⟨⟨by decide +kernel, by decide +kernel⟩, List.mem_of_getElem? (i := 1182) (by decide +kernel), List.mem_of_getElem? (i := 1620) (by decide +kernel), List.mem_of_getElem? (i := 1621) (by decide +kernel)⟩
def lw_privs_5 : List (MethodName × Nat) := [(⟨"OneBackModel", "hasNights", "(I)Z"⟩, 51), (⟨"OneBackModel", "deeds", "()I"⟩, 51), (⟨"OneBackModel", "deedOf", "(II)I"⟩, 51), (⟨"OneBackModel", "layAll", "(III)Z"⟩, 51), (⟨"OneBackModel", "play", "(I)I"⟩, 51), (⟨"OneBackModel", "begin", "()V"⟩, 51), (⟨"OneBackModel", "does", "(I)Z"⟩, 51), (⟨"OneBackModel", "takes", "(III)Z"⟩, 51), (⟨"OneBackModel", "isFree", "(I)Z"⟩, 51), (⟨"OneBackModel", "gives", "(III)Z"⟩, 51), (⟨"OneBackModel", "mayGive", "(III)Z"⟩, 51), (⟨"OneBackModel", "sets", "(III)Z"⟩, 51), (⟨"OneBackModel", "owes", "(I)I"⟩, 51), (⟨"OneBackModel", "ends", "()V"⟩, 51), (⟨"OneBackModel", "layState", "(IIII)Z"⟩, 51), (⟨"OneBackModel", "queued", "(I)I"⟩, 51)]
theorem lw_r5 : ∀ q ∈ lw_privs_5, lw_okq q := List.forall_mem_cons.mpr ⟨lw_p64, List.forall_mem_cons.mpr ⟨lw_p65, List.forall_mem_cons.mpr ⟨lw_p66, List.forall_mem_cons.mpr ⟨lw_p67, List.forall_mem_cons.mpr ⟨lw_p68, List.forall_mem_cons.mpr ⟨lw_p69, List.forall_mem_cons.mpr ⟨lw_p70, List.forall_mem_cons.mpr ⟨lw_p71, List.forall_mem_cons.mpr ⟨lw_p72, List.forall_mem_cons.mpr ⟨lw_p73, List.forall_mem_cons.mpr ⟨lw_p74, List.forall_mem_cons.mpr ⟨lw_p75, List.forall_mem_cons.mpr ⟨lw_p76, List.forall_mem_cons.mpr ⟨lw_p77, List.forall_mem_cons.mpr ⟨lw_p78, List.forall_mem_cons.mpr ⟨lw_p79, fun _ h => absurd h List.not_mem_nil⟩⟩⟩⟩⟩⟩⟩⟩⟩⟩⟩⟩⟩⟩⟩⟩
theorem lw_p80 : lw_okq (⟨"OneBackModel", "odd", "(I)I"⟩, 51) := ⟨⟨by decide +kernel, by decide +kernel⟩, List.mem_of_getElem? (i := 1182) (by decide +kernel), List.mem_of_getElem? (i := 1624) (by decide +kernel), List.mem_of_getElem? (i := 1625) (by decide +kernel)⟩
theorem lw_p81 : lw_okq (⟨"OneBackModel", "ofState", "(I)I"⟩, 51) := ⟨⟨by decide +kernel, by decide +kernel⟩, List.mem_of_getElem? (i := 1182) (by decide +kernel), List.mem_of_getElem? (i := 1628) (by decide +kernel), List.mem_of_getElem? (i := 1629) (by decide +kernel)⟩
theorem lw_p82 : lw_okq (⟨"OneBackModel", "want", "()I"⟩, 51) := ⟨⟨by decide +kernel, by decide +kernel⟩, List.mem_of_getElem? (i := 1182) (by decide +kernel), List.mem_of_getElem? (i := 1632) (by decide +kernel), List.mem_of_getElem? (i := 1633) (by decide +kernel)⟩
theorem lw_p83 : lw_okq (⟨"OneBackModel", "pious", "()I"⟩, 51) := ⟨⟨by decide +kernel, by decide +kernel⟩, List.mem_of_getElem? (i := 1182) (by decide +kernel), List.mem_of_getElem? (i := 1636) (by decide +kernel), List.mem_of_getElem? (i := 1637) (by decide +kernel)⟩
theorem lw_p84 : lw_okq (⟨"OneBackModel", "ofEach", "(I)I"⟩, 51) := ⟨⟨by decide +kernel, by decide +kernel⟩, List.mem_of_getElem? (i := 1182) (by decide +kernel), List.mem_of_getElem? (i := 1640) (by decide +kernel), List.mem_of_getElem? (i := 1641) (by decide +kernel)⟩
theorem lw_p85 : lw_okq (⟨"OneBackModel", "findAid", "()Z"⟩, 51) := ⟨⟨by decide +kernel, by decide +kernel⟩, List.mem_of_getElem? (i := 1182) (by decide +kernel), List.mem_of_getElem? (i := 1652) (by decide +kernel), List.mem_of_getElem? (i := 1653) (by decide +kernel)⟩
theorem lw_p86 : lw_okq (⟨"OneBackModel", "aidGood", "(I)Z"⟩, 51) := ⟨⟨by decide +kernel, by decide +kernel⟩, List.mem_of_getElem? (i := 1182) (by decide +kernel), List.mem_of_getElem? (i := 1656) (by decide +kernel), List.mem_of_getElem? (i := 1657) (by decide +kernel)⟩
theorem lw_p87 : lw_okq (⟨"OneBackModel", "aidNights", "()I"⟩, 51) := ⟨⟨by decide +kernel, by decide +kernel⟩, List.mem_of_getElem? (i := 1182) (by decide +kernel), List.mem_of_getElem? (i := 1663) (by decide +kernel), List.mem_of_getElem? (i := 1664) (by decide +kernel)⟩
theorem lw_p88 : lw_okq (⟨"OneBackModel", "carryGood", "(I)I"⟩, 51) := ⟨⟨by decide +kernel, by decide +kernel⟩, List.mem_of_getElem? (i := 1182) (by decide +kernel), List.mem_of_getElem? (i := 1671) (by decide +kernel), List.mem_of_getElem? (i := 1672) (by decide +kernel)⟩
theorem lw_p89 : lw_okq (⟨"OneBackModel", "carryOn", "(II)V"⟩, 51) := ⟨⟨by decide +kernel, by decide +kernel⟩, List.mem_of_getElem? (i := 1182) (by decide +kernel), List.mem_of_getElem? (i := 1676) (by decide +kernel), List.mem_of_getElem? (i := 1677) (by decide +kernel)⟩
theorem lw_p90 : lw_okq (⟨"OneBackModel", "roundOf", "(I)I"⟩, 51) := ⟨⟨by decide +kernel, by decide +kernel⟩, List.mem_of_getElem? (i := 1182) (by decide +kernel), List.mem_of_getElem? (i := 1687) (by decide +kernel), List.mem_of_getElem? (i := 1688) (by decide +kernel)⟩
theorem lw_p91 : lw_okq (⟨"OneBackModel", "hasSight", "(I)Z"⟩, 51) := ⟨⟨by decide +kernel, by decide +kernel⟩, List.mem_of_getElem? (i := 1182) (by decide +kernel), List.mem_of_getElem? (i := 1702) (by decide +kernel), List.mem_of_getElem? (i := 1703) (by decide +kernel)⟩
theorem lw_p92 : lw_okq (⟨"OneBackModel", "gifts", "()I"⟩, 51) := ⟨⟨by decide +kernel, by decide +kernel⟩, List.mem_of_getElem? (i := 1182) (by decide +kernel), List.mem_of_getElem? (i := 1706) (by decide +kernel), List.mem_of_getElem? (i := 1707) (by decide +kernel)⟩
theorem lw_p93 : lw_okq (⟨"OneBackModel", "giftOf", "(II)I"⟩, 51) := ⟨⟨by decide +kernel, by decide +kernel⟩, List.mem_of_getElem? (i := 1182) (by decide +kernel), List.mem_of_getElem? (i := 1710) (by decide +kernel), List.mem_of_getElem? (i := 1711) (by decide +kernel)⟩
theorem lw_p94 : lw_okq (⟨"OneBackModel", "left", "(II)I"⟩, 51) := ⟨⟨by decide +kernel, by decide +kernel⟩, List.mem_of_getElem? (i := 1182) (by decide +kernel), List.mem_of_getElem? (i := 1714) (by decide +kernel), List.mem_of_getElem? (i := 1715) (by decide +kernel)⟩
theorem lw_p95 : lw_okq (⟨"OneBackModel", "canBe", "(I)Z"⟩, 51) := ⟨⟨by decide +kernel, by decide +kernel⟩, List.mem_of_getElem? (i := 1182) (by decide +kernel), List.mem_of_getElem? (i := 1722) (by decide +kernel), List.mem_of_getElem? (i := 1723) (by decide +kernel)⟩
def lw_privs_6 : List (MethodName × Nat) := [(⟨"OneBackModel", "odd", "(I)I"⟩, 51), (⟨"OneBackModel", "ofState", "(I)I"⟩, 51), (⟨"OneBackModel", "want", "()I"⟩, 51), (⟨"OneBackModel", "pious", "()I"⟩, 51), (⟨"OneBackModel", "ofEach", "(I)I"⟩, 51), (⟨"OneBackModel", "findAid", "()Z"⟩, 51), (⟨"OneBackModel", "aidGood", "(I)Z"⟩, 51), (⟨"OneBackModel", "aidNights", "()I"⟩, 51), (⟨"OneBackModel", "carryGood", "(I)I"⟩, 51), (⟨"OneBackModel", "carryOn", "(II)V"⟩, 51), (⟨"OneBackModel", "roundOf", "(I)I"⟩, 51), (⟨"OneBackModel", "hasSight", "(I)Z"⟩, 51), (⟨"OneBackModel", "gifts", "()I"⟩, 51), (⟨"OneBackModel", "giftOf", "(II)I"⟩, 51), (⟨"OneBackModel", "left", "(II)I"⟩, 51), (⟨"OneBackModel", "canBe", "(I)Z"⟩, 51)]
theorem lw_r6 : ∀ q ∈ lw_privs_6, lw_okq q := List.forall_mem_cons.mpr ⟨lw_p80, List.forall_mem_cons.mpr ⟨lw_p81, List.forall_mem_cons.mpr ⟨lw_p82, List.forall_mem_cons.mpr ⟨lw_p83, List.forall_mem_cons.mpr ⟨lw_p84, List.forall_mem_cons.mpr ⟨lw_p85, List.forall_mem_cons.mpr ⟨lw_p86, List.forall_mem_cons.mpr ⟨lw_p87, List.forall_mem_cons.mpr ⟨lw_p88, List.forall_mem_cons.mpr ⟨lw_p89, List.forall_mem_cons.mpr ⟨lw_p90, List.forall_mem_cons.mpr ⟨lw_p91, List.forall_mem_cons.mpr ⟨lw_p92, List.forall_mem_cons.mpr ⟨lw_p93, List.forall_mem_cons.mpr ⟨lw_p94, List.forall_mem_cons.mpr ⟨lw_p95, fun _ h => absurd h List.not_mem_nil⟩⟩⟩⟩⟩⟩⟩⟩⟩⟩⟩⟩⟩⟩⟩⟩
theorem lw_p96 : lw_okq (⟨"OneBackModel", "isToldAll", "(I)Z"⟩, 51) := ⟨⟨by decide +kernel, by decide +kernel⟩, List.mem_of_getElem? (i := 1182) (by decide +kernel), List.mem_of_getElem? (i := 1733) (by decide +kernel), List.mem_of_getElem? (i := 1734) (by decide +kernel)⟩
theorem lw_p97 : lw_okq (⟨"OneBackModel", "giftsBy", "(IIII)I"⟩, 51) := ⟨⟨by decide +kernel, by decide +kernel⟩, List.mem_of_getElem? (i := 1182) (by decide +kernel), List.mem_of_getElem? (i := 1741) (by decide +kernel), List.mem_of_getElem? (i := 1742) (by decide +kernel)⟩
theorem lw_p98 : lw_okq (⟨"OneBackModel", "doubles", "(II)I"⟩, 51) := ⟨⟨by decide +kernel, by decide +kernel⟩, List.mem_of_getElem? (i := 1182) (by decide +kernel), List.mem_of_getElem? (i := 1745) (by decide +kernel), List.mem_of_getElem? (i := 1746) (by decide +kernel)⟩
theorem lw_p99 : lw_okq (⟨"OneBackModel", "prizeOf", "(II)I"⟩, 51) := ⟨⟨by decide +kernel, by decide +kernel⟩, List.mem_of_getElem? (i := 1182) (by decide +kernel), List.mem_of_getElem? (i := 1757) (by decide +kernel), List.mem_of_getElem? (i := 1758) (by decide +kernel)⟩
theorem lw_p100 : lw_okq (⟨"OneBackModel", "worthOf", "(I)I"⟩, 51) := ⟨⟨by decide +kernel, by decide +kernel⟩, List.mem_of_getElem? (i := 1182) (by decide +kernel), List.mem_of_getElem? (i := 1761) (by decide +kernel), List.mem_of_getElem? (i := 1762) (by decide +kernel)⟩
theorem lw_p101 : lw_okq (⟨"OneBackModel", "isRest", "(II)Z"⟩, 51) := ⟨⟨by decide +kernel, by decide +kernel⟩, List.mem_of_getElem? (i := 1182) (by decide +kernel), List.mem_of_getElem? (i := 1769) (by decide +kernel), List.mem_of_getElem? (i := 1770) (by decide +kernel)⟩
theorem lw_p102 : lw_okq (⟨"OneBackModel", "drawThief", "(I)V"⟩, 51) := ⟨⟨by decide +kernel, by decide +kernel⟩, List.mem_of_getElem? (i := 1182) (by decide +kernel), List.mem_of_getElem? (i := 1788) (by decide +kernel), List.mem_of_getElem? (i := 1789) (by decide +kernel)⟩
theorem lw_p103 : lw_okq (⟨"OneBackModel", "draw", "(I)I"⟩, 51) := ⟨⟨by decide +kernel, by decide +kernel⟩, List.mem_of_getElem? (i := 1182) (by decide +kernel), List.mem_of_getElem? (i := 1792) (by decide +kernel), List.mem_of_getElem? (i := 1793) (by decide +kernel)⟩
theorem lw_p104 : lw_okq (⟨"OneBackModel", "givesOne", "(I)Z"⟩, 51) := ⟨⟨by decide +kernel, by decide +kernel⟩, List.mem_of_getElem? (i := 1182) (by decide +kernel), List.mem_of_getElem? (i := 1797) (by decide +kernel), List.mem_of_getElem? (i := 1798) (by decide +kernel)⟩
theorem lw_p105 : lw_okq (⟨"OneBackModel", "can", "(I)I"⟩, 51) := ⟨⟨by decide +kernel, by decide +kernel⟩, List.mem_of_getElem? (i := 1182) (by decide +kernel), List.mem_of_getElem? (i := 1805) (by decide +kernel), List.mem_of_getElem? (i := 1806) (by decide +kernel)⟩
theorem lw_p106 : lw_okq (⟨"OneBackModel", "wealthOf", "(I)I"⟩, 51) := ⟨⟨by decide +kernel, by decide +kernel⟩, List.mem_of_getElem? (i := 1182) (by decide +kernel), List.mem_of_getElem? (i := 1809) (by decide +kernel), List.mem_of_getElem? (i := 1810) (by decide +kernel)⟩
theorem lw_p107 : lw_okq (⟨"OneBackModel", "ranked", "(I)I"⟩, 51) := ⟨⟨by decide +kernel, by decide +kernel⟩, List.mem_of_getElem? (i := 1182) (by decide +kernel), List.mem_of_getElem? (i := 1813) (by decide +kernel), List.mem_of_getElem? (i := 1814) (by decide +kernel)⟩
theorem lw_p108 : lw_okq (⟨"OneBackModel", "settle", "()I"⟩, 51) := ⟨⟨by decide +kernel, by decide +kernel⟩, List.mem_of_getElem? (i := 1182) (by decide +kernel), List.mem_of_getElem? (i := 1817) (by decide +kernel), List.mem_of_getElem? (i := 1818) (by decide +kernel)⟩
theorem lw_p109 : lw_okq (⟨"OneBackModel", "areKin", "(II)Z"⟩, 51) := ⟨⟨by decide +kernel, by decide +kernel⟩, List.mem_of_getElem? (i := 1182) (by decide +kernel), List.mem_of_getElem? (i := 1821) (by decide +kernel), List.mem_of_getElem? (i := 1822) (by decide +kernel)⟩
theorem lw_p110 : lw_okq (⟨"OneBackModel", "gap", "()I"⟩, 51) := ⟨⟨by decide +kernel, by decide +kernel⟩, List.mem_of_getElem? (i := 1182) (by decide +kernel), List.mem_of_getElem? (i := 1825) (by decide +kernel), List.mem_of_getElem? (i := 1826) (by decide +kernel)⟩
theorem lw_p111 : lw_okq (⟨"OneBackModel", "unlike", "(Z)I"⟩, 51) := ⟨⟨by decide +kernel, by decide +kernel⟩, List.mem_of_getElem? (i := 1182) (by decide +kernel), List.mem_of_getElem? (i := 1829) (by decide +kernel), List.mem_of_getElem? (i := 1830) (by decide +kernel)⟩
def lw_privs_7 : List (MethodName × Nat) := [(⟨"OneBackModel", "isToldAll", "(I)Z"⟩, 51), (⟨"OneBackModel", "giftsBy", "(IIII)I"⟩, 51), (⟨"OneBackModel", "doubles", "(II)I"⟩, 51), (⟨"OneBackModel", "prizeOf", "(II)I"⟩, 51), (⟨"OneBackModel", "worthOf", "(I)I"⟩, 51), (⟨"OneBackModel", "isRest", "(II)Z"⟩, 51), (⟨"OneBackModel", "drawThief", "(I)V"⟩, 51), (⟨"OneBackModel", "draw", "(I)I"⟩, 51), (⟨"OneBackModel", "givesOne", "(I)Z"⟩, 51), (⟨"OneBackModel", "can", "(I)I"⟩, 51), (⟨"OneBackModel", "wealthOf", "(I)I"⟩, 51), (⟨"OneBackModel", "ranked", "(I)I"⟩, 51), (⟨"OneBackModel", "settle", "()I"⟩, 51), (⟨"OneBackModel", "areKin", "(II)Z"⟩, 51), (⟨"OneBackModel", "gap", "()I"⟩, 51), (⟨"OneBackModel", "unlike", "(Z)I"⟩, 51)]
theorem lw_r7 : ∀ q ∈ lw_privs_7, lw_okq q := List.forall_mem_cons.mpr ⟨lw_p96, List.forall_mem_cons.mpr ⟨lw_p97, List.forall_mem_cons.mpr ⟨lw_p98, List.forall_mem_cons.mpr ⟨lw_p99, List.forall_mem_cons.mpr ⟨lw_p100, List.forall_mem_cons.mpr ⟨lw_p101, List.forall_mem_cons.mpr ⟨lw_p102, List.forall_mem_cons.mpr ⟨lw_p103, List.forall_mem_cons.mpr ⟨lw_p104, List.forall_mem_cons.mpr ⟨lw_p105, List.forall_mem_cons.mpr ⟨lw_p106, List.forall_mem_cons.mpr ⟨lw_p107, List.forall_mem_cons.mpr ⟨lw_p108, List.forall_mem_cons.mpr ⟨lw_p109, List.forall_mem_cons.mpr ⟨lw_p110, List.forall_mem_cons.mpr ⟨lw_p111, fun _ h => absurd h List.not_mem_nil⟩⟩⟩⟩⟩⟩⟩⟩⟩⟩⟩⟩⟩⟩⟩⟩
theorem lw_p112 : lw_okq (⟨"OneBackModel", "robbed", "()I"⟩, 51) := ⟨⟨by decide +kernel, by decide +kernel⟩, List.mem_of_getElem? (i := 1182) (by decide +kernel), List.mem_of_getElem? (i := 1833) (by decide +kernel), List.mem_of_getElem? (i := 1834) (by decide +kernel)⟩
theorem lw_p113 : lw_okq (⟨"OneBackModel", "haulWorth", "(IIII)I"⟩, 51) := ⟨⟨by decide +kernel, by decide +kernel⟩, List.mem_of_getElem? (i := 1182) (by decide +kernel), List.mem_of_getElem? (i := 1842) (by decide +kernel), List.mem_of_getElem? (i := 1843) (by decide +kernel)⟩
theorem lw_p114 : lw_okq (⟨"OneBackModel", "limits", "(I)I"⟩, 51) := ⟨⟨by decide +kernel, by decide +kernel⟩, List.mem_of_getElem? (i := 1182) (by decide +kernel), List.mem_of_getElem? (i := 1853) (by decide +kernel), List.mem_of_getElem? (i := 1854) (by decide +kernel)⟩
theorem lw_p115 : lw_okq (⟨"OneBackModel", "heads", "(I)I"⟩, 51) := ⟨⟨by decide +kernel, by decide +kernel⟩, List.mem_of_getElem? (i := 1182) (by decide +kernel), List.mem_of_getElem? (i := 1857) (by decide +kernel), List.mem_of_getElem? (i := 1858) (by decide +kernel)⟩
theorem lw_p116 : lw_okq (⟨"OneBackModel", "helps", "(II)Z"⟩, 51) := ⟨⟨by decide +kernel, by decide +kernel⟩, List.mem_of_getElem? (i := 1182) (by decide +kernel), List.mem_of_getElem? (i := 1865) (by decide +kernel), List.mem_of_getElem? (i := 1866) (by decide +kernel)⟩
theorem lw_p117 : lw_okq (⟨"OneBackModel", "copyAll", "(II)V"⟩, 51) := ⟨⟨by decide +kernel, by decide +kernel⟩, List.mem_of_getElem? (i := 1182) (by decide +kernel), List.mem_of_getElem? (i := 1877) (by decide +kernel), List.mem_of_getElem? (i := 1878) (by decide +kernel)⟩
def lw_privs_8 : List (MethodName × Nat) := [(⟨"OneBackModel", "robbed", "()I"⟩, 51), (⟨"OneBackModel", "haulWorth", "(IIII)I"⟩, 51), (⟨"OneBackModel", "limits", "(I)I"⟩, 51), (⟨"OneBackModel", "heads", "(I)I"⟩, 51), (⟨"OneBackModel", "helps", "(II)Z"⟩, 51), (⟨"OneBackModel", "copyAll", "(II)V"⟩, 51)]
theorem lw_r8 : ∀ q ∈ lw_privs_8, lw_okq q := List.forall_mem_cons.mpr ⟨lw_p112, List.forall_mem_cons.mpr ⟨lw_p113, List.forall_mem_cons.mpr ⟨lw_p114, List.forall_mem_cons.mpr ⟨lw_p115, List.forall_mem_cons.mpr ⟨lw_p116, List.forall_mem_cons.mpr ⟨lw_p117, fun _ h => absurd h List.not_mem_nil⟩⟩⟩⟩⟩⟩
def lw_privs : List (MethodName × Nat) := lw_privs_1 ++ (lw_privs_2 ++ (lw_privs_3 ++ (lw_privs_4 ++ (lw_privs_5 ++ (lw_privs_6 ++ (lw_privs_7 ++ (lw_privs_8)))))))
def lw_tbl : List Cond := k2_sels lw_privs ++ tables_1
theorem lw_privs_ok : ∀ q ∈ lw_privs, lw_okq q := by
  show ∀ q ∈ lw_privs_1 ++ (lw_privs_2 ++ (lw_privs_3 ++ (lw_privs_4 ++ (lw_privs_5 ++ (lw_privs_6 ++ (lw_privs_7 ++ (lw_privs_8))))))), lw_okq q
  exact List.forall_mem_append.mpr ⟨lw_r1, List.forall_mem_append.mpr ⟨lw_r2, List.forall_mem_append.mpr ⟨lw_r3, List.forall_mem_append.mpr ⟨lw_r4, List.forall_mem_append.mpr ⟨lw_r5, List.forall_mem_append.mpr ⟨lw_r6, List.forall_mem_append.mpr ⟨lw_r7, lw_r8⟩⟩⟩⟩⟩⟩⟩
def GT : List Cond := lw_tbl.filter goodWord
theorem GT_good : GoodIn GT GT := fun w hw => ⟨hw, good_of_word (List.mem_filter.mp hw).2⟩
theorem GT_lw {w : Cond} (h : w ∈ GT) : w ∈ lw_tbl := (List.mem_filter.mp h).1
theorem GT_t {w : Cond} (i : Nat) (h : tables_1[i]? = some w) (hg : goodWord w = true) : w ∈ GT := List.mem_filter.mpr ⟨List.mem_append_right _ (List.mem_of_getElem? h), hg⟩
theorem GT_p {q : MethodName × Nat} (i : Nat) (h : lw_privs[i]? = some q) : Cond.selects q.1.cls q.1 q.1 ∈ GT := List.mem_filter.mpr ⟨List.mem_append_left _ (List.mem_map.mpr ⟨q, List.mem_of_getElem? h, rfl⟩), rfl⟩
end
section
def RX0 : String := "OneBack$Law"
def TX0 : u_T := fun k => match k with
  | 0 => ("OneBack$Law", "rate", "I", false)
  | 1 => ("OneBack$Law", "limit", "I", false)
  | _ => ("OneBack$Law", "doubles", "I", false)
def tyX0 : Nat → FieldType := fun k => match k with
  | 0 => .int
  | 1 => .int
  | _ => .int
theorem nmX0 : ∀ a, a < 3 → ∀ b, b < 3 → a ≠ b → (TX0 a).2.1 ≠ (TX0 b).2.1 := by decide +kernel
theorem tyX0_ok : ∀ k, k < 3 → parseFieldDescriptor (TX0 k).2.2.1 = some (tyX0 k) := by decide +kernel
abbrev cX0_init : ByteArray := prog_2_method_1_code
def yX0_init : MethodName := ⟨RX0, "<init>", "()V"⟩
abbrev cX0_clear : ByteArray := prog_2_method_2_code
def yX0_clear : MethodName := ⟨RX0, "clear", "()V"⟩
abbrev cX0_copy : ByteArray := prog_2_method_3_code
def yX0_copy : MethodName := ⟨RX0, "copy", "(LOneBack$Law;)V"⟩
abbrev cX0_counts : ByteArray := prog_2_method_4_code
def yX0_counts : MethodName := ⟨RX0, "counts", "(I)I"⟩
abbrev cX0_dueOf : ByteArray := prog_2_method_5_code
def yX0_dueOf : MethodName := ⟨RX0, "dueOf", "(I)I"⟩
abbrev cX0_oddOf : ByteArray := prog_2_method_6_code
def yX0_oddOf : MethodName := ⟨RX0, "oddOf", "(I)I"⟩
abbrev cX0_firstQuit : ByteArray := prog_2_method_7_code
def yX0_firstQuit : MethodName := ⟨RX0, "firstQuit", "(III)I"⟩
abbrev cX0_fewestGifts : ByteArray := prog_2_method_8_code
def yX0_fewestGifts : MethodName := ⟨RX0, "fewestGifts", "(IIII)I"⟩
def RX1 : String := "OneBack$Nights"
def TX1 : u_T := fun k => match k with
  | 0 => ("OneBack$Nights", "size", "I", false)
  | 1 => ("OneBack$Nights", "kind", "[I", true)
  | 2 => ("OneBack$Nights", "first", "[I", true)
  | 3 => ("OneBack$Nights", "second", "[I", true)
  | _ => ("OneBack$Nights", "third", "[I", true)
def tyX1 : Nat → FieldType := fun k => match k with
  | 0 => .int
  | 1 => .array .int
  | 2 => .array .int
  | 3 => .array .int
  | _ => .array .int
theorem nmX1 : ∀ a, a < 5 → ∀ b, b < 5 → a ≠ b → (TX1 a).2.1 ≠ (TX1 b).2.1 := by decide +kernel
theorem tyX1_ok : ∀ k, k < 5 → parseFieldDescriptor (TX1 k).2.2.1 = some (tyX1 k) := by decide +kernel
abbrev cX1_init : ByteArray := prog_3_method_1_code
def yX1_init : MethodName := ⟨RX1, "<init>", "()V"⟩
abbrev cX1_clear : ByteArray := prog_3_method_2_code
def yX1_clear : MethodName := ⟨RX1, "clear", "()V"⟩
abbrev cX1_add : ByteArray := prog_3_method_3_code
def yX1_add : MethodName := ⟨RX1, "add", "(IIII)V"⟩
abbrev cX1_copy : ByteArray := prog_3_method_4_code
def yX1_copy : MethodName := ⟨RX1, "copy", "(LOneBack$Nights;)V"⟩
def RX2 : String := "OneBack$Porter"
def TX2 : u_T := fun k => match k with
  | 0 => ("OneBack$Porter", "best", "[I", true)
  | 1 => ("OneBack$Porter", "bestWorth", "I", false)
  | 2 => ("OneBack$Porter", "picked", "[I", true)
  | 3 => ("OneBack$Porter", "town", "LOneBack$Town;", false)
  | _ => ("OneBack$Porter", "house", "I", false)
def tyX2 : Nat → FieldType := fun k => match k with
  | 0 => .array .int
  | 1 => .int
  | 2 => .array .int
  | 3 => .object "OneBack$Town"
  | _ => .int
theorem nmX2 : ∀ a, a < 5 → ∀ b, b < 5 → a ≠ b → (TX2 a).2.1 ≠ (TX2 b).2.1 := by decide +kernel
theorem tyX2_ok : ∀ k, k < 5 → parseFieldDescriptor (TX2 k).2.2.1 = some (tyX2 k) := by decide +kernel
abbrev cX2_init : ByteArray := prog_4_method_1_code
def yX2_init : MethodName := ⟨RX2, "<init>", "(LOneBack$Town;)V"⟩
abbrev cX2_choose : ByteArray := prog_4_method_2_code
def yX2_choose : MethodName := ⟨RX2, "choose", "(LOneBack$Town;III)V"⟩
abbrev cX2_pick : ByteArray := prog_4_method_3_code
def yX2_pick : MethodName := ⟨RX2, "pick", "(IIII)V"⟩
def RX3 : String := "OneBack$Reader"
def TX3 : u_T := fun k => match k with
  | 0 => ("OneBack$Reader", "fault", "I", false)
  | 1 => ("OneBack$Reader", "place", "I", false)
  | 2 => ("OneBack$Reader", "town", "LOneBack$Town;", true)
  | 3 => ("OneBack$Reader", "law", "LOneBack$Law;", true)
  | 4 => ("OneBack$Reader", "nights", "LOneBack$Nights;", true)
  | 5 => ("OneBack$Reader", "sight", "LOneBack$Sight;", true)
  | 6 => ("OneBack$Reader", "tape", "[B", false)
  | 7 => ("OneBack$Reader", "length", "I", false)
  | 8 => ("OneBack$Reader", "next", "I", false)
  | 9 => ("OneBack$Reader", "token", "I", false)
  | 10 => ("OneBack$Reader", "start", "I", false)
  | 11 => ("OneBack$Reader", "value", "I", false)
  | 12 => ("OneBack$Reader", "numbers", "[I", true)
  | 13 => ("OneBack$Reader", "broken", "Z", false)
  | 14 => ("OneBack$Reader", "topHouse", "I", false)
  | _ => ("OneBack$Reader", "topThief", "I", false)
def tyX3 : Nat → FieldType := fun k => match k with
  | 0 => .int
  | 1 => .int
  | 2 => .object "OneBack$Town"
  | 3 => .object "OneBack$Law"
  | 4 => .object "OneBack$Nights"
  | 5 => .object "OneBack$Sight"
  | 6 => .array .byte
  | 7 => .int
  | 8 => .int
  | 9 => .int
  | 10 => .int
  | 11 => .int
  | 12 => .array .int
  | 13 => .boolean
  | 14 => .int
  | _ => .int
theorem nmX3 : ∀ a, a < 16 → ∀ b, b < 16 → a ≠ b → (TX3 a).2.1 ≠ (TX3 b).2.1 := by decide +kernel
theorem tyX3_ok : ∀ k, k < 16 → parseFieldDescriptor (TX3 k).2.2.1 = some (tyX3 k) := by decide +kernel
abbrev cX3_init : ByteArray := prog_5_method_1_code
def yX3_init : MethodName := ⟨RX3, "<init>", "()V"⟩
abbrev cX3_read : ByteArray := prog_5_method_2_code
def yX3_read : MethodName := ⟨RX3, "read", "([BII)V"⟩
abbrev cX3_begin : ByteArray := prog_5_method_3_code
def yX3_begin : MethodName := ⟨RX3, "begin", "([BI)V"⟩
abbrev cX3_note : ByteArray := prog_5_method_4_code
def yX3_note : MethodName := ⟨RX3, "note", "(II)V"⟩
abbrev cX3_breakOff : ByteArray := prog_5_method_5_code
def yX3_breakOff : MethodName := ⟨RX3, "breakOff", "()V"⟩
abbrev cX3_readLine : ByteArray := prog_5_method_6_code
def yX3_readLine : MethodName := ⟨RX3, "readLine", "(I)V"⟩
abbrev cX3_readNumber : ByteArray := prog_5_method_7_code
def yX3_readNumber : MethodName := ⟨RX3, "readNumber", "(II)V"⟩
abbrev cX3_isFull : ByteArray := prog_5_method_8_code
def yX3_isFull : MethodName := ⟨RX3, "isFull", "(I)Z"⟩
abbrev cX3_lineOf : ByteArray := prog_5_method_9_code
def yX3_lineOf : MethodName := ⟨RX3, "lineOf", "(I)I"⟩
abbrev cX3_wordOf : ByteArray := prog_5_method_10_code
def yX3_wordOf : MethodName := ⟨RX3, "wordOf", "(I)Ljava/lang/String;"⟩
abbrev cX3_isWord : ByteArray := prog_5_method_11_code
def yX3_isWord : MethodName := ⟨RX3, "isWord", "(Ljava/lang/String;)Z"⟩
abbrev cX3_keepLine : ByteArray := prog_5_method_12_code
def yX3_keepLine : MethodName := ⟨RX3, "keepLine", "(I)V"⟩
abbrev cX3_keepTown : ByteArray := prog_5_method_13_code
def yX3_keepTown : MethodName := ⟨RX3, "keepTown", "(I)V"⟩
abbrev cX3_keepLaw : ByteArray := prog_5_method_14_code
def yX3_keepLaw : MethodName := ⟨RX3, "keepLaw", "(I)V"⟩
abbrev cX3_step : ByteArray := prog_5_method_15_code
def yX3_step : MethodName := ⟨RX3, "step", "()V"⟩
abbrev cX3_stepNumber : ByteArray := prog_5_method_16_code
def yX3_stepNumber : MethodName := ⟨RX3, "stepNumber", "()V"⟩
abbrev cX3_byteAt : ByteArray := prog_5_method_17_code
def yX3_byteAt : MethodName := ⟨RX3, "byteAt", "(I)I"⟩
abbrev cX3_isBlank : ByteArray := prog_5_method_18_code
def yX3_isBlank : MethodName := ⟨RX3, "isBlank", "(I)Z"⟩
abbrev cX3_isLetter : ByteArray := prog_5_method_19_code
def yX3_isLetter : MethodName := ⟨RX3, "isLetter", "(I)Z"⟩
abbrev cX3_isDigit : ByteArray := prog_5_method_20_code
def yX3_isDigit : MethodName := ⟨RX3, "isDigit", "(I)Z"⟩
def RX4 : String := "OneBack$Sight"
def TX4 : u_T := fun k => match k with
  | 0 => ("OneBack$Sight", "size", "I", false)
  | 1 => ("OneBack$Sight", "house", "[I", true)
  | 2 => ("OneBack$Sight", "good", "[I", true)
  | _ => ("OneBack$Sight", "left", "[I", true)
def tyX4 : Nat → FieldType := fun k => match k with
  | 0 => .int
  | 1 => .array .int
  | 2 => .array .int
  | _ => .array .int
theorem nmX4 : ∀ a, a < 4 → ∀ b, b < 4 → a ≠ b → (TX4 a).2.1 ≠ (TX4 b).2.1 := by decide +kernel
theorem tyX4_ok : ∀ k, k < 4 → parseFieldDescriptor (TX4 k).2.2.1 = some (tyX4 k) := by decide +kernel
abbrev cX4_init : ByteArray := prog_6_method_1_code
def yX4_init : MethodName := ⟨RX4, "<init>", "()V"⟩
abbrev cX4_clear : ByteArray := prog_6_method_2_code
def yX4_clear : MethodName := ⟨RX4, "clear", "()V"⟩
abbrev cX4_add : ByteArray := prog_6_method_3_code
def yX4_add : MethodName := ⟨RX4, "add", "(II)V"⟩
abbrev cX4_copy : ByteArray := prog_6_method_4_code
def yX4_copy : MethodName := ⟨RX4, "copy", "(LOneBack$Sight;)V"⟩
abbrev cX4_ways : ByteArray := prog_6_method_5_code
def yX4_ways : MethodName := ⟨RX4, "ways", "(LOneBack$Walk;)I"⟩
abbrev cX4_alike : ByteArray := prog_6_method_6_code
def yX4_alike : MethodName := ⟨RX4, "alike", "(III)I"⟩
abbrev cX4_waysOf : ByteArray := prog_6_method_7_code
def yX4_waysOf : MethodName := ⟨RX4, "waysOf", "(LOneBack$Walk;III)I"⟩
abbrev cX4_choices : ByteArray := prog_6_method_8_code
def yX4_choices : MethodName := ⟨RX4, "choices", "(II)I"⟩
abbrev cX4_mayBe : ByteArray := prog_6_method_9_code
def yX4_mayBe : MethodName := ⟨RX4, "mayBe", "(LOneBack$Walk;I)I"⟩
abbrev cX4_movedFrom : ByteArray := prog_6_method_10_code
def yX4_movedFrom : MethodName := ⟨RX4, "movedFrom", "(LOneBack$Town;Z)I"⟩
abbrev cX4_isTold : ByteArray := prog_6_method_11_code
def yX4_isTold : MethodName := ⟨RX4, "isTold", "(LOneBack$Town;I)Z"⟩
abbrev cX4_movedOf : ByteArray := prog_6_method_12_code
def yX4_movedOf : MethodName := ⟨RX4, "movedOf", "(LOneBack$Town;IZ)I"⟩
def RX5 : String := "OneBack$Supply"
def TX5 : u_T := fun k => match k with
  | 0 => ("OneBack$Supply", "costs", "[I", false)
  | _ => ("OneBack$Supply", "nextCosts", "[I", false)
def tyX5 : Nat → FieldType := fun k => match k with
  | 0 => .array .int
  | _ => .array .int
theorem nmX5 : ∀ a, a < 2 → ∀ b, b < 2 → a ≠ b → (TX5 a).2.1 ≠ (TX5 b).2.1 := by decide +kernel
theorem tyX5_ok : ∀ k, k < 2 → parseFieldDescriptor (TX5 k).2.2.1 = some (tyX5 k) := by decide +kernel
abbrev cX5_init : ByteArray := prog_7_method_1_code
def yX5_init : MethodName := ⟨RX5, "<init>", "()V"⟩
abbrev cX5_isAsked : ByteArray := prog_7_method_2_code
def yX5_isAsked : MethodName := ⟨RX5, "isAsked", "(LOneBack$Town;I)Z"⟩
abbrev cX5_isEnough : ByteArray := prog_7_method_3_code
def yX5_isEnough : MethodName := ⟨RX5, "isEnough", "(LOneBack$Town;)Z"⟩
abbrev cX5_answer : ByteArray := prog_7_method_4_code
def yX5_answer : MethodName := ⟨RX5, "answer", "(LOneBack$Town;I)I"⟩
abbrev cX5_takenFrom : ByteArray := prog_7_method_5_code
def yX5_takenFrom : MethodName := ⟨RX5, "takenFrom", "(LOneBack$Town;II)I"⟩
abbrev cX5_nightsFor : ByteArray := prog_7_method_6_code
def yX5_nightsFor : MethodName := ⟨RX5, "nightsFor", "(II)I"⟩
abbrev cX5_carryAll : ByteArray := prog_7_method_7_code
def yX5_carryAll : MethodName := ⟨RX5, "carryAll", "(LOneBack$Town;)I"⟩
abbrev cX5_carryGood : ByteArray := prog_7_method_8_code
def yX5_carryGood : MethodName := ⟨RX5, "carryGood", "(LOneBack$Town;I)I"⟩
abbrev cX5_leastOf : ByteArray := prog_7_method_9_code
def yX5_leastOf : MethodName := ⟨RX5, "leastOf", "(II)I"⟩
def RX6 : String := "OneBack$Told"
def TX6 : u_T := fun k => match k with
  | 0 => ("OneBack$Told", "tape", "[B", true)
  | 1 => ("OneBack$Told", "length", "I", false)
  | 2 => ("OneBack$Told", "fault", "I", false)
  | 3 => ("OneBack$Told", "place", "I", false)
  | 4 => ("OneBack$Told", "counts", "[I", true)
  | 5 => ("OneBack$Told", "towns", "[LOneBack$Town;", true)
  | 6 => ("OneBack$Told", "laws", "[LOneBack$Law;", true)
  | 7 => ("OneBack$Told", "nights", "[LOneBack$Nights;", true)
  | _ => ("OneBack$Told", "sights", "[LOneBack$Sight;", true)
def tyX6 : Nat → FieldType := fun k => match k with
  | 0 => .array .byte
  | 1 => .int
  | 2 => .int
  | 3 => .int
  | 4 => .array .int
  | 5 => .array (.object "OneBack$Town")
  | 6 => .array (.object "OneBack$Law")
  | 7 => .array (.object "OneBack$Nights")
  | _ => .array (.object "OneBack$Sight")
theorem nmX6 : ∀ a, a < 9 → ∀ b, b < 9 → a ≠ b → (TX6 a).2.1 ≠ (TX6 b).2.1 := by decide +kernel
theorem tyX6_ok : ∀ k, k < 9 → parseFieldDescriptor (TX6 k).2.2.1 = some (tyX6 k) := by decide +kernel
abbrev cX6_init : ByteArray := prog_8_method_1_code
def yX6_init : MethodName := ⟨RX6, "<init>", "()V"⟩
abbrev cX6_put : ByteArray := prog_8_method_2_code
def yX6_put : MethodName := ⟨RX6, "put", "(I)V"⟩
abbrev cX6_isThere : ByteArray := prog_8_method_3_code
def yX6_isThere : MethodName := ⟨RX6, "isThere", "(II)Z"⟩
abbrev cX6_townAt : ByteArray := prog_8_method_4_code
def yX6_townAt : MethodName := ⟨RX6, "townAt", "(I)LOneBack$Town;"⟩
abbrev cX6_lawAt : ByteArray := prog_8_method_5_code
def yX6_lawAt : MethodName := ⟨RX6, "lawAt", "(I)LOneBack$Law;"⟩
abbrev cX6_nightsAt : ByteArray := prog_8_method_6_code
def yX6_nightsAt : MethodName := ⟨RX6, "nightsAt", "(I)LOneBack$Nights;"⟩
abbrev cX6_sightAt : ByteArray := prog_8_method_7_code
def yX6_sightAt : MethodName := ⟨RX6, "sightAt", "(I)LOneBack$Sight;"⟩
abbrev cX6_slot : ByteArray := prog_8_method_8_code
def yX6_slot : MethodName := ⟨RX6, "slot", "(II)I"⟩
abbrev cX6_keep : ByteArray := prog_8_method_9_code
def yX6_keep : MethodName := ⟨RX6, "keep", "(LOneBack$Reader;II)V"⟩
abbrev cX6_copy : ByteArray := prog_8_method_10_code
def yX6_copy : MethodName := ⟨RX6, "copy", "(LOneBack$Told;)V"⟩
def RX7 : String := "OneBack$Town"
def TX7 : u_T := fun k => match k with
  | 0 => ("OneBack$Town", "houses", "I", false)
  | 1 => ("OneBack$Town", "thieves", "I", false)
  | 2 => ("OneBack$Town", "has", "[I", true)
  | 3 => ("OneBack$Town", "needs", "[I", true)
  | 4 => ("OneBack$Town", "watch", "[I", true)
  | 5 => ("OneBack$Town", "passes", "[I", true)
  | 6 => ("OneBack$Town", "weight", "[I", true)
  | 7 => ("OneBack$Town", "worth", "[I", true)
  | 8 => ("OneBack$Town", "limit", "[I", true)
  | _ => ("OneBack$Town", "father", "[I", true)
def tyX7 : Nat → FieldType := fun k => match k with
  | 0 => .int
  | 1 => .int
  | 2 => .array .int
  | 3 => .array .int
  | 4 => .array .int
  | 5 => .array .int
  | 6 => .array .int
  | 7 => .array .int
  | 8 => .array .int
  | _ => .array .int
theorem nmX7 : ∀ a, a < 10 → ∀ b, b < 10 → a ≠ b → (TX7 a).2.1 ≠ (TX7 b).2.1 := by decide +kernel
theorem tyX7_ok : ∀ k, k < 10 → parseFieldDescriptor (TX7 k).2.2.1 = some (tyX7 k) := by decide +kernel
abbrev cX7_init : ByteArray := prog_9_method_1_code
def yX7_init : MethodName := ⟨RX7, "<init>", "()V"⟩
abbrev cX7_clear : ByteArray := prog_9_method_2_code
def yX7_clear : MethodName := ⟨RX7, "clear", "()V"⟩
abbrev cX7_copy : ByteArray := prog_9_method_3_code
def yX7_copy : MethodName := ⟨RX7, "copy", "(LOneBack$Town;)V"⟩
abbrev cX7_isHouse : ByteArray := prog_9_method_4_code
def yX7_isHouse : MethodName := ⟨RX7, "isHouse", "(I)Z"⟩
abbrev cX7_isThief : ByteArray := prog_9_method_5_code
def yX7_isThief : MethodName := ⟨RX7, "isThief", "(I)Z"⟩
abbrev cX7_addThief : ByteArray := prog_9_method_6_code
def yX7_addThief : MethodName := ⟨RX7, "addThief", "(I)V"⟩
abbrev cX7_areKin : ByteArray := prog_9_method_7_code
def yX7_areKin : MethodName := ⟨RX7, "areKin", "(II)Z"⟩
abbrev cX7_spareOf : ByteArray := prog_9_method_8_code
def yX7_spareOf : MethodName := ⟨RX7, "spareOf", "(II)I"⟩
abbrev cX7_lackOf : ByteArray := prog_9_method_9_code
def yX7_lackOf : MethodName := ⟨RX7, "lackOf", "(II)I"⟩
abbrev cX7_spareOfAll : ByteArray := prog_9_method_10_code
def yX7_spareOfAll : MethodName := ⟨RX7, "spareOfAll", "(I)I"⟩
abbrev cX7_lackOfAll : ByteArray := prog_9_method_11_code
def yX7_lackOfAll : MethodName := ⟨RX7, "lackOfAll", "(I)I"⟩
abbrev cX7_limitOfAll : ByteArray := prog_9_method_12_code
def yX7_limitOfAll : MethodName := ⟨RX7, "limitOfAll", "()I"⟩
abbrev cX7_worthIn : ByteArray := prog_9_method_13_code
def yX7_worthIn : MethodName := ⟨RX7, "worthIn", "([II)I"⟩
abbrev cX7_evenOut : ByteArray := prog_9_method_14_code
def yX7_evenOut : MethodName := ⟨RX7, "evenOut", "(I)I"⟩
abbrev cX7_crewFor : ByteArray := prog_9_method_15_code
def yX7_crewFor : MethodName := ⟨RX7, "crewFor", "(I)I"⟩
abbrev cX7_limitOf : ByteArray := prog_9_method_16_code
def yX7_limitOf : MethodName := ⟨RX7, "limitOf", "(I)I"⟩
abbrev cX7_pairAt : ByteArray := prog_9_method_17_code
def yX7_pairAt : MethodName := ⟨RX7, "pairAt", "(I)I"⟩
abbrev cX7_helps : ByteArray := prog_9_method_18_code
def yX7_helps : MethodName := ⟨RX7, "helps", "(II)Z"⟩
abbrev cX7_homeAgain : ByteArray := prog_9_method_19_code
def yX7_homeAgain : MethodName := ⟨RX7, "homeAgain", "(I)I"⟩
abbrev cX7_allHome : ByteArray := prog_9_method_20_code
def yX7_allHome : MethodName := ⟨RX7, "allHome", "()I"⟩
abbrev cX7_meeting : ByteArray := prog_9_method_21_code
def yX7_meeting : MethodName := ⟨RX7, "meeting", "(II)I"⟩
abbrev cX7_prizeOf : ByteArray := prog_9_method_22_code
def yX7_prizeOf : MethodName := ⟨RX7, "prizeOf", "(II)I"⟩
abbrev cX7_restAt : ByteArray := prog_9_method_23_code
def yX7_restAt : MethodName := ⟨RX7, "restAt", "(I)I"⟩
abbrev cX7_isBest : ByteArray := prog_9_method_24_code
def yX7_isBest : MethodName := ⟨RX7, "isBest", "(II)Z"⟩
def RX8 : String := "OneBack$Views"
def TX8 : u_T := fun k => match k with
  | _ => ("", "", "", false)
def tyX8 : Nat → FieldType := fun k => match k with
  | _ => .int
theorem nmX8 : ∀ a, a < 0 → ∀ b, b < 0 → a ≠ b → (TX8 a).2.1 ≠ (TX8 b).2.1 := by decide +kernel
theorem tyX8_ok : ∀ k, k < 0 → parseFieldDescriptor (TX8 k).2.2.1 = some (tyX8 k) := by decide +kernel
abbrev cX8_seen : ByteArray := prog_10_method_2_code
def yX8_seen : MethodName := ⟨RX8, "seen", "(LOneBack$Walk;I)I"⟩
abbrev cX8_seenOf : ByteArray := prog_10_method_3_code
def yX8_seenOf : MethodName := ⟨RX8, "seenOf", "(LOneBack$Walk;II)I"⟩
abbrev cX8_want : ByteArray := prog_10_method_4_code
def yX8_want : MethodName := ⟨RX8, "want", "(LOneBack$Walk;)I"⟩
abbrev cX8_pious : ByteArray := prog_10_method_5_code
def yX8_pious : MethodName := ⟨RX8, "pious", "(LOneBack$Walk;)I"⟩
abbrev cX8_lost : ByteArray := prog_10_method_6_code
def yX8_lost : MethodName := ⟨RX8, "lost", "(LOneBack$Walk;I)I"⟩
abbrev cX8_tookFrom : ByteArray := prog_10_method_7_code
def yX8_tookFrom : MethodName := ⟨RX8, "tookFrom", "(LOneBack$Walk;II)I"⟩
abbrev cX8_queued : ByteArray := prog_10_method_8_code
def yX8_queued : MethodName := ⟨RX8, "queued", "(LOneBack$Walk;I)I"⟩
abbrev cX8_isOdd : ByteArray := prog_10_method_9_code
def yX8_isOdd : MethodName := ⟨RX8, "isOdd", "(LOneBack$Walk;I)Z"⟩
abbrev cX8_placeInQueue : ByteArray := prog_10_method_10_code
def yX8_placeInQueue : MethodName := ⟨RX8, "placeInQueue", "(LOneBack$Walk;I)I"⟩
abbrev cX8_rich : ByteArray := prog_10_method_11_code
def yX8_rich : MethodName := ⟨RX8, "rich", "(LOneBack$Walk;I)I"⟩
abbrev cX8_richOf : ByteArray := prog_10_method_12_code
def yX8_richOf : MethodName := ⟨RX8, "richOf", "(LOneBack$Walk;II)I"⟩
abbrev cX8_settle : ByteArray := prog_10_method_13_code
def yX8_settle : MethodName := ⟨RX8, "settle", "(LOneBack$Walk;)I"⟩
abbrev cX8_cut : ByteArray := prog_10_method_14_code
def yX8_cut : MethodName := ⟨RX8, "cut", "(LOneBack$Walk;I)I"⟩
abbrev cX8_isReached : ByteArray := prog_10_method_15_code
def yX8_isReached : MethodName := ⟨RX8, "isReached", "(LOneBack$Walk;II)Z"⟩
abbrev cX8_can : ByteArray := prog_10_method_16_code
def yX8_can : MethodName := ⟨RX8, "can", "(LOneBack$Walk;I)I"⟩
abbrev cX8_wealthOf : ByteArray := prog_10_method_17_code
def yX8_wealthOf : MethodName := ⟨RX8, "wealthOf", "(LOneBack$Walk;I)I"⟩
abbrev cX8_ranked : ByteArray := prog_10_method_18_code
def yX8_ranked : MethodName := ⟨RX8, "ranked", "(LOneBack$Walk;I)I"⟩
abbrev cX8_rankOf : ByteArray := prog_10_method_19_code
def yX8_rankOf : MethodName := ⟨RX8, "rankOf", "(LOneBack$Walk;I)I"⟩
abbrev cX8_unlike : ByteArray := prog_10_method_20_code
def yX8_unlike : MethodName := ⟨RX8, "unlike", "(LOneBack$Walk;Z)I"⟩
abbrev cX8_robbed : ByteArray := prog_10_method_21_code
def yX8_robbed : MethodName := ⟨RX8, "robbed", "(LOneBack$Walk;)I"⟩
def RX9 : String := "OneBack$Walk"
def TX9 : u_T := fun k => match k with
  | 0 => ("OneBack$Walk", "town", "LOneBack$Town;", false)
  | 1 => ("OneBack$Walk", "law", "LOneBack$Law;", false)
  | 2 => ("OneBack$Walk", "has", "[I", true)
  | 3 => ("OneBack$Walk", "bag", "[I", true)
  | 4 => ("OneBack$Walk", "took", "[I", true)
  | 5 => ("OneBack$Walk", "gave", "[I", true)
  | 6 => ("OneBack$Walk", "taken", "[I", true)
  | 7 => ("OneBack$Walk", "given", "[I", true)
  | 8 => ("OneBack$Walk", "trace", "[I", true)
  | 9 => ("OneBack$Walk", "takenTonight", "[I", true)
  | 10 => ("OneBack$Walk", "seenTonight", "[I", true)
  | 11 => ("OneBack$Walk", "lastTake", "[I", true)
  | 12 => ("OneBack$Walk", "takes", "I", false)
  | 13 => ("OneBack$Walk", "caught", "I", false)
  | 14 => ("OneBack$Walk", "night", "I", false)
  | 15 => ("OneBack$Walk", "done", "I", false)
  | _ => ("OneBack$Walk", "seed", "I", false)
def tyX9 : Nat → FieldType := fun k => match k with
  | 0 => .object "OneBack$Town"
  | 1 => .object "OneBack$Law"
  | 2 => .array .int
  | 3 => .array .int
  | 4 => .array .int
  | 5 => .array .int
  | 6 => .array .int
  | 7 => .array .int
  | 8 => .array .int
  | 9 => .array .int
  | 10 => .array .int
  | 11 => .array .int
  | 12 => .int
  | 13 => .int
  | 14 => .int
  | 15 => .int
  | _ => .int
theorem nmX9 : ∀ a, a < 17 → ∀ b, b < 17 → a ≠ b → (TX9 a).2.1 ≠ (TX9 b).2.1 := by decide +kernel
theorem tyX9_ok : ∀ k, k < 17 → parseFieldDescriptor (TX9 k).2.2.1 = some (tyX9 k) := by decide +kernel
abbrev cX9_init : ByteArray := prog_11_method_1_code
def yX9_init : MethodName := ⟨RX9, "<init>", "(LOneBack$Town;LOneBack$Law;)V"⟩
abbrev cX9_begin : ByteArray := prog_11_method_2_code
def yX9_begin : MethodName := ⟨RX9, "begin", "(LOneBack$Town;LOneBack$Law;)V"⟩
abbrev cX9_follow : ByteArray := prog_11_method_3_code
def yX9_follow : MethodName := ⟨RX9, "follow", "(LOneBack$Nights;I)V"⟩
abbrev cX9_act : ByteArray := prog_11_method_4_code
def yX9_act : MethodName := ⟨RX9, "act", "(LOneBack$Nights;I)Z"⟩
abbrev cX9_isFree : ByteArray := prog_11_method_5_code
def yX9_isFree : MethodName := ⟨RX9, "isFree", "(I)Z"⟩
abbrev cX9_owesOf : ByteArray := prog_11_method_6_code
def yX9_owesOf : MethodName := ⟨RX9, "owesOf", "(I)I"⟩
abbrev cX9_lackOf : ByteArray := prog_11_method_7_code
def yX9_lackOf : MethodName := ⟨RX9, "lackOf", "(II)I"⟩
abbrev cX9_takesGift : ByteArray := prog_11_method_8_code
def yX9_takesGift : MethodName := ⟨RX9, "takesGift", "(III)Z"⟩
abbrev cX9_takeOne : ByteArray := prog_11_method_9_code
def yX9_takeOne : MethodName := ⟨RX9, "takeOne", "(III)Z"⟩
abbrev cX9_giveOne : ByteArray := prog_11_method_10_code
def yX9_giveOne : MethodName := ⟨RX9, "giveOne", "(III)Z"⟩
abbrev cX9_setOff : ByteArray := prog_11_method_11_code
def yX9_setOff : MethodName := ⟨RX9, "setOff", "(III)Z"⟩
abbrev cX9_nightEnds : ByteArray := prog_11_method_12_code
def yX9_nightEnds : MethodName := ⟨RX9, "nightEnds", "()V"⟩
abbrev cX9_drawNights : ByteArray := prog_11_method_13_code
def yX9_drawNights : MethodName := ⟨RX9, "drawNights", "(II)V"⟩
abbrev cX9_drawDeeds : ByteArray := prog_11_method_14_code
def yX9_drawDeeds : MethodName := ⟨RX9, "drawDeeds", "(I)V"⟩
abbrev cX9_drawBelow : ByteArray := prog_11_method_15_code
def yX9_drawBelow : MethodName := ⟨RX9, "drawBelow", "(I)I"⟩
abbrev cX9_giveLeast : ByteArray := prog_11_method_16_code
def yX9_giveLeast : MethodName := ⟨RX9, "giveLeast", "(I)Z"⟩
def RX10 : String := "OneBack"
def TX10 : u_T := fun k => match k with
  | 0 => ("OneBack", "told", "LOneBack$Told;", true)
  | 1 => ("OneBack", "images", "[LOneBack$Told;", true)
  | 2 => ("OneBack", "reader", "LOneBack$Reader;", true)
  | 3 => ("OneBack", "walk", "LOneBack$Walk;", true)
  | 4 => ("OneBack", "supply", "LOneBack$Supply;", true)
  | _ => ("OneBack", "porter", "LOneBack$Porter;", true)
def tyX10 : Nat → FieldType := fun k => match k with
  | 0 => .object "OneBack$Told"
  | 1 => .array (.object "OneBack$Told")
  | 2 => .object "OneBack$Reader"
  | 3 => .object "OneBack$Walk"
  | 4 => .object "OneBack$Supply"
  | _ => .object "OneBack$Porter"
theorem nmX10 : ∀ a, a < 6 → ∀ b, b < 6 → a ≠ b → (TX10 a).2.1 ≠ (TX10 b).2.1 := by decide +kernel
theorem tyX10_ok : ∀ k, k < 6 → parseFieldDescriptor (TX10 k).2.2.1 = some (tyX10 k) := by decide +kernel
abbrev cX10_init : ByteArray := prog_1_method_1_code
def yX10_init : MethodName := ⟨RX10, "<init>", "()V"⟩
abbrev cX10_feed : ByteArray := prog_1_method_2_code
def yX10_feed : MethodName := ⟨RX10, "feed", "(IIIII)I"⟩
abbrev cX10_end : ByteArray := prog_1_method_3_code
def yX10_end : MethodName := ⟨RX10, "end", "(I)I"⟩
abbrev cX10_text : ByteArray := prog_1_method_4_code
def yX10_text : MethodName := ⟨RX10, "text", "(II)I"⟩
abbrev cX10_fault : ByteArray := prog_1_method_5_code
def yX10_fault : MethodName := ⟨RX10, "fault", "(I)I"⟩
abbrev cX10_town : ByteArray := prog_1_method_6_code
def yX10_town : MethodName := ⟨RX10, "town", "(II)I"⟩
abbrev cX10_house : ByteArray := prog_1_method_7_code
def yX10_house : MethodName := ⟨RX10, "house", "(IIII)I"⟩
abbrev cX10_law : ByteArray := prog_1_method_8_code
def yX10_law : MethodName := ⟨RX10, "law", "(II)I"⟩
abbrev cX10_deed : ByteArray := prog_1_method_9_code
def yX10_deed : MethodName := ⟨RX10, "deed", "(III)I"⟩
abbrev cX10_stop : ByteArray := prog_1_method_10_code
def yX10_stop : MethodName := ⟨RX10, "stop", "(III)I"⟩
abbrev cX10_state : ByteArray := prog_1_method_11_code
def yX10_state : MethodName := ⟨RX10, "state", "(IIIII)I"⟩
abbrev cX10_goods : ByteArray := prog_1_method_12_code
def yX10_goods : MethodName := ⟨RX10, "goods", "(IIIIIII)I"⟩
abbrev cX10_aid : ByteArray := prog_1_method_13_code
def yX10_aid : MethodName := ⟨RX10, "aid", "(II)I"⟩
abbrev cX10_carry : ByteArray := prog_1_method_14_code
def yX10_carry : MethodName := ⟨RX10, "carry", "(I)I"⟩
abbrev cX10_round : ByteArray := prog_1_method_15_code
def yX10_round : MethodName := ⟨RX10, "round", "(II)I"⟩
abbrev cX10_meets : ByteArray := prog_1_method_16_code
def yX10_meets : MethodName := ⟨RX10, "meets", "(III)I"⟩
abbrev cX10_sight : ByteArray := prog_1_method_17_code
def yX10_sight : MethodName := ⟨RX10, "sight", "(II)I"⟩
abbrev cX10_hands : ByteArray := prog_1_method_18_code
def yX10_hands : MethodName := ⟨RX10, "hands", "(IIIII)I"⟩
abbrev cX10_moved : ByteArray := prog_1_method_19_code
def yX10_moved : MethodName := ⟨RX10, "moved", "(IIZ)I"⟩
abbrev cX10_quit : ByteArray := prog_1_method_20_code
def yX10_quit : MethodName := ⟨RX10, "quit", "(IIIII)I"⟩
abbrev cX10_alms : ByteArray := prog_1_method_21_code
def yX10_alms : MethodName := ⟨RX10, "alms", "(IZ)I"⟩
abbrev cX10_prize : ByteArray := prog_1_method_22_code
def yX10_prize : MethodName := ⟨RX10, "prize", "(III)I"⟩
abbrev cX10_rest : ByteArray := prog_1_method_23_code
def yX10_rest : MethodName := ⟨RX10, "rest", "(II)I"⟩
abbrev cX10_share : ByteArray := prog_1_method_24_code
def yX10_share : MethodName := ⟨RX10, "share", "(IIZ)I"⟩
abbrev cX10_even : ByteArray := prog_1_method_25_code
def yX10_even : MethodName := ⟨RX10, "even", "(II)I"⟩
abbrev cX10_drawn : ByteArray := prog_1_method_26_code
def yX10_drawn : MethodName := ⟨RX10, "drawn", "(IIIII)I"⟩
abbrev cX10_wealth : ByteArray := prog_1_method_27_code
def yX10_wealth : MethodName := ⟨RX10, "wealth", "(IIIII)I"⟩
abbrev cX10_haul : ByteArray := prog_1_method_28_code
def yX10_haul : MethodName := ⟨RX10, "haul", "(IIIII)I"⟩
abbrev cX10_crew : ByteArray := prog_1_method_29_code
def yX10_crew : MethodName := ⟨RX10, "crew", "(IIZ)I"⟩
abbrev cX10_pairs : ByteArray := prog_1_method_30_code
def yX10_pairs : MethodName := ⟨RX10, "pairs", "(II)I"⟩
abbrev cX10_count : ByteArray := prog_1_method_31_code
def yX10_count : MethodName := ⟨RX10, "count", "(I)I"⟩
abbrev cX10_image : ByteArray := prog_1_method_32_code
def yX10_image : MethodName := ⟨RX10, "image", "(I)Z"⟩
abbrev cX10_again : ByteArray := prog_1_method_33_code
def yX10_again : MethodName := ⟨RX10, "again", "(I)Z"⟩
abbrev cX10_walkTo : ByteArray := prog_1_method_34_code
def yX10_walkTo : MethodName := ⟨RX10, "walkTo", "(IIII)Z"⟩
abbrev cX10_walkJust : ByteArray := prog_1_method_35_code
def yX10_walkJust : MethodName := ⟨RX10, "walkJust", "(IIII)Z"⟩
abbrev cX10_isGood : ByteArray := prog_1_method_36_code
def yX10_isGood : MethodName := ⟨RX10, "isGood", "(I)Z"⟩
abbrev cX10_cell : ByteArray := prog_1_method_37_code
def yX10_cell : MethodName := ⟨RX10, "cell", "(II)I"⟩
abbrev cX10_cell_ : ByteArray := prog_1_method_38_code
def yX10_cell_ : MethodName := ⟨RX10, "cell", "(III)I"⟩
abbrev cX10_weighings : ByteArray := prog_1_method_39_code
def yX10_weighings : MethodName := ⟨RX10, "weighings", "(I)I"⟩
abbrev cX10_leastTerms : ByteArray := prog_1_method_40_code
def yX10_leastTerms : MethodName := ⟨RX10, "leastTerms", "(IIZ)I"⟩
abbrev cX10_commonDivisor : ByteArray := prog_1_method_41_code
def yX10_commonDivisor : MethodName := ⟨RX10, "commonDivisor", "(II)I"⟩
abbrev cX10_copyRow : ByteArray := prog_1_method_42_code
def yX10_copyRow : MethodName := ⟨RX10, "copyRow", "([I[I)V"⟩
abbrev cX10_fillRow : ByteArray := prog_1_method_43_code
def yX10_fillRow : MethodName := ⟨RX10, "fillRow", "([II)V"⟩
def RX11 : String := "OneBackModel"
def TX11 : u_T := fun k => match k with
  | 0 => ("OneBackModel", "code", "I", false)
  | 1 => ("OneBackModel", "tape", "[B", true)
  | 2 => ("OneBackModel", "size", "[I", true)
  | 3 => ("OneBackModel", "fault", "[I", true)
  | 4 => ("OneBackModel", "faultPlace", "[I", true)
  | 5 => ("OneBackModel", "many", "[I", true)
  | 6 => ("OneBackModel", "towns", "[I", true)
  | 7 => ("OneBackModel", "laws", "[I", true)
  | 8 => ("OneBackModel", "nights", "[I", true)
  | 9 => ("OneBackModel", "sights", "[I", true)
  | 10 => ("OneBackModel", "reached", "I", false)
  | 11 => ("OneBackModel", "length", "I", false)
  | 12 => ("OneBackModel", "begins", "I", false)
  | 13 => ("OneBackModel", "sort", "I", false)
  | 14 => ("OneBackModel", "value", "I", false)
  | 15 => ("OneBackModel", "word", "J", false)
  | 16 => ("OneBackModel", "wrongAt", "I", false)
  | 17 => ("OneBackModel", "laterFault", "I", false)
  | 18 => ("OneBackModel", "laterPlace", "I", false)
  | 19 => ("OneBackModel", "told", "[I", true)
  | 20 => ("OneBackModel", "read", "[I", true)
  | 21 => ("OneBackModel", "farHouse", "I", false)
  | 22 => ("OneBackModel", "farThief", "I", false)
  | 23 => ("OneBackModel", "good", "Z", false)
  | 24 => ("OneBackModel", "town", "I", false)
  | 25 => ("OneBackModel", "houses", "I", false)
  | 26 => ("OneBackModel", "thieves", "I", false)
  | 27 => ("OneBackModel", "law", "I", false)
  | 28 => ("OneBackModel", "row", "I", false)
  | 29 => ("OneBackModel", "stock", "[I", true)
  | 30 => ("OneBackModel", "bag", "[I", true)
  | 31 => ("OneBackModel", "took", "[I", true)
  | 32 => ("OneBackModel", "gave", "[I", true)
  | 33 => ("OneBackModel", "tonight", "[I", true)
  | 34 => ("OneBackModel", "watched", "[I", true)
  | 35 => ("OneBackModel", "taken", "[I", true)
  | 36 => ("OneBackModel", "given", "[I", true)
  | 37 => ("OneBackModel", "trace", "[I", true)
  | 38 => ("OneBackModel", "lastTake", "[I", true)
  | 39 => ("OneBackModel", "lost", "[I", true)
  | 40 => ("OneBackModel", "night", "I", false)
  | 41 => ("OneBackModel", "caught", "I", false)
  | 42 => ("OneBackModel", "clock", "I", false)
  | 43 => ("OneBackModel", "aided", "[I", true)
  | 44 => ("OneBackModel", "aidCost", "I", false)
  | 45 => ("OneBackModel", "aidMany", "I", false)
  | 46 => ("OneBackModel", "carried", "[I", true)
  | 47 => ("OneBackModel", "then", "[I", true)
  | 48 => ("OneBackModel", "sight", "I", false)
  | 49 => ("OneBackModel", "seed", "I", false)
  | _ => ("OneBackModel", "kept", "[Z", true)
def tyX11 : Nat → FieldType := fun k => match k with
  | 0 => .int
  | 1 => .array .byte
  | 2 => .array .int
  | 3 => .array .int
  | 4 => .array .int
  | 5 => .array .int
  | 6 => .array .int
  | 7 => .array .int
  | 8 => .array .int
  | 9 => .array .int
  | 10 => .int
  | 11 => .int
  | 12 => .int
  | 13 => .int
  | 14 => .int
  | 15 => .long
  | 16 => .int
  | 17 => .int
  | 18 => .int
  | 19 => .array .int
  | 20 => .array .int
  | 21 => .int
  | 22 => .int
  | 23 => .boolean
  | 24 => .int
  | 25 => .int
  | 26 => .int
  | 27 => .int
  | 28 => .int
  | 29 => .array .int
  | 30 => .array .int
  | 31 => .array .int
  | 32 => .array .int
  | 33 => .array .int
  | 34 => .array .int
  | 35 => .array .int
  | 36 => .array .int
  | 37 => .array .int
  | 38 => .array .int
  | 39 => .array .int
  | 40 => .int
  | 41 => .int
  | 42 => .int
  | 43 => .array .int
  | 44 => .int
  | 45 => .int
  | 46 => .array .int
  | 47 => .array .int
  | 48 => .int
  | 49 => .int
  | _ => .array .boolean
theorem nmX11 : ∀ a, a < 51 → ∀ b, b < 51 → a ≠ b → (TX11 a).2.1 ≠ (TX11 b).2.1 := by decide +kernel
theorem tyX11_ok : ∀ k, k < 51 → parseFieldDescriptor (TX11 k).2.2.1 = some (tyX11 k) := by decide +kernel
abbrev cX11_init : ByteArray := prog_13_method_1_code
def yX11_init : MethodName := ⟨RX11, "<init>", "()V"⟩
abbrev cX11_in : ByteArray := prog_13_method_3_code
def yX11_in : MethodName := ⟨RX11, "in", "(III)Z"⟩
abbrev cX11_has : ByteArray := prog_13_method_4_code
def yX11_has : MethodName := ⟨RX11, "has", "(II)Z"⟩
abbrev cX11_greater : ByteArray := prog_13_method_5_code
def yX11_greater : MethodName := ⟨RX11, "greater", "(II)I"⟩
abbrev cX11_lesser : ByteArray := prog_13_method_6_code
def yX11_lesser : MethodName := ⟨RX11, "lesser", "(II)I"⟩
abbrev cX11_size : ByteArray := prog_13_method_7_code
def yX11_size : MethodName := ⟨RX11, "size", "(I)I"⟩
abbrev cX11_copyRow : ByteArray := prog_13_method_8_code
def yX11_copyRow : MethodName := ⟨RX11, "copyRow", "([IIII)V"⟩
abbrev cX11_copyAll : ByteArray := prog_13_method_9_code
def yX11_copyAll : MethodName := ⟨RX11, "copyAll", "(II)V"⟩
abbrev cX11_is : ByteArray := prog_13_method_10_code
def yX11_is : MethodName := ⟨RX11, "is", "(II)Z"⟩
abbrev cX11_feed : ByteArray := prog_13_method_11_code
def yX11_feed : MethodName := ⟨RX11, "feed", "(IIIII)I"⟩
abbrev cX11_four : ByteArray := prog_13_method_12_code
def yX11_four : MethodName := ⟨RX11, "four", "(I)V"⟩
abbrev cX11_end : ByteArray := prog_13_method_13_code
def yX11_end : MethodName := ⟨RX11, "end", "(I)I"⟩
abbrev cX11_see : ByteArray := prog_13_method_14_code
def yX11_see : MethodName := ⟨RX11, "see", "()I"⟩
abbrev cX11_token : ByteArray := prog_13_method_15_code
def yX11_token : MethodName := ⟨RX11, "token", "()V"⟩
abbrev cX11_fails : ByteArray := prog_13_method_16_code
def yX11_fails : MethodName := ⟨RX11, "fails", "()Z"⟩
abbrev cX11_later : ByteArray := prog_13_method_17_code
def yX11_later : MethodName := ⟨RX11, "later", "(II)V"⟩
abbrev cX11_takeBut : ByteArray := prog_13_method_18_code
def yX11_takeBut : MethodName := ⟨RX11, "takeBut", "(IIII)Z"⟩
abbrev cX11_take : ByteArray := prog_13_method_19_code
def yX11_take : MethodName := ⟨RX11, "take", "(III)Z"⟩
abbrev cX11_takeHouse : ByteArray := prog_13_method_20_code
def yX11_takeHouse : MethodName := ⟨RX11, "takeHouse", "(I)Z"⟩
abbrev cX11_full : ByteArray := prog_13_method_21_code
def yX11_full : MethodName := ⟨RX11, "full", "(III)V"⟩
abbrev cX11_keep : ByteArray := prog_13_method_22_code
def yX11_keep : MethodName := ⟨RX11, "keep", "(IIII)V"⟩
abbrev cX11_lay : ByteArray := prog_13_method_23_code
def yX11_lay : MethodName := ⟨RX11, "lay", "(II)V"⟩
abbrev cX11_goodsLine : ByteArray := prog_13_method_24_code
def yX11_goodsLine : MethodName := ⟨RX11, "goodsLine", "(I)Z"⟩
abbrev cX11_sonLine : ByteArray := prog_13_method_25_code
def yX11_sonLine : MethodName := ⟨RX11, "sonLine", "()Z"⟩
abbrev cX11_houseLine : ByteArray := prog_13_method_26_code
def yX11_houseLine : MethodName := ⟨RX11, "houseLine", "(J)Z"⟩
abbrev cX11_goodLine : ByteArray := prog_13_method_27_code
def yX11_goodLine : MethodName := ⟨RX11, "goodLine", "(J)Z"⟩
abbrev cX11_townLine : ByteArray := prog_13_method_28_code
def yX11_townLine : MethodName := ⟨RX11, "townLine", "(JI)Z"⟩
abbrev cX11_lawLine : ByteArray := prog_13_method_29_code
def yX11_lawLine : MethodName := ⟨RX11, "lawLine", "(J)Z"⟩
abbrev cX11_nightsLine : ByteArray := prog_13_method_30_code
def yX11_nightsLine : MethodName := ⟨RX11, "nightsLine", "(JI)Z"⟩
abbrev cX11_sightLine : ByteArray := prog_13_method_31_code
def yX11_sightLine : MethodName := ⟨RX11, "sightLine", "(JI)Z"⟩
abbrev cX11_lineOf : ByteArray := prog_13_method_32_code
def yX11_lineOf : MethodName := ⟨RX11, "lineOf", "(IJI)Z"⟩
abbrev cX11_lines : ByteArray := prog_13_method_33_code
def yX11_lines : MethodName := ⟨RX11, "lines", "(I)Z"⟩
abbrev cX11_blankTown : ByteArray := prog_13_method_34_code
def yX11_blankTown : MethodName := ⟨RX11, "blankTown", "()V"⟩
abbrev cX11_blank : ByteArray := prog_13_method_35_code
def yX11_blank : MethodName := ⟨RX11, "blank", "(I)V"⟩
abbrev cX11_readText : ByteArray := prog_13_method_36_code
def yX11_readText : MethodName := ⟨RX11, "readText", "(I)Z"⟩
abbrev cX11_store : ByteArray := prog_13_method_37_code
def yX11_store : MethodName := ⟨RX11, "store", "([III)V"⟩
abbrev cX11_storeAll : ByteArray := prog_13_method_38_code
def yX11_storeAll : MethodName := ⟨RX11, "storeAll", "(II)V"⟩
abbrev cX11_text : ByteArray := prog_13_method_39_code
def yX11_text : MethodName := ⟨RX11, "text", "(II)I"⟩
abbrev cX11_fault : ByteArray := prog_13_method_40_code
def yX11_fault : MethodName := ⟨RX11, "fault", "(I)I"⟩
abbrev cX11_of : ByteArray := prog_13_method_41_code
def yX11_of : MethodName := ⟨RX11, "of", "(I)I"⟩
abbrev cX11_hand : ByteArray := prog_13_method_42_code
def yX11_hand : MethodName := ⟨RX11, "hand", "(I)Z"⟩
abbrev cX11_isHouse : ByteArray := prog_13_method_43_code
def yX11_isHouse : MethodName := ⟨RX11, "isHouse", "(I)Z"⟩
abbrev cX11_isThief : ByteArray := prog_13_method_44_code
def yX11_isThief : MethodName := ⟨RX11, "isThief", "(I)Z"⟩
abbrev cX11_isGood : ByteArray := prog_13_method_45_code
def yX11_isGood : MethodName := ⟨RX11, "isGood", "(I)Z"⟩
abbrev cX11_spare : ByteArray := prog_13_method_46_code
def yX11_spare : MethodName := ⟨RX11, "spare", "(II)I"⟩
abbrev cX11_lacks : ByteArray := prog_13_method_47_code
def yX11_lacks : MethodName := ⟨RX11, "lacks", "(II)I"⟩
abbrev cX11_town : ByteArray := prog_13_method_48_code
def yX11_town : MethodName := ⟨RX11, "town", "(II)I"⟩
abbrev cX11_house : ByteArray := prog_13_method_49_code
def yX11_house : MethodName := ⟨RX11, "house", "(IIII)I"⟩
abbrev cX11_lawOf : ByteArray := prog_13_method_50_code
def yX11_lawOf : MethodName := ⟨RX11, "lawOf", "(I)I"⟩
abbrev cX11_hasLaw : ByteArray := prog_13_method_51_code
def yX11_hasLaw : MethodName := ⟨RX11, "hasLaw", "(I)Z"⟩
abbrev cX11_isDouble : ByteArray := prog_13_method_52_code
def yX11_isDouble : MethodName := ⟨RX11, "isDouble", "(I)Z"⟩
abbrev cX11_law : ByteArray := prog_13_method_53_code
def yX11_law : MethodName := ⟨RX11, "law", "(II)I"⟩
abbrev cX11_deeds : ByteArray := prog_13_method_54_code
def yX11_deeds : MethodName := ⟨RX11, "deeds", "()I"⟩
abbrev cX11_deedOf : ByteArray := prog_13_method_55_code
def yX11_deedOf : MethodName := ⟨RX11, "deedOf", "(II)I"⟩
abbrev cX11_hasNights : ByteArray := prog_13_method_56_code
def yX11_hasNights : MethodName := ⟨RX11, "hasNights", "(I)Z"⟩
abbrev cX11_deed : ByteArray := prog_13_method_57_code
def yX11_deed : MethodName := ⟨RX11, "deed", "(III)I"⟩
abbrev cX11_begin : ByteArray := prog_13_method_58_code
def yX11_begin : MethodName := ⟨RX11, "begin", "()V"⟩
abbrev cX11_place : ByteArray := prog_13_method_59_code
def yX11_place : MethodName := ⟨RX11, "place", "(III)I"⟩
abbrev cX11_isFree : ByteArray := prog_13_method_60_code
def yX11_isFree : MethodName := ⟨RX11, "isFree", "(I)Z"⟩
abbrev cX11_owes : ByteArray := prog_13_method_61_code
def yX11_owes : MethodName := ⟨RX11, "owes", "(I)I"⟩
abbrev cX11_odd : ByteArray := prog_13_method_62_code
def yX11_odd : MethodName := ⟨RX11, "odd", "(I)I"⟩
abbrev cX11_takes : ByteArray := prog_13_method_63_code
def yX11_takes : MethodName := ⟨RX11, "takes", "(III)Z"⟩
abbrev cX11_mayGive : ByteArray := prog_13_method_64_code
def yX11_mayGive : MethodName := ⟨RX11, "mayGive", "(III)Z"⟩
abbrev cX11_gives : ByteArray := prog_13_method_65_code
def yX11_gives : MethodName := ⟨RX11, "gives", "(III)Z"⟩
abbrev cX11_sets : ByteArray := prog_13_method_66_code
def yX11_sets : MethodName := ⟨RX11, "sets", "(III)Z"⟩
abbrev cX11_ends : ByteArray := prog_13_method_67_code
def yX11_ends : MethodName := ⟨RX11, "ends", "()V"⟩
abbrev cX11_does : ByteArray := prog_13_method_68_code
def yX11_does : MethodName := ⟨RX11, "does", "(I)Z"⟩
abbrev cX11_play : ByteArray := prog_13_method_69_code
def yX11_play : MethodName := ⟨RX11, "play", "(I)I"⟩
abbrev cX11_layAll : ByteArray := prog_13_method_70_code
def yX11_layAll : MethodName := ⟨RX11, "layAll", "(III)Z"⟩
abbrev cX11_layState : ByteArray := prog_13_method_71_code
def yX11_layState : MethodName := ⟨RX11, "layState", "(IIII)Z"⟩
abbrev cX11_stop : ByteArray := prog_13_method_72_code
def yX11_stop : MethodName := ⟨RX11, "stop", "(III)I"⟩
abbrev cX11_want : ByteArray := prog_13_method_73_code
def yX11_want : MethodName := ⟨RX11, "want", "()I"⟩
abbrev cX11_pious : ByteArray := prog_13_method_74_code
def yX11_pious : MethodName := ⟨RX11, "pious", "()I"⟩
abbrev cX11_queued : ByteArray := prog_13_method_75_code
def yX11_queued : MethodName := ⟨RX11, "queued", "(I)I"⟩
abbrev cX11_ofEach : ByteArray := prog_13_method_76_code
def yX11_ofEach : MethodName := ⟨RX11, "ofEach", "(I)I"⟩
abbrev cX11_ofState : ByteArray := prog_13_method_77_code
def yX11_ofState : MethodName := ⟨RX11, "ofState", "(I)I"⟩
abbrev cX11_state : ByteArray := prog_13_method_78_code
def yX11_state : MethodName := ⟨RX11, "state", "(IIIII)I"⟩
abbrev cX11_goods : ByteArray := prog_13_method_79_code
def yX11_goods : MethodName := ⟨RX11, "goods", "(IIIIIII)I"⟩
abbrev cX11_aidGood : ByteArray := prog_13_method_80_code
def yX11_aidGood : MethodName := ⟨RX11, "aidGood", "(I)Z"⟩
abbrev cX11_findAid : ByteArray := prog_13_method_81_code
def yX11_findAid : MethodName := ⟨RX11, "findAid", "()Z"⟩
abbrev cX11_aidNights : ByteArray := prog_13_method_82_code
def yX11_aidNights : MethodName := ⟨RX11, "aidNights", "()I"⟩
abbrev cX11_aid : ByteArray := prog_13_method_83_code
def yX11_aid : MethodName := ⟨RX11, "aid", "(II)I"⟩
abbrev cX11_carryOn : ByteArray := prog_13_method_84_code
def yX11_carryOn : MethodName := ⟨RX11, "carryOn", "(II)V"⟩
abbrev cX11_carryGood : ByteArray := prog_13_method_85_code
def yX11_carryGood : MethodName := ⟨RX11, "carryGood", "(I)I"⟩
abbrev cX11_carry : ByteArray := prog_13_method_86_code
def yX11_carry : MethodName := ⟨RX11, "carry", "(I)I"⟩
abbrev cX11_roundOf : ByteArray := prog_13_method_87_code
def yX11_roundOf : MethodName := ⟨RX11, "roundOf", "(I)I"⟩
abbrev cX11_common : ByteArray := prog_13_method_88_code
def yX11_common : MethodName := ⟨RX11, "common", "(II)I"⟩
abbrev cX11_round : ByteArray := prog_13_method_89_code
def yX11_round : MethodName := ⟨RX11, "round", "(II)I"⟩
abbrev cX11_meets : ByteArray := prog_13_method_90_code
def yX11_meets : MethodName := ⟨RX11, "meets", "(III)I"⟩
abbrev cX11_gifts : ByteArray := prog_13_method_91_code
def yX11_gifts : MethodName := ⟨RX11, "gifts", "()I"⟩
abbrev cX11_giftOf : ByteArray := prog_13_method_92_code
def yX11_giftOf : MethodName := ⟨RX11, "giftOf", "(II)I"⟩
abbrev cX11_left : ByteArray := prog_13_method_93_code
def yX11_left : MethodName := ⟨RX11, "left", "(II)I"⟩
abbrev cX11_hasSight : ByteArray := prog_13_method_94_code
def yX11_hasSight : MethodName := ⟨RX11, "hasSight", "(I)Z"⟩
abbrev cX11_sight : ByteArray := prog_13_method_95_code
def yX11_sight : MethodName := ⟨RX11, "sight", "(II)I"⟩
abbrev cX11_handOf : ByteArray := prog_13_method_96_code
def yX11_handOf : MethodName := ⟨RX11, "handOf", "(II)I"⟩
abbrev cX11_canBe : ByteArray := prog_13_method_97_code
def yX11_canBe : MethodName := ⟨RX11, "canBe", "(I)Z"⟩
abbrev cX11_hands : ByteArray := prog_13_method_98_code
def yX11_hands : MethodName := ⟨RX11, "hands", "(IIIII)I"⟩
abbrev cX11_isToldAll : ByteArray := prog_13_method_99_code
def yX11_isToldAll : MethodName := ⟨RX11, "isToldAll", "(I)Z"⟩
abbrev cX11_moved : ByteArray := prog_13_method_100_code
def yX11_moved : MethodName := ⟨RX11, "moved", "(IIZ)I"⟩
abbrev cX11_doubles : ByteArray := prog_13_method_101_code
def yX11_doubles : MethodName := ⟨RX11, "doubles", "(II)I"⟩
abbrev cX11_giftsBy : ByteArray := prog_13_method_102_code
def yX11_giftsBy : MethodName := ⟨RX11, "giftsBy", "(IIII)I"⟩
abbrev cX11_quit : ByteArray := prog_13_method_103_code
def yX11_quit : MethodName := ⟨RX11, "quit", "(IIIII)I"⟩
abbrev cX11_alms : ByteArray := prog_13_method_104_code
def yX11_alms : MethodName := ⟨RX11, "alms", "(IZ)I"⟩
abbrev cX11_worthOf : ByteArray := prog_13_method_105_code
def yX11_worthOf : MethodName := ⟨RX11, "worthOf", "(I)I"⟩
abbrev cX11_prizeOf : ByteArray := prog_13_method_106_code
def yX11_prizeOf : MethodName := ⟨RX11, "prizeOf", "(II)I"⟩
abbrev cX11_prize : ByteArray := prog_13_method_107_code
def yX11_prize : MethodName := ⟨RX11, "prize", "(III)I"⟩
abbrev cX11_isRest : ByteArray := prog_13_method_108_code
def yX11_isRest : MethodName := ⟨RX11, "isRest", "(II)Z"⟩
abbrev cX11_rest : ByteArray := prog_13_method_109_code
def yX11_rest : MethodName := ⟨RX11, "rest", "(II)I"⟩
abbrev cX11_least : ByteArray := prog_13_method_110_code
def yX11_least : MethodName := ⟨RX11, "least", "(IIZ)I"⟩
abbrev cX11_share : ByteArray := prog_13_method_111_code
def yX11_share : MethodName := ⟨RX11, "share", "(IIZ)I"⟩
abbrev cX11_even : ByteArray := prog_13_method_112_code
def yX11_even : MethodName := ⟨RX11, "even", "(II)I"⟩
abbrev cX11_draw : ByteArray := prog_13_method_113_code
def yX11_draw : MethodName := ⟨RX11, "draw", "(I)I"⟩
abbrev cX11_givesOne : ByteArray := prog_13_method_114_code
def yX11_givesOne : MethodName := ⟨RX11, "givesOne", "(I)Z"⟩
abbrev cX11_drawThief : ByteArray := prog_13_method_115_code
def yX11_drawThief : MethodName := ⟨RX11, "drawThief", "(I)V"⟩
abbrev cX11_drawn : ByteArray := prog_13_method_116_code
def yX11_drawn : MethodName := ⟨RX11, "drawn", "(IIIII)I"⟩
abbrev cX11_areKin : ByteArray := prog_13_method_117_code
def yX11_areKin : MethodName := ⟨RX11, "areKin", "(II)Z"⟩
abbrev cX11_settle : ByteArray := prog_13_method_118_code
def yX11_settle : MethodName := ⟨RX11, "settle", "()I"⟩
abbrev cX11_can : ByteArray := prog_13_method_119_code
def yX11_can : MethodName := ⟨RX11, "can", "(I)I"⟩
abbrev cX11_wealthOf : ByteArray := prog_13_method_120_code
def yX11_wealthOf : MethodName := ⟨RX11, "wealthOf", "(I)I"⟩
abbrev cX11_ranked : ByteArray := prog_13_method_121_code
def yX11_ranked : MethodName := ⟨RX11, "ranked", "(I)I"⟩
abbrev cX11_gap : ByteArray := prog_13_method_122_code
def yX11_gap : MethodName := ⟨RX11, "gap", "()I"⟩
abbrev cX11_unlike : ByteArray := prog_13_method_123_code
def yX11_unlike : MethodName := ⟨RX11, "unlike", "(Z)I"⟩
abbrev cX11_robbed : ByteArray := prog_13_method_124_code
def yX11_robbed : MethodName := ⟨RX11, "robbed", "()I"⟩
abbrev cX11_wealth : ByteArray := prog_13_method_125_code
def yX11_wealth : MethodName := ⟨RX11, "wealth", "(IIIII)I"⟩
abbrev cX11_figure : ByteArray := prog_13_method_126_code
def yX11_figure : MethodName := ⟨RX11, "figure", "(II)I"⟩
abbrev cX11_haulWorth : ByteArray := prog_13_method_127_code
def yX11_haulWorth : MethodName := ⟨RX11, "haulWorth", "(IIII)I"⟩
abbrev cX11_haul : ByteArray := prog_13_method_128_code
def yX11_haul : MethodName := ⟨RX11, "haul", "(IIIII)I"⟩
abbrev cX11_limits : ByteArray := prog_13_method_129_code
def yX11_limits : MethodName := ⟨RX11, "limits", "(I)I"⟩
abbrev cX11_heads : ByteArray := prog_13_method_130_code
def yX11_heads : MethodName := ⟨RX11, "heads", "(I)I"⟩
abbrev cX11_crew : ByteArray := prog_13_method_131_code
def yX11_crew : MethodName := ⟨RX11, "crew", "(IIZ)I"⟩
abbrev cX11_helps : ByteArray := prog_13_method_132_code
def yX11_helps : MethodName := ⟨RX11, "helps", "(II)Z"⟩
abbrev cX11_pairs : ByteArray := prog_13_method_133_code
def yX11_pairs : MethodName := ⟨RX11, "pairs", "(II)I"⟩
abbrev cX11_count : ByteArray := prog_13_method_134_code
def yX11_count : MethodName := ⟨RX11, "count", "(I)I"⟩
abbrev cX11_image : ByteArray := prog_13_method_135_code
def yX11_image : MethodName := ⟨RX11, "image", "(I)Z"⟩
abbrev cX11_again : ByteArray := prog_13_method_136_code
def yX11_again : MethodName := ⟨RX11, "again", "(I)Z"⟩
def RJ6 : String := "java/lang/Integer"
def TJ6 : u_T := fun k => match k with
  | _ => ("", "", "", false)
def tyJ6 : Nat → FieldType := fun k => match k with
  | _ => .int
abbrev cJ6_bitCount_0f7a4 : ByteArray := prog_14_method_49_code
def yJ6_bitCount_0f7a4 : MethodName := ⟨RJ6, "bitCount", "(I)I"⟩
def RJ9 : String := "java/lang/Math"
def TJ9 : u_T := fun k => match k with
  | _ => ("", "", "", false)
def tyJ9 : Nat → FieldType := fun k => match k with
  | _ => .int
abbrev cJ9_abs_0f7a4 : ByteArray := prog_15_method_59_code
def yJ9_abs_0f7a4 : MethodName := ⟨RJ9, "abs", "(I)I"⟩
abbrev cJ9_max_7cf53 : ByteArray := prog_15_method_65_code
def yJ9_max_7cf53 : MethodName := ⟨RJ9, "max", "(II)I"⟩
abbrev cJ9_min_7cf53 : ByteArray := prog_15_method_69_code
def yJ9_min_7cf53 : MethodName := ⟨RJ9, "min", "(II)I"⟩
def RJ0 : String := "java/lang/String"
def TJ0 : u_T := fun k => match k with
  | _ => ("", "", "", false)
def tyJ0 : Nat → FieldType := fun k => match k with
  | _ => .int
abbrev cJ0_length_8abf5 : ByteArray := prog_16_method_54_code
def yJ0_length_8abf5 : MethodName := ⟨RJ0, "length", "()I"⟩
abbrev cJ0_charAt_5068e : ByteArray := prog_16_method_56_code
def yJ0_charAt_5068e : MethodName := ⟨RJ0, "charAt", "(I)C"⟩
abbrev cJ0_coder_7d493 : ByteArray := prog_16_method_152_code
def yJ0_coder_7d493 : MethodName := ⟨RJ0, "coder", "()B"⟩
abbrev cJ0_isLatin1_aae02 : ByteArray := prog_16_method_154_code
def yJ0_isLatin1_aae02 : MethodName := ⟨RJ0, "isLatin1", "()Z"⟩
abbrev cJ0_checkIndex_df160 : ByteArray := prog_16_method_155_code
def yJ0_checkIndex_df160 : MethodName := ⟨RJ0, "checkIndex", "(II)V"⟩
def RJ1 : String := "java/lang/StringLatin1"
def TJ1 : u_T := fun k => match k with
  | _ => ("", "", "", false)
def tyJ1 : Nat → FieldType := fun k => match k with
  | _ => .int
abbrev cJ1_charAt_3b067 : ByteArray := prog_17_method_2_code
def yJ1_charAt_3b067 : MethodName := ⟨RJ1, "charAt", "([BI)C"⟩
def RJ2 : String := "java/lang/StringUTF16"
def TJ2 : u_T := fun k => match k with
  | _ => ("", "", "", false)
def tyJ2 : Nat → FieldType := fun k => match k with
  | _ => .int
abbrev cJ2_getChar_3b067 : ByteArray := prog_18_method_5_code
def yJ2_getChar_3b067 : MethodName := ⟨RJ2, "getChar", "([BI)C"⟩
abbrev cJ2_length_9d52b : ByteArray := prog_18_method_6_code
def yJ2_length_9d52b : MethodName := ⟨RJ2, "length", "([B)I"⟩
abbrev cJ2_charAt_3b067 : ByteArray := prog_18_method_83_code
def yJ2_charAt_3b067 : MethodName := ⟨RJ2, "charAt", "([BI)C"⟩
abbrev cJ2_checkIndex_2214a : ByteArray := prog_18_method_91_code
def yJ2_checkIndex_2214a : MethodName := ⟨RJ2, "checkIndex", "(I[B)V"⟩
def RJ10 : String := "java/lang/System"
def TJ10 : u_T := fun k => match k with
  | _ => ("", "", "", false)
def tyJ10 : Nat → FieldType := fun k => match k with
  | _ => .int
def RJ3 : String := "jdk/internal/util/Preconditions"
def TJ3 : u_T := fun k => match k with
  | _ => ("", "", "", false)
def tyJ3 : Nat → FieldType := fun k => match k with
  | _ => .int
abbrev cJ3_checkIndex_8e157 : ByteArray := prog_20_method_11_code
def yJ3_checkIndex_8e157 : MethodName := ⟨RJ3, "checkIndex", "(IILjava/util/function/BiFunction;)I"⟩
def RL : String := "OneBackLaw"
abbrev cL_law : ByteArray := code
def yL_law : MethodName := ⟨RL, "law", "([I)Z"⟩
abbrev vwCl : List vw_C := [(RX0, TX0, 3), (RX1, TX1, 5), (RX2, TX2, 5), (RX3, TX3, 16), (RX4, TX4, 4), (RX5, TX5, 2), (RX6, TX6, 9), (RX7, TX7, 10), (RX9, TX9, 17), (RX10, TX10, 6), (RX11, TX11, 51)]
end
section
/-! numbers: the machine's ints as integers -/
def w32 (x : Int) : Int := (x + 2147483648) % 4294967296 - 2147483648
def w64 (x : Int) : Int := (x + 9223372036854775808) % 18446744073709551616 - 9223372036854775808
def w8 (x : Int) : Int := (x + 128) % 256 - 128
def r32 (x : Int) : Prop := -2147483648 ≤ x ∧ x < 2147483648
def r64 (x : Int) : Prop := -9223372036854775808 ≤ x ∧ x < 9223372036854775808
theorem w32_r (x : Int) : r32 (w32 x) := by unfold r32 w32; omega
theorem w64_r (x : Int) : r64 (w64 x) := by unfold r64 w64; omega
theorem w32_id {x : Int} (h : r32 x) : w32 x = x := by unfold r32 at h; unfold w32; omega
theorem w64_id {x : Int} (h : r64 x) : w64 x = x := by unfold r64 at h; unfold w64; omega
theorem w8_id {x : Int} (h : -128 ≤ x) (h2 : x ≤ 127) : w8 x = x := by unfold w8; omega
theorem w8_r (x : Int) : -128 ≤ w8 x ∧ w8 x ≤ 127 := by unfold w8; omega
theorem w32_bmod (x : Int) : x.bmod 4294967296 = w32 x := by
  unfold w32
  rw [Int.bmod_def]
  have e1 : ((4294967296 : Nat) : Int) = 4294967296 := rfl
  simp only [e1]
  split <;> omega
theorem w64_bmod (x : Int) : x.bmod 18446744073709551616 = w64 x := by
  unfold w64
  rw [Int.bmod_def]
  have e1 : ((18446744073709551616 : Nat) : Int) = 18446744073709551616 := rfl
  simp only [e1]
  split <;> omega
theorem w8_bmod (x : Int) : x.bmod 256 = w8 x := by
  unfold w8
  rw [Int.bmod_def]
  have e1 : ((256 : Nat) : Int) = 256 := rfl
  simp only [e1]
  split <;> omega
theorem q_toInt (x : Int) : (Int32.ofInt x).toInt = w32 x := by rw [Int32.toInt_ofInt]; exact w32_bmod x
theorem q_toIntL (x : Int) : (Int64.ofInt x).toInt = w64 x := by rw [Int64.toInt_ofInt]; exact w64_bmod x
theorem q_in {x : Int} (h : r32 x) : (Int32.ofInt x).toInt = x := by rw [q_toInt, w32_id h]
theorem q_inL {x : Int} (h : r64 x) : (Int64.ofInt x).toInt = x := by rw [q_toIntL, w64_id h]
theorem q_of (x : Int) : Int32.ofInt (w32 x) = Int32.ofInt x := by
  apply Int32.toInt_inj.mp
  rw [q_in (w32_r x), q_toInt]
theorem q_lt {x y : Int} (hx : r32 x) (hy : r32 y) : Int32.ofInt x < Int32.ofInt y ↔ x < y := by rw [Int32.lt_iff_toInt_lt, q_in hx, q_in hy]
theorem q_le {x y : Int} (hx : r32 x) (hy : r32 y) : Int32.ofInt x ≤ Int32.ofInt y ↔ x ≤ y := by rw [Int32.le_iff_toInt_le, q_in hx, q_in hy]
theorem q_eq {x y : Int} (hx : r32 x) (hy : r32 y) : Int32.ofInt x = Int32.ofInt y ↔ x = y := by rw [← Int32.toInt_inj, q_in hx, q_in hy]
theorem q_eqL {x y : Int} (hx : r64 x) (hy : r64 y) : Int64.ofInt x = Int64.ofInt y ↔ x = y := by rw [← Int64.toInt_inj, q_inL hx, q_inL hy]
theorem q_ltL {x y : Int} (hx : r64 x) (hy : r64 y) : Int64.ofInt x < Int64.ofInt y ↔ x < y := by rw [Int64.lt_iff_toInt_lt, q_inL hx, q_inL hy]
theorem r32_0 : r32 0 := by unfold r32; omega
theorem q_0 : Int32.ofInt 0 = 0 := rfl
theorem q_add (x y : Int) : Int32.ofInt x + Int32.ofInt y = Int32.ofInt (w32 (x + y)) := by rw [q_of, Int32.ofInt_add]
theorem q_sub (x y : Int) : Int32.ofInt x - Int32.ofInt y = Int32.ofInt (w32 (x - y)) := by rw [q_of, Int32.ofInt_sub]
theorem q_mul (x y : Int) : Int32.ofInt x * Int32.ofInt y = Int32.ofInt (w32 (x * y)) := by rw [q_of, Int32.ofInt_mul]
theorem q_neg (x : Int) : -Int32.ofInt x = Int32.ofInt (w32 (-x)) := by rw [q_of, Int32.ofInt_neg]
theorem q_div {x y : Int} (hx : r32 x) (hy : r32 y) : Int32.ofInt x / Int32.ofInt y = Int32.ofInt (w32 (x.tdiv y)) := by
  apply Int32.toInt_inj.mp
  rw [Int32.toInt_div, q_in hx, q_in hy, q_in (w32_r _)]
  exact w32_bmod _
theorem tmod_r {x y : Int} (hx : r32 x) : r32 (x.tmod y) := by
  unfold r32 at *
  rcases Int.le_total 0 x with h | h
  · have h1 := Int.tmod_nonneg y h
    have h2 : (x.tmod y).natAbs ≤ x.natAbs := by rw [Int.natAbs_tmod]; exact Nat.mod_le _ _
    omega
  · have h2 : (x.tmod y).natAbs ≤ x.natAbs := by rw [Int.natAbs_tmod]; exact Nat.mod_le _ _
    have h3 : (-x).tmod y = -(x.tmod y) := Int.neg_tmod x y
    have h1 := Int.tmod_nonneg y (show 0 ≤ -x by omega)
    omega
theorem q_rem {x y : Int} (hx : r32 x) (hy : r32 y) : Int32.ofInt x - Int32.ofInt x / Int32.ofInt y * Int32.ofInt y = Int32.ofInt (x.tmod y) := by
  rw [q_div hx hy, q_of, ← Int32.ofInt_mul, ← Int32.ofInt_sub]
  congr 1
  have := Int.mul_tdiv_add_tmod x y
  rw [Int.mul_comm] at this
  omega
theorem q_bl {x : Int32} : r32 x.toInt := ⟨x.le_toInt, x.toInt_lt⟩
theorem q_blL {x : Int64} : r64 x.toInt := ⟨x.le_toInt, x.toInt_lt⟩
def bAnd (x y : Int) : Int := (Int32.ofInt x &&& Int32.ofInt y).toInt
def bOr (x y : Int) : Int := (Int32.ofInt x ||| Int32.ofInt y).toInt
def bShl (x y : Int) : Int := (Int32.ofInt x <<< (Int32.ofInt y &&& 31)).toInt
def bShr (x y : Int) : Int := (Int32.ofInt x >>> (Int32.ofInt y &&& 31)).toInt
def bUshr (x y : Int) : Int := ((Int32.ofInt x).toUInt32 >>> ((Int32.ofInt y).toUInt32 &&& Int32.toUInt32 31)).toInt32.toInt
def lShl (x y : Int) : Int := (Int64.ofInt x <<< ((Int32.ofInt y).toInt64 &&& 63)).toInt
def lOr (x y : Int) : Int := (Int64.ofInt x ||| Int64.ofInt y).toInt
theorem q_i2l {x : Int} (h : r32 x) : (Int32.ofInt x).toInt64 = Int64.ofInt x := by
  apply Int64.toInt_inj.mp
  rw [Int32.toInt_toInt64, q_in h, q_inL (by unfold r32 at h; unfold r64; omega)]
theorem q_i2b (x : Int) : (Int32.ofInt x).toInt8.toInt32 = Int32.ofInt (w8 x) := by
  apply Int32.toInt_inj.mp
  rw [Int8.toInt_toInt32, Int32.toInt_toInt8, q_toInt, q_in (by have := w8_r x; unfold r32; omega)]
  have := w8_bmod (w32 x)
  rw [show (2 : Nat) ^ 8 = 256 from rfl, this]
  unfold w8 w32
  omega
theorem q_clamp {x : Int} (h : r32 x) (h0 : 0 ≤ x) : (Int32.ofInt x).toNatClampNeg = x.toNat := by
  rw [← Int32.toNat_toInt, q_in h]
theorem q_vp {x : Int} {n : Nat} (h : r32 x) (h0 : 0 ≤ x) (hn : x.toNat < n) : vp_in (Int32.ofInt x) n := by
  unfold vp_in
  rintro (q | q)
  · have := (q_lt h r32_0).mp (by rw [q_0]; exact q)
    omega
  · rw [q_clamp h h0] at q
    omega
/-! values and memory -/
abbrev PV : Type := Int ⊕ Int ⊕ Int
abbrev pI (x : Int) : PV := .inl x
abbrev pL (x : Int) : PV := .inr (.inl x)
abbrev pA (x : Int) : PV := .inr (.inr x)
def eR (b : Nat) (cs : Nat → Nat) (a : Int) : Value := if a = -1 then .null else if 0 ≤ a then .ref (b + a.toNat) else .ref (cs (-a - 2).toNat)
def eV (b : Nat) (cs : Nat → Nat) : PV → Value
  | .inl x => .int (Int32.ofInt x)
  | .inr (.inl x) => .long (Int64.ofInt x)
  | .inr (.inr a) => eR b cs a
def okV : PV → Prop
  | .inl x => r32 x
  | .inr (.inl x) => r64 x
  | .inr (.inr _) => True
abbrev Mem : Type := (Int → Int → Int) × (Int → Int) × (Int → Int) × Nat
def up1 (f : Int → Int) (k v : Int) : Int → Int := fun j => if j = k then v else f j
def up2 (f : Int → Int → Int) (a i v : Int) : Int → Int → Int := fun x y => if x = a ∧ y = i then v else f x y
def mst (M : Mem) (a i v : Int) : Mem := (up2 M.1 a i v, M.2)
def fty : Nat → Nat → FieldType := fun c => match c with
  | 0 => tyX0
  | 1 => tyX1
  | 2 => tyX2
  | 3 => tyX3
  | 4 => tyX4
  | 5 => tyX5
  | 6 => tyX6
  | 7 => tyX7
  | 8 => tyX9
  | 9 => tyX10
  | _ => tyX11
def nfl : Nat → Nat := fun c => match c with
  | 0 => 3
  | 1 => 5
  | 2 => 5
  | 3 => 16
  | 4 => 4
  | 5 => 2
  | 6 => 9
  | 7 => 10
  | 8 => 17
  | 9 => 6
  | _ => 51
def tOf (k : Int) (i : Nat) : FieldType := if k = 11 then .byte else if k = 12 then .int else if k = 13 then .boolean else if 14 ≤ k then .object "" else fty k.toNat i
def okT : FieldType → Int → Prop
  | .long, x => r64 x
  | .object _, x => -1 ≤ x
  | .array _, x => -1 ≤ x
  | .boolean, x => x = 0 ∨ x = 1
  | .byte, x => -128 ≤ x ∧ x ≤ 127
  | _, x => r32 x
def eO (b : Nat) (x : Int) : Option Nat := if x < 0 then none else some (b + x.toNat)
def eT (b : Nat) : FieldType → Int → Value
  | .long, x => .long (Int64.ofInt x)
  | .object _, x => va_rf (eO b x)
  | .array _, x => va_rf (eO b x)
  | _, x => .int (Int32.ofInt x)
def tagT : FieldType → Int → PV
  | .long, x => pL x
  | .object _, x => pA x
  | .array _, x => pA x
  | _, x => pI x
theorem eO_rf {b : Nat} {cs : Nat → Nat} {x : Int} (h : -1 ≤ x) : va_rf (eO b x) = eR b cs x := by
  unfold eO eR
  by_cases h1 : x = -1
  · subst h1; rfl
  · rw [if_neg (by omega), if_neg h1, if_pos (by omega)]; rfl
theorem eV_tag {b : Nat} {cs : Nat → Nat} {t : FieldType} {x : Int} (h : okT t x) : eT b t x = eV b cs (tagT t x) := by
  cases t <;> first | rfl | exact eO_rf h
theorem okV_tag {t : FieldType} {x : Int} (h : okT t x) : okV (tagT t x) := by
  cases t <;> first | exact h | trivial | (rcases h with h | h <;> subst h <;> (unfold tagT okV r32; simp; done)) | (obtain ⟨h1, h2⟩ := h; unfold tagT okV r32; simp only []; omega)
def cE (cA : Nat → ClassId) (b : Nat) (M : Mem) (a : Nat) : va_E :=
  if M.2.1 a = 11 ∨ M.2.1 a = 12 ∨ M.2.1 a = 13 then .inl (cA (M.2.1 a).toNat, (M.2.2.1 a).toNat, .inl fun j => Int32.ofInt (M.1 a j))
  else if 14 ≤ M.2.1 a then .inl (cA (M.2.1 a).toNat, (M.2.2.1 a).toNat, .inr (.inr (.inr (.inr fun j => eO b (M.1 a j)))))
  else .inr ((M.2.1 a).toNat, (List.range (nfl (M.2.1 a).toNat)).map fun j => eT b (fty (M.2.1 a).toNat j) (M.1 a j))
def wsM (cA : Nat → ClassId) (b : Nat) (M : Mem) : va_W := (List.range M.2.2.2).map fun a => (b + a, cE cA b M a)
def MemOK (M : Mem) : Prop := (∀ a : Int, M.2.1 a ≠ -1 → 0 ≤ a ∧ a < M.2.2.2) ∧ (∀ a : Int, -1 ≤ M.2.1 a ∧ M.2.1 a ≤ 18) ∧ (∀ a : Int, 0 ≤ M.2.2.1 a ∧ M.2.2.1 a < 2147483648) ∧ ∀ (a : Int) (i : Nat), M.2.1 a ≠ -1 → okT (tOf (M.2.1 a) i) (M.1 a i)
theorem wsM_at {cA : Nat → ClassId} {b : Nat} {M : Mem} {a : Nat} (h : a < M.2.2.2) : (wsM cA b M)[a]? = some (b + a, cE cA b M a) := by
  unfold wsM
  rw [List.getElem?_map, List.getElem?_range h]
  rfl
theorem wsM_D {cA : Nat → ClassId} {b : Nat} {M : Mem} : va_D (fun q => b ≤ q) (wsM cA b M) := by
  have key : ∀ (i : Nat) (p : Nat × va_E), (wsM cA b M)[i]? = some p → p.1 = b + i := by
    intro i p h
    unfold wsM at h
    rw [List.getElem?_map] at h
    cases hr : (List.range M.2.2.2)[i]? with
    | none => rw [hr] at h; cases h
    | some j =>
      rw [hr] at h
      obtain ⟨hj, e⟩ := List.getElem?_eq_some_iff.mp hr
      rw [List.getElem_range] at e
      cases h
      show b + j = b + i
      rw [← e]
  refine ⟨fun i j p q hp hq e => ?_, fun k q hk => ?_⟩
  · rw [key i p hp, key j q hq] at e
    omega
  · rw [key k q hk]
    exact Nat.le_add_right _ _
theorem cE_arr {cA : Nat → ClassId} {b : Nat} {M : Mem} {a : Nat} {k : Int} (hk : M.2.1 a = k) (h : k = 11 ∨ k = 12 ∨ k = 13) : cE cA b M a = .inl (cA k.toNat, (M.2.2.1 a).toNat, .inl fun j => Int32.ofInt (M.1 a j)) := by
  unfold cE; rw [hk, if_pos h]
theorem cE_ref {cA : Nat → ClassId} {b : Nat} {M : Mem} {a : Nat} {k : Int} (hk : M.2.1 a = k) (h : 14 ≤ k) : cE cA b M a = .inl (cA k.toNat, (M.2.2.1 a).toNat, .inr (.inr (.inr (.inr fun j => eO b (M.1 a j))))) := by
  unfold cE; rw [hk, if_neg (by omega), if_pos h]
theorem cE_obj {cA : Nat → ClassId} {b : Nat} {M : Mem} {a : Nat} {k : Int} (hk : M.2.1 a = k) (h : k ≤ 10) : cE cA b M a = .inr (k.toNat, (List.range (nfl k.toNat)).map fun j => eT b (fty k.toNat j) (M.1 a j)) := by
  unfold cE; rw [hk, if_neg (by omega), if_neg (by omega)]
/-- one cell's contents change: the world's list changes at its place alone -/
theorem wsM_set {cA : Nat → ClassId} {b : Nat} {M : Mem} {a : Nat} {i v : Int} (h : a < M.2.2.2) : (wsM cA b M).set a (b + a, cE cA b (mst M a i v) a) = wsM cA b (mst M a i v) := by
  apply List.ext_getElem?
  intro j
  rw [List.getElem?_set]
  by_cases hj : a = j
  · subst hj
    have hl : a < (wsM cA b M).length := by unfold wsM; rw [List.length_map, List.length_range]; exact h
    rw [if_pos rfl, if_pos hl, wsM_at (M := mst M a i v) (show a < (mst M a i v).2.2.2 from h)]
  · rw [if_neg hj]
    unfold wsM
    rw [List.getElem?_map, List.getElem?_map]
    show Option.map _ _ = Option.map _ (List.range M.2.2.2)[j]?
    cases hr : (List.range M.2.2.2)[j]? with
    | none => rfl
    | some j' =>
      obtain ⟨hjl, e⟩ := List.getElem?_eq_some_iff.mp hr
      rw [List.getElem_range] at e
      subst e
      show some (b + j, cE cA b M j) = some (b + j, cE cA b (mst M a i v) j)
      have hr : ∀ y, (mst M a i v).1 (j : Int) y = M.1 (j : Int) y := fun y => by
        show (if (j : Int) = (a : Int) ∧ y = i then v else M.1 j y) = _
        rw [if_neg]
        rintro ⟨q, -⟩
        exact hj (by omega)
      congr 2
      unfold cE
      simp only [hr]
      rfl
end
section
/-! the ambient facts: classes, arrays' classes, nest links, the constants that nobody writes -/
abbrev GG : Type := (Nat → ClassId) × (Nat → Nat → Nat) × (Nat → ClassId) × (Nat → Nat) × (Nat → Nat)
abbrev MI : Type := MethodName × ByteArray × Nat × Option FieldType
abbrev AA (b : Nat) : Nat → Prop := fun q => b ≤ q
def tysG (cA : Nat → ClassId) : List (ClassId × FieldType) := [(cA 11, .byte), (cA 12, .int), (cA 13, .boolean), (cA 14, .object RX0), (cA 15, .object RX1), (cA 16, .object RX4), (cA 17, .object RX6), (cA 18, .object RX7)]
def sTab : Nat → List Int := fun k => match k with
  | 0 => [0, 9, 12, 16, 18]
  | 1 => [1, 3, 3, 2, 2, 2, 2, 2, 1, 1, 1, 1, 3, 3, 3, 0, 2, 3]
  | 2 => [1, 0, 0, 0, 0, 0, 0, 0, 0, 0, 0, 0, 0, 0, 0, 0, 1, 0, 0, 0, 0, 0, 0, 0, 1, 0, 0, 2, 0, 0, 1, 0, 0, 0, 0, 0, 0, 0, 0, 0, 0, 0, 0, 0, 1, 0, 0, 0, 0, 0, 0, 0, 0, 0]
  | _ => [6, 0, 0, 5, 4, 9, 5, 4, 9, 5, 9, 0, 5, 5, 0, 4, 9, 0, 4, 9, 0, 3, 3, 0, 9, 0, 0, 5, 0, 0, 99, 0, 0, 19, 0, 0, 3, 5, 4, 3, 5, 4, 3, 3, 9, 0, 0, 0, 5, 4, 0, 5, 4, 18]
def sNm : Nat → String := fun k => match k with
  | 0 => "FIRST_LINE"
  | 1 => "NUMBERS"
  | 2 => "LEAST"
  | _ => "MOST"
def sTx : List String := ["houses", "has", "needs", "watch", "passes", "weight", "worth", "son", "thief", "rate", "catch", "double", "take", "give", "set", "night", "given", "left", ""]
def sIx : List Nat := [153, 154, 156, 158, 160, 162, 164, 166, 168, 170, 172, 174, 176, 178, 180, 182, 184, 186, 188]
def sLen : List Nat := sTx.map fun t => t.length
def sByt : List (List Int32) := sTx.map fun t => t.toList.map fun c => Int32.ofNat c.toNat
def NW : List (String × Nat × MethodName × String) := [("OneBack$Town", 46, ⟨"OneBack", "fillRow", "([II)V"⟩, "OneBack"), ("OneBack$Told", 54, ⟨"OneBack$Law", "<init>", "()V"⟩, "OneBack"), ("OneBack$Told", 55, ⟨"OneBack$Nights", "<init>", "()V"⟩, "OneBack"), ("OneBack$Sight", 28, ⟨"OneBack", "fillRow", "([II)V"⟩, "OneBack"), ("OneBack", 22, ⟨"OneBack$Reader", "<init>", "()V"⟩, "OneBack"), ("OneBack$Reader", 27, ⟨"OneBack$Law", "<init>", "()V"⟩, "OneBack"), ("OneBack$Reader", 34, ⟨"OneBack$Nights", "<init>", "()V"⟩, "OneBack"), ("OneBack", 46, ⟨"OneBack$Supply", "<init>", "()V"⟩, "OneBack"), ("OneBack$Reader", 216, ⟨"OneBack", "cell", "(II)I"⟩, "OneBack"), ("OneBack$Town", 50, ⟨"OneBack", "copyRow", "([I[I)V"⟩, "OneBack"), ("OneBack$Nights", 28, ⟨"OneBack", "copyRow", "([I[I)V"⟩, "OneBack"), ("OneBack$Sight", 32, ⟨"OneBack", "copyRow", "([I[I)V"⟩, "OneBack"), ("OneBack$Town", 54, ⟨"OneBack", "cell", "(II)I"⟩, "OneBack"), ("OneBack$Walk", 69, ⟨"OneBack", "copyRow", "([I[I)V"⟩, "OneBack"), ("OneBack$Walk", 73, ⟨"OneBack", "fillRow", "([II)V"⟩, "OneBack"), ("OneBack$Walk", 145, ⟨"OneBack", "isGood", "(I)Z"⟩, "OneBack"), ("OneBack$Walk", 130, ⟨"OneBack", "cell", "(II)I"⟩, "OneBack"), ("OneBack$Walk", 136, ⟨"OneBack", "cell", "(III)I"⟩, "OneBack"), ("OneBack$Views", 75, ⟨"OneBack", "cell", "(III)I"⟩, "OneBack"), ("OneBack$Supply", 69, ⟨"OneBack", "fillRow", "([II)V"⟩, "OneBack"), ("OneBack$Town", 88, ⟨"OneBack", "commonDivisor", "(II)I"⟩, "OneBack"), ("OneBack$Sight", 49, ⟨"OneBack", "cell", "(III)I"⟩, "OneBack"), ("OneBack$Sight", 78, ⟨"OneBack", "cell", "(II)I"⟩, "OneBack"), ("OneBack$Views", 159, ⟨"OneBack", "leastTerms", "(IIZ)I"⟩, "OneBack"), ("OneBack$Porter", 29, ⟨"OneBack", "fillRow", "([II)V"⟩, "OneBack"), ("OneBack$Porter", 37, ⟨"OneBack", "copyRow", "([I[I)V"⟩, "OneBack"), ("OneBack$Porter", 46, ⟨"OneBack", "cell", "(II)I"⟩, "OneBack"), ("OneBack$Told", 103, ⟨"OneBack", "copyRow", "([I[I)V"⟩, "OneBack")]
def Amb (G : GG) (b : Nat) (U : State) : Prop :=
  va_K (G.1, G.2.1) vwCl (tysG G.2.2.1) U ∧ (∀ q ∈ NW, va_Nw (.methodLinkNest q.1 q.2.1 q.2.2.1 q.2.2.2) U) ∧
  (∀ k, k < 4 → va_Z RX3 (sNm k) "[I" (.ref (G.2.2.2.1 k)) (AA b) U U.heap ∧ va_T .int (G.2.2.2.1 k) (sTab k).length (fun j => .int (Int32.ofInt ((sTab k).getD j 0))) (AA b) U U.heap) ∧
  va_Z RJ0 "COMPACT_STRINGS" "Z" (.int 1) (AA b) U U.heap ∧ va_Zq RJ3 "SIOOBE_FORMATTER" "Ljava/util/function/BiFunction;" (AA b) U U.heap ∧
  vk_S 19 sLen sByt (fun i => G.2.2.2.1 (4 + i)) G.2.2.2.2 (AA b) U U.heap ∧ (∀ i, i < 19 → vk_R RX3 (sIx.getD i 0) (sTx.getD i "") (G.2.2.2.1 (4 + i)) U) ∧
  (∀ C ∈ [RX0, RX1, RX4, RX6, RX7], va_AO C U)
theorem Amb.move {G : GG} {b : Nat} {s U : State} (h : Amb G b s) (hW : s.WarmedH U.vm) (hq : ∀ a : Nat, a < s.heap.size → ¬ AA b a → U.heap[a]? = s.heap[a]?) : Amb G b U := by
  obtain ⟨h1, h2, h3, h4, h5, h6, h7, h8⟩ := h
  refine ⟨h1.moved hW.alike, fun q hm => (h2 q hm).warmM hW, fun k hk => ⟨((h3 k hk).1.moved hW.alike).kept hq, ((h3 k hk).2.moved hW.alike).kept hq⟩, (h4.moved hW.alike).kept hq, (h5.moved hW.alike).kept hq, (h6.moved hW.alike).kept hq, fun i hi => (h7 i hi).warm hW, fun C hC => (h8 C hC).moved hW.alike⟩
/-! the judgements -/
def rmD (d b0 b1 : Nat) : Room := { frames := d, cells := b0, slots := b1, locals := 64 * d }
def lsL (b : Nat) (cs : Nat → Nat) : Nat → List (Option PV) → List (Nat × Value)
  | _, [] => []
  | i, none :: r => lsL b cs (i + 1) r
  | i, some v :: r => (i, eV b cs v) :: lsL b cs (i + 1) r
theorem lsL_mem {b : Nat} {cs : Nat → Nat} {q : Nat × Value} : ∀ {ls : List (Option PV)} {i : Nat}, q ∈ lsL b cs i ls ↔ ∃ (k : Nat) (v : PV), ls[k]? = some (some v) ∧ q = (i + k, eV b cs v)
  | [], i => by simp [lsL]
  | none :: r, i => by
    rw [lsL, lsL_mem]
    constructor
    · rintro ⟨k, v, h1, h2⟩
      exact ⟨k + 1, v, by simpa using h1, by rw [h2]; congr 1; omega⟩
    · rintro ⟨k, v, h1, h2⟩
      cases k with
      | zero => simp at h1
      | succ k => exact ⟨k, v, by simpa using h1, by rw [h2]; congr 1; omega⟩
  | some w :: r, i => by
    rw [lsL, List.mem_cons, lsL_mem]
    constructor
    · rintro (h | ⟨k, v, h1, h2⟩)
      · exact ⟨0, w, by simp, h⟩
      · exact ⟨k + 1, v, by simpa using h1, by rw [h2]; congr 1; omega⟩
    · rintro ⟨k, v, h1, h2⟩
      cases k with
      | zero => simp at h1; subst h1; exact Or.inl h2
      | succ k => exact Or.inr ⟨k, v, by simpa using h1, by rw [h2]; congr 1; omega⟩
def okL (ls : List (Option PV)) : Prop := ∀ (i : Nat) (v : PV), ls[i]? = some (some v) → okV v
def okS (st : List PV) : Prop := ∀ v ∈ st, okV v
def okR (r : Option PV × Mem) : Prop := MemOK r.2 ∧ ∀ v, r.1 = some v → okV v
def QcR (G : GG) (b : Nat) (r : Option PV × Mem) : Array Value → State → Outcome → State → Prop := fun _ st o t =>
  o = .returned (r.1.map (eV b G.2.2.2.1)) ∧ t.heap.size = b + r.2.2.2.2 ∧ va_P (G.1, G.2.1) vwCl (wsM G.2.2.1 b r.2) t.heap ∧ st.heap.size ≤ t.heap.size ∧ ∀ q : Nat, q < st.heap.size → ¬ AA b q → t.heap[q]? = st.heap[q]?
def PcR (G : GG) (b : Nat) (args : List PV) (M : Mem) : Array Value → State → Prop := fun a U =>
  a = (args.map (eV b G.2.2.2.1)).toArray ∧ U.heap.size = b + M.2.2.2 ∧ va_P (G.1, G.2.1) vwCl (wsM G.2.2.1 b M) U.heap ∧ Amb G b U
def Cx (mi : MI) (G : GG) (b : Nat) (p : Program) (s : State) (m : MethodId) (args : Array Value) (meth : Method) (c : Code) : Prop :=
  p.tables.exec = Jvm.exec ∧ c.code = mi.2.1 ∧ meth.sig.returnType = mi.2.2.2 ∧ c.maxLocals = mi.2.2.1 ∧ s.vm.findClass mi.1.cls = some m.cls ∧ (∀ w ∈ GT, w.before args s = true) ∧ meth.locks = false ∧ meth.name = mi.1.name ∧ Amb G b s ∧ b ≤ s.heap.size
def Dy (mi : MI) (G : GG) (b b0 b1 bc bs : Nat) (s : State) (M : Mem) (ls : List (Option PV)) (H : Heap) (locs : List Loc) (cells slots : Nat) (lsA : Array Slot) : Prop :=
  H.size = b + M.2.2.2 ∧ va_P (G.1, G.2.1) vwCl (wsM G.2.2.1 b M) H ∧ va_S (AA b) s.heap H locs ∧ lv_has lsA mi.2.2.1 (lsL b G.2.2.2.1 0 ls) ∧ cells + bc ≤ b0 ∧ slots + bs ≤ b1
def VW (mi : MI) (d b0 b1 bc bs pc : Nat) (ls : List (Option PV)) (st : List PV) (M : Mem) (r : Option PV × Mem) : Prop :=
  ∀ (G : GG) (b : Nat) (p : Program) (l : Launch) (e : Env) (s : State) (m : MethodId) (args : Array Value) (below : List Frame) (meth : Method) (c : Code), Cx mi G b p s m args meth c →
    ∀ (H : Heap) (locs : List Loc) (cells slots : Nat) (lsA : Array Slot), Dy mi G b b0 b1 bc bs s M ls H locs cells slots lsA →
      W p l e (rmD d b0 b1) s m args below meth c H locs cells slots (MQ below (QcR G b r) args s b0 b1 (AA b)) (F0 m pc lsA (st.map (eV b G.2.2.2.1)))
/-- from this point of the method's body: if X is some r, the method returns with r -/
def V {ρ : Type} (mi : MI) (d b0 b1 bc bs pc : Nat) (ls : List (Option PV)) (st : List PV) (M : Mem) (dec : ρ → Option PV × Mem) (X : Option ρ) : Prop :=
  ∀ r, X = some r → MemOK M → okL ls → okS st → okR (dec r) ∧ VW mi d b0 b1 bc bs pc ls st M (dec r)
/-- a method's contract at these arguments and this memory: if X is some r, it returns with r -/
def Ct {ρ : Type} (mi : MI) (d b0 b1 : Nat) (args : List PV) (M : Mem) (dec : ρ → Option PV × Mem) (X : Option ρ) : Prop :=
  ∀ r, X = some r → MemOK M → okS args → okR (dec r) ∧ ∀ (G : GG) (b : Nat) (l : Launch), Met l mi.1 (.code mi.1 mi.2.1 mi.2.2.1 mi.2.2.2 :: GT) (rmD d b0 b1) (PcR G b args M) (QcR G b (dec r)) b0 b1 (AA b)
def entL : List PV → List (Option PV)
  | [] => []
  | .inr (.inl x) :: r => some (.inr (.inl x)) :: none :: entL r
  | v :: r => some v :: entL r
theorem eR_cat (b : Nat) (cs : Nat → Nat) (a : Int) : (eR b cs a).category = 1 := by
  unfold eR; split
  · rfl
  · split <;> rfl
theorem entL_args {b : Nat} {cs : Nat → Nat} {k : Nat} : ∀ (args : List PV) (i : Nat), lsL b cs i (entL args ++ List.replicate k none) = lv_args i (args.map (eV b cs))
  | [], i => by
    show lsL b cs i (List.replicate k none) = []
    induction k generalizing i with
    | zero => rfl
    | succ k ih => rw [List.replicate_succ]; exact ih (i + 1)
  | .inl x :: r, i => by
    show (i, eV b cs (.inl x)) :: lsL b cs (i + 1) (entL r ++ List.replicate k none) = (i, eV b cs (.inl x)) :: lv_args (i + 1) (r.map (eV b cs))
    rw [entL_args r (i + 1)]
  | .inr (.inl x) :: r, i => by
    show (i, eV b cs (.inr (.inl x))) :: lsL b cs (i + 1 + 1) (entL r ++ List.replicate k none) = (i, eV b cs (.inr (.inl x))) :: lv_args (i + 2) (r.map (eV b cs))
    rw [entL_args r (i + 1 + 1)]
  | .inr (.inr x) :: r, i => by
    show (i, eV b cs (.inr (.inr x))) :: lsL b cs (i + 1) (entL r ++ List.replicate k none) = (i, eV b cs (.inr (.inr x))) :: lv_args (if (eR b cs x).category = 2 then i + 2 else i + 1) (r.map (eV b cs))
    rw [eR_cat, if_neg (by decide), entL_args r (i + 1)]
theorem entL_len {b : Nat} {cs : Nat → Nat} : ∀ (args : List PV), (lg_sl (args.map (eV b cs))).length = (entL args).length
  | [] => rfl
  | .inl x :: r => by
    have := entL_len (b := b) (cs := cs) r
    simp only [lg_sl, List.map_cons, List.flatMap_cons, List.length_append, entL, List.length_cons] at this ⊢
    simp only [eV, Value.category] at this ⊢
    simp at this ⊢
    omega
  | .inr (.inl x) :: r => by
    have := entL_len (b := b) (cs := cs) r
    simp only [lg_sl, List.map_cons, List.flatMap_cons, List.length_append, entL, List.length_cons] at this ⊢
    simp only [eV, Value.category] at this ⊢
    simp at this ⊢
    omega
  | .inr (.inr x) :: r => by
    have := entL_len (b := b) (cs := cs) r
    simp only [lg_sl, List.map_cons, List.flatMap_cons, List.length_append, entL, List.length_cons] at this ⊢
    rw [show (eV b cs (.inr (.inr x))).category = 1 from eR_cat b cs x]
    simp at this ⊢
    omega
theorem okL_ent : ∀ {args : List PV}, okS args → okL (entL args)
  | [], _ => by intro i v h; simp [entL] at h
  | .inl x :: r, h => by
    intro i v hv
    cases i with
    | zero => simp [entL] at hv; subst hv; exact h _ List.mem_cons_self
    | succ i => exact okL_ent (fun v hm => h v (List.mem_cons_of_mem _ hm)) i v (by simpa [entL] using hv)
  | .inr (.inl x) :: r, h => by
    intro i v hv
    match i, hv with
    | 0, hv => simp [entL] at hv; subst hv; exact h _ List.mem_cons_self
    | 1, hv => simp [entL] at hv
    | i + 2, hv => exact okL_ent (fun v hm => h v (List.mem_cons_of_mem _ hm)) i v (by simpa [entL] using hv)
  | .inr (.inr x) :: r, h => by
    intro i v hv
    cases i with
    | zero => simp [entL] at hv; subst hv; exact h _ List.mem_cons_self
    | succ i => exact okL_ent (fun v hm => h v (List.mem_cons_of_mem _ hm)) i v (by simpa [entL] using hv)
/-- a contract out of its body -/
theorem Ct.of {ρ : Type} {mi : MI} {d b0 b1 : Nat} {args : List PV} {M : Mem} {dec : ρ → Option PV × Mem} {X : Option ρ} (k : Nat) (hy : plainName mi.1.cls = true) (hn : (entL args).length + k = mi.2.2.1)
    (h : V mi d b0 b1 b0 b1 0 (entL args ++ List.replicate k none) [] M dec X) : Ct mi d b0 b1 args M dec X := by
  intro r hr hM ha
  have hL : okL (entL args ++ List.replicate k none) := by
    intro i v hv
    by_cases hi : i < (entL args).length
    · rw [List.getElem?_append_left hi] at hv
      exact okL_ent ha i v hv
    · rw [List.getElem?_append_right (by omega)] at hv
      obtain ⟨_, e⟩ := List.getElem?_eq_some_iff.mp hv
      rw [List.getElem_replicate] at e
      cases e
  obtain ⟨h1, h2⟩ := h r hr hM hL (fun v hv => by cases hv)
  refine ⟨h1, fun G b l => ?_⟩
  refine Met.ofW (cc := mi.2.1) (maxL := mi.2.2.1) (ret := mi.2.2.2) hy rfl ?_
  intro p e s m args' below meth c s₁ B hml hv
  obtain ⟨rfl, hsz, hP, hA⟩ := hv
  have hts := atoms_spec (ws := .code mi.1 mi.2.1 mi.2.2.1 mi.2.2.2 :: GT) B.pre
  have hown : s.vm.findClass mi.1.cls = some m.cls := findClass_of_methodNamed B.named
  rw [lg_entry_eq]
  have hl := lv_entry (args.map (eV b G.2.2.2.1)) (n := mi.2.2.1) (by rw [entL_len]; omega)
  have := h2 G b p l e s m (args.map (eV b G.2.2.2.1)).toArray below meth c ⟨B.exec, B.bytes, B.returns, hml, hown, fun w hw => hts w (List.mem_cons_of_mem _ hw), B.notSynchronized, (name_of_methodNamed B.named B.method).1, hA, by rw [hsz]; exact Nat.le_add_right _ _⟩
    s.heap [] 0 0 _ ⟨hsz, hP, va_S.rf, by rw [entL_args]; exact hl, by omega, by omega⟩
  exact this
section Rules
variable {ρ : Type} {mi : MI} {d b0 b1 bc bs bc' bs' pc pc' : Nat} {ls ls' : List (Option PV)} {st st' : List PV} {M M' : Mem} {dec : ρ → Option PV × Mem} {X : Option ρ}
/-- the general step -/
theorem v_step (k : V mi d b0 b1 bc' bs' pc' ls' st' M' dec X) (hok : MemOK M → okL ls → okS st → MemOK M' ∧ okL ls' ∧ okS st')
    (hw : MemOK M → okL ls → okS st → ∀ (G : GG) (b : Nat) (p : Program) (l : Launch) (e : Env) (s : State) (m : MethodId) (args : Array Value) (below : List Frame) (meth : Method) (c : Code) (Q : State → Prop), Cx mi G b p s m args meth c →
      ∀ (H : Heap) (locs : List Loc) (cells slots : Nat) (lsA : Array Slot), Dy mi G b b0 b1 bc bs s M ls H locs cells slots lsA →
        (∀ (H' : Heap) (locs' : List Loc) (cells' slots' : Nat) (lsA' : Array Slot), Dy mi G b b0 b1 bc' bs' s M' ls' H' locs' cells' slots' lsA' → W p l e (rmD d b0 b1) s m args below meth c H' locs' cells' slots' Q (F0 m pc' lsA' (st'.map (eV b G.2.2.2.1)))) →
        W p l e (rmD d b0 b1) s m args below meth c H locs cells slots Q (F0 m pc lsA (st.map (eV b G.2.2.2.1)))) : V mi d b0 b1 bc bs pc ls st M dec X := by
  intro r hr hM hL hS
  obtain ⟨h1, h2, h3⟩ := hok hM hL hS
  obtain ⟨g1, g2⟩ := k r hr h1 h2 h3
  refine ⟨g1, fun G b p l e s m args below meth c C H locs cells slots lsA D => ?_⟩
  exact hw hM hL hS G b p l e s m args below meth c _ C H locs cells slots lsA D (fun H' locs' cells' slots' lsA' D' => g2 G b p l e s m args below meth c C H' locs' cells' slots' lsA' D')
/-- a step of the stack alone -/
theorem v_op (k : V mi d b0 b1 bc bs pc' ls st' M dec X) (hok : okL ls → okS st → okS st')
    (hw : okL ls → okS st → ∀ (G : GG) (b : Nat) (p : Program) (l : Launch) (e : Env) (s : State) (m : MethodId) (args : Array Value) (below : List Frame) (meth : Method) (c : Code) (Q : State → Prop), Cx mi G b p s m args meth c →
      ∀ (H : Heap) (locs : List Loc) (cells slots : Nat) (lsA : Array Slot), lv_has lsA mi.2.2.1 (lsL b G.2.2.2.1 0 ls) →
        W p l e (rmD d b0 b1) s m args below meth c H locs cells slots Q (F0 m pc' lsA (st'.map (eV b G.2.2.2.1))) →
        W p l e (rmD d b0 b1) s m args below meth c H locs cells slots Q (F0 m pc lsA (st.map (eV b G.2.2.2.1)))) : V mi d b0 b1 bc bs pc ls st M dec X :=
  v_step k (fun hM hL hS => ⟨hM, hL, hok hL hS⟩) (fun hM hL hS G b p l e s m args below meth c Q C H locs cells slots lsA D kk => hw hL hS G b p l e s m args below meth c Q C H locs cells slots lsA D.2.2.2.1 (kk H locs cells slots lsA D))
/-- fewer locals -/
def lsle : List (Option PV) → List (Option PV) → Prop
  | [], _ => True
  | none :: a, _ :: b => lsle a b
  | some v :: a, w :: b => w = some v ∧ lsle a b
  | _, _ => False
theorem lsle_at : ∀ {a b : List (Option PV)} {i : Nat} {v : PV}, lsle a b → a[i]? = some (some v) → b[i]? = some (some v)
  | [], _, i, v, _, h => by simp at h
  | none :: a, [], i, v, h, _ => by simp [lsle] at h
  | none :: a, w :: b, i, v, h, hi => by
    cases i with
    | zero => simp at hi
    | succ i => simpa using lsle_at (a := a) (b := b) h (by simpa using hi)
  | some x :: a, [], i, v, h, _ => by simp [lsle] at h
  | some x :: a, w :: b, i, v, h, hi => by
    obtain ⟨rfl, h⟩ := h
    cases i with
    | zero => simpa using hi
    | succ i => simpa using lsle_at (a := a) (b := b) h (by simpa using hi)
theorem v_drop (ls' : List (Option PV)) (hl : lsle ls' ls) (k : V mi d b0 b1 bc bs pc ls' st M dec X) : V mi d b0 b1 bc bs pc ls st M dec X :=
  v_step k (fun hM hL hS => ⟨hM, fun i v h => hL i v (lsle_at hl h), hS⟩) (fun hM hL hS G b p l e s m args below meth c Q C H locs cells slots lsA D kk => kk H locs cells slots lsA ⟨D.1, D.2.1, D.2.2.1, ⟨D.2.2.2.1.1, D.2.2.2.1.2.1, fun q hq => by
    obtain ⟨k, v, h1, h2⟩ := lsL_mem.mp hq
    exact D.2.2.2.1.2.2 q (lsL_mem.mpr ⟨k, v, lsle_at hl h1, h2⟩)⟩, D.2.2.2.2⟩)
theorem v_eq {X' : Option ρ} (h : X = X') (k : V mi d b0 b1 bc bs pc ls st M dec X') : V mi d b0 b1 bc bs pc ls st M dec X := h ▸ k
theorem v_none : V mi d b0 b1 bc bs pc ls st M dec (none : Option ρ) := fun r h => by cases h
/-- what isn't so by the memory's own order needn't be looked at -/
theorem v_pure {P : Prop} (h : MemOK M → okL ls → okS st → P) (k : P → V mi d b0 b1 bc bs pc ls st M dec X) : V mi d b0 b1 bc bs pc ls st M dec X := fun r hr hM hL hS => k (h hM hL hS) r hr hM hL hS
theorem v_if {P : Prop} [Decidable P] {A : Option ρ} (k : P → V mi d b0 b1 bc bs pc ls st M dec A) : V mi d b0 b1 bc bs pc ls st M dec (if P then A else none) := by
  intro r hr hM hL hS
  by_cases h : P
  · rw [if_pos h] at hr; exact k h r hr hM hL hS
  · rw [if_neg h] at hr; cases hr
end Rules
end
section
section RulesA
variable {ρ : Type} {mi : MI} {d b0 b1 bc bs pc : Nat} {ls ls' : List (Option PV)} {st : List PV} {M : Mem} {dec : ρ → Option PV × Mem} {X A B : Option ρ}
theorem okS_cons {v : PV} {st : List PV} : okS (v :: st) ↔ okV v ∧ okS st := by
  unfold okS
  constructor
  · intro h; exact ⟨h v List.mem_cons_self, fun w hw => h w (List.mem_cons_of_mem _ hw)⟩
  · rintro ⟨h1, h2⟩ w hw
    rcases List.mem_cons.mp hw with rfl | hw
    · exact h1
    · exact h2 w hw
theorem lv_of {b : Nat} {cs : Nat → Nat} {n i : Nat} {v : PV} {lsA : Array Slot} (h : lv_has lsA n (lsL b cs 0 ls)) (hi : ls[i]? = some (some v)) : lsA[i]? = some (.val (eV b cs v)) :=
  h.2.2 (i, eV b cs v) (lsL_mem.mpr ⟨i, v, hi, by simp⟩)
theorem v_iconst {n : Int} (hd : decode mi.2.1 pc = .ok (.iconst n, 1)) (hr : -2147483648 ≤ n ∧ n < 2147483648) (k : V mi d b0 b1 bc bs (pc + 1) ls (pI n :: st) M dec X) : V mi d b0 b1 bc bs pc ls st M dec X :=
  v_op k (fun _ h => okS_cons.mpr ⟨hr, h⟩) (fun _ _ G b p l e s m args below meth c Q C H locs cells slots lsA _ kk => lv_iconst C.1 C.2.1 hd rfl kk)
theorem v_bipush {n : Int} (hd : decode mi.2.1 pc = .ok (.bipush n, 2)) (hr : -128 ≤ n ∧ n < 128) (k : V mi d b0 b1 bc bs (pc + 2) ls (pI n :: st) M dec X) : V mi d b0 b1 bc bs pc ls st M dec X :=
  v_op k (fun _ h => okS_cons.mpr ⟨(show r32 n by unfold r32; omega), h⟩) (fun _ _ G b p l e s m args below meth c Q C H locs cells slots lsA _ kk => lv_bipush C.1 C.2.1 hd (by
    apply Int32.toInt_inj.mp
    rw [Int8.toInt_toInt32, q_in (by unfold r32; omega), Int8.toInt_ofInt_of_le (by omega) (by omega)]) kk)
theorem v_sipush {n : Int} (hd : decode mi.2.1 pc = .ok (.sipush n, 3)) (hr : -32768 ≤ n ∧ n < 32768) (k : V mi d b0 b1 bc bs (pc + 3) ls (pI n :: st) M dec X) : V mi d b0 b1 bc bs pc ls st M dec X :=
  v_op k (fun _ h => okS_cons.mpr ⟨(show r32 n by unfold r32; omega), h⟩) (fun _ _ G b p l e s m args below meth c Q C H locs cells slots lsA _ kk => lv_sipush C.1 C.2.1 hd (by
    apply Int32.toInt_inj.mp
    rw [Int16.toInt_toInt32, q_in (by unfold r32; omega), Int16.toInt_ofInt_of_le (by omega) (by omega)]) kk)
theorem v_lconst0 (hd : decode mi.2.1 pc = .ok (.lconst 0, 1)) (k : V mi d b0 b1 bc bs (pc + 1) ls (pL 0 :: st) M dec X) : V mi d b0 b1 bc bs pc ls st M dec X :=
  v_op k (fun _ h => okS_cons.mpr ⟨(show r64 0 by unfold r64; omega), h⟩) (fun _ _ G b p l e s m args below meth c Q C H locs cells slots lsA _ kk => lv_lconst C.1 C.2.1 hd rfl kk)
theorem v_null (hd : decode mi.2.1 pc = .ok (.aconst_null, 1)) (k : V mi d b0 b1 bc bs (pc + 1) ls (pA (-1) :: st) M dec X) : V mi d b0 b1 bc bs pc ls st M dec X :=
  v_op k (fun _ h => okS_cons.mpr ⟨trivial, h⟩) (fun _ _ G b p l e s m args below meth c Q C H locs cells slots lsA _ kk => lv_null C.1 C.2.1 hd kk)
theorem v_ldc {i : Nat} {n : Int} (hd : decode mi.2.1 pc = .ok (.ldc i, 2)) (hr : -2147483648 ≤ n ∧ n < 2147483648) (hw : Cond.constant mi.1.cls i (Int32.ofInt n) ∈ GT) (k : V mi d b0 b1 bc bs (pc + 2) ls (pI n :: st) M dec X) : V mi d b0 b1 bc bs pc ls st M dec X :=
  v_op k (fun _ h => okS_cons.mpr ⟨hr, h⟩) (fun _ _ G b p l e s m args below meth c Q C H locs cells slots lsA _ kk => lv_ldc C.1 C.2.1 C.2.2.2.2.1 (C.2.2.2.2.2.1 _ hw) hd kk)
theorem v_ldcw {i : Nat} {n : Int} (hd : decode mi.2.1 pc = .ok (.ldc_w i, 3)) (hr : -2147483648 ≤ n ∧ n < 2147483648) (hw : Cond.constant mi.1.cls i (Int32.ofInt n) ∈ GT) (k : V mi d b0 b1 bc bs (pc + 3) ls (pI n :: st) M dec X) : V mi d b0 b1 bc bs pc ls st M dec X :=
  v_op k (fun _ h => okS_cons.mpr ⟨hr, h⟩) (fun _ _ G b p l e s m args below meth c Q C H locs cells slots lsA _ kk => lv_ldcw C.1 C.2.1 C.2.2.2.2.1 (C.2.2.2.2.2.1 _ hw) hd kk)
theorem v_ldc2 {i : Nat} {n : Int} (hd : decode mi.2.1 pc = .ok (.ldc2_w i, 3)) (hr : -9223372036854775808 ≤ n ∧ n < 9223372036854775808) (hw : Cond.constantLong mi.1.cls i (Int64.ofInt n) ∈ GT) (k : V mi d b0 b1 bc bs (pc + 3) ls (pL n :: st) M dec X) : V mi d b0 b1 bc bs pc ls st M dec X :=
  v_op k (fun _ h => okS_cons.mpr ⟨hr, h⟩) (fun _ _ G b p l e s m args below meth c Q C H locs cells slots lsA _ kk => lv_ldc2 C.1 C.2.1 C.2.2.2.2.1 (C.2.2.2.2.2.1 _ hw) hd kk)
theorem v_iload_n {i : Fin 4} {x : Int} (hd : decode mi.2.1 pc = .ok (.iload_n i, 1)) (hl : ls[(i : Nat)]? = some (some (pI x))) (k : V mi d b0 b1 bc bs (pc + 1) ls (pI x :: st) M dec X) : V mi d b0 b1 bc bs pc ls st M dec X :=
  v_op k (fun hL h => okS_cons.mpr ⟨hL _ _ hl, h⟩) (fun _ _ G b p l e s m args below meth c Q C H locs cells slots lsA hA kk => lv_iload_n C.1 C.2.1 hd rfl (lv_of hA hl) kk)
theorem v_iload {i : Nat} {x : Int} (hd : decode mi.2.1 pc = .ok (.iload i, 2)) (hl : ls[i]? = some (some (pI x))) (k : V mi d b0 b1 bc bs (pc + 2) ls (pI x :: st) M dec X) : V mi d b0 b1 bc bs pc ls st M dec X :=
  v_op k (fun hL h => okS_cons.mpr ⟨hL _ _ hl, h⟩) (fun _ _ G b p l e s m args below meth c Q C H locs cells slots lsA hA kk => lv_iload C.1 C.2.1 hd (lv_of hA hl) kk)
theorem v_lload_n {i : Fin 4} {x : Int} (hd : decode mi.2.1 pc = .ok (.lload_n i, 1)) (hl : ls[(i : Nat)]? = some (some (pL x))) (k : V mi d b0 b1 bc bs (pc + 1) ls (pL x :: st) M dec X) : V mi d b0 b1 bc bs pc ls st M dec X :=
  v_op k (fun hL h => okS_cons.mpr ⟨hL _ _ hl, h⟩) (fun _ _ G b p l e s m args below meth c Q C H locs cells slots lsA hA kk => lv_lload_n C.1 C.2.1 hd rfl (lv_of hA hl) kk)
theorem v_aload_n {i : Fin 4} {x : Int} (hd : decode mi.2.1 pc = .ok (.aload_n i, 1)) (hl : ls[(i : Nat)]? = some (some (pA x))) (k : V mi d b0 b1 bc bs (pc + 1) ls (pA x :: st) M dec X) : V mi d b0 b1 bc bs pc ls st M dec X :=
  v_op k (fun hL h => okS_cons.mpr ⟨hL _ _ hl, h⟩) (fun _ _ G b p l e s m args below meth c Q C H locs cells slots lsA hA kk => by
    have h := lv_of hA hl
    simp only [List.map_cons, eV, eR] at h kk
    split at h
    · rename_i hx; rw [if_pos hx] at kk; exact lv_aload_nN C.1 C.2.1 hd rfl h kk
    · rename_i hx
      rw [if_neg hx] at kk
      split at h
      · rename_i hy; rw [if_pos hy] at kk; exact lv_aload_n C.1 C.2.1 hd rfl h kk
      · rename_i hy; rw [if_neg hy] at kk; exact lv_aload_n C.1 C.2.1 hd rfl h kk)
theorem v_aload {i : Nat} {x : Int} (hd : decode mi.2.1 pc = .ok (.aload i, 2)) (hl : ls[i]? = some (some (pA x))) (k : V mi d b0 b1 bc bs (pc + 2) ls (pA x :: st) M dec X) : V mi d b0 b1 bc bs pc ls st M dec X :=
  v_op k (fun hL h => okS_cons.mpr ⟨hL _ _ hl, h⟩) (fun _ _ G b p l e s m args below meth c Q C H locs cells slots lsA hA kk => by
    have h := lv_of hA hl
    simp only [List.map_cons, eV, eR] at h kk
    split at h
    · rename_i hx; rw [if_pos hx] at kk; exact lv_aloadN C.1 C.2.1 hd h kk
    · rename_i hx
      rw [if_neg hx] at kk
      split at h
      · rename_i hy; rw [if_pos hy] at kk; exact lv_aload C.1 C.2.1 hd h kk
      · rename_i hy; rw [if_neg hy] at kk; exact lv_aload C.1 C.2.1 hd h kk)
/-- the locals behind a store of a value of one word -/
def klL (ls : List (Option PV)) (i : Nat) : List (Option PV) := match i with
  | 0 => ls
  | j + 1 => match ls[j]? with
    | some (some (.inr (.inl _))) => ls.set j none
    | _ => ls
def stL (ls : List (Option PV)) (i : Nat) (v : PV) : List (Option PV) := (klL ls i).set i (some v)
theorem stL_at {i k : Nat} {v w : PV} (h : (stL ls i v)[k]? = some (some w)) : (k = i ∧ w = v) ∨ (k ≠ i ∧ ls[k]? = some (some w) ∧ ¬ (k + 1 = i ∧ ∃ x, w = pL x)) := by
  unfold stL at h
  by_cases hk : k = i
  · left
    subst hk
    rw [List.getElem?_set] at h
    simp only [if_true] at h
    split at h
    · have := Option.some.inj (Option.some.inj h)
      exact ⟨rfl, this.symm⟩
    · cases h
  · right
    refine ⟨hk, ?_⟩
    rw [List.getElem?_set, if_neg (fun e => hk e.symm)] at h
    unfold klL at h
    match i, hk, h with
    | 0, hk, h => exact ⟨h, by rintro ⟨q, -⟩; omega⟩
    | j + 1, hk, h =>
      simp only at h
      split at h
      · rename_i x hx
        rw [List.getElem?_set] at h
        split at h
        · split at h <;> cases h
        · rename_i hj
          exact ⟨h, by rintro ⟨q, -⟩; omega⟩
      · rename_i hx
        refine ⟨h, ?_⟩
        rintro ⟨q, x, rfl⟩
        have : k = j := by omega
        subst this
        exact hx x h
theorem eV_cat {b : Nat} {cs : Nat → Nat} {v : PV} : (eV b cs v).category = 2 ↔ ∃ x, v = pL x := by
  match v with
  | .inl x => simp [eV, Value.category]
  | .inr (.inl x) => simp [eV, Value.category]
  | .inr (.inr x) =>
    rw [show (eV b cs (.inr (.inr x))).category = 1 from eR_cat b cs x]
    simp
theorem stL_has {b : Nat} {cs : Nat → Nat} {n i : Nat} {v : PV} {lsA : Array Slot} (h : lv_has lsA n ((i, eV b cs v) :: (lsL b cs 0 ls).filter (fun q => !(q.1 == i) && !(q.1 + 1 == i && q.2.category == 2)))) : lv_has lsA n (lsL b cs 0 (stL ls i v)) := by
  refine ⟨h.1, h.2.1, fun q hq => h.2.2 q ?_⟩
  obtain ⟨k, w, h1, rfl⟩ := lsL_mem.mp hq
  rcases stL_at h1 with ⟨rfl, rfl⟩ | ⟨h2, h3, h4⟩
  · rw [Nat.zero_add]; exact List.mem_cons_self
  · refine List.mem_cons_of_mem _ (List.mem_filter.mpr ⟨lsL_mem.mpr ⟨k, w, h3, rfl⟩, ?_⟩)
    simp only [Nat.zero_add, Bool.and_eq_true, Bool.not_eq_true', beq_eq_false_iff_ne, ne_eq, Bool.and_eq_false_iff]
    refine ⟨h2, ?_⟩
    by_cases h5 : k + 1 = i
    · right
      intro h6
      exact h4 ⟨h5, eV_cat.mp h6⟩
    · left; exact h5
theorem stL_ok {i : Nat} {v : PV} (hL : okL ls) (hv : okV v) : okL (stL ls i v) := by
  intro k w h
  rcases stL_at h with ⟨_, rfl⟩ | ⟨_, h3, _⟩
  · exact hv
  · exact hL k w h3
theorem v_istore_n {i : Fin 4} {x : Int} (hd : decode mi.2.1 pc = .ok (.istore_n i, 1)) (hn : (i : Nat) < mi.2.2.1) (hl : stL ls i (pI x) = ls') (k : V mi d b0 b1 bc bs (pc + 1) ls' st M dec X) : V mi d b0 b1 bc bs pc ls (pI x :: st) M dec X := by
  subst hl
  exact v_step k (fun hM hL hS => ⟨hM, stL_ok hL (okS_cons.mp hS).1, (okS_cons.mp hS).2⟩) (fun hM hL hS G b p l e s m args below meth c Q C H locs cells slots lsA D kk =>
    lv_istore_n C.1 C.2.1 hd rfl D.2.2.2.1 hn rfl (fun lsA' hA => kk H locs cells slots lsA' ⟨D.1, D.2.1, D.2.2.1, stL_has hA, D.2.2.2.2⟩))
theorem v_istore {i : Nat} {x : Int} (hd : decode mi.2.1 pc = .ok (.istore i, 2)) (hn : i < mi.2.2.1) (hl : stL ls i (pI x) = ls') (k : V mi d b0 b1 bc bs (pc + 2) ls' st M dec X) : V mi d b0 b1 bc bs pc ls (pI x :: st) M dec X := by
  subst hl
  exact v_step k (fun hM hL hS => ⟨hM, stL_ok hL (okS_cons.mp hS).1, (okS_cons.mp hS).2⟩) (fun hM hL hS G b p l e s m args below meth c Q C H locs cells slots lsA D kk =>
    lv_istore C.1 C.2.1 hd D.2.2.2.1 hn rfl (fun lsA' hA => kk H locs cells slots lsA' ⟨D.1, D.2.1, D.2.2.1, stL_has hA, D.2.2.2.2⟩))
theorem v_astore_n {i : Fin 4} {x : Int} (hd : decode mi.2.1 pc = .ok (.astore_n i, 1)) (hn : (i : Nat) < mi.2.2.1) (hl : stL ls i (pA x) = ls') (k : V mi d b0 b1 bc bs (pc + 1) ls' st M dec X) : V mi d b0 b1 bc bs pc ls (pA x :: st) M dec X := by
  subst hl
  refine v_step k (fun hM hL hS => ⟨hM, stL_ok hL (okS_cons.mp hS).1, (okS_cons.mp hS).2⟩) (fun hM hL hS G b p l e s m args below meth c Q C H locs cells slots lsA D kk => ?_)
  have k2 : ∀ lsA' : Array Slot, lv_has lsA' mi.2.2.1 (((i : Nat), eR b G.2.2.2.1 x) :: (lsL b G.2.2.2.1 0 ls).filter (fun q => !(q.1 == (i : Nat)) && !(q.1 + 1 == (i : Nat) && q.2.category == 2))) → _ := fun lsA' hA => kk H locs cells slots lsA' ⟨D.1, D.2.1, D.2.2.1, stL_has (v := pA x) hA, D.2.2.2.2⟩
  simp only [List.map_cons, eV]
  by_cases h1 : x = -1
  · rw [show eR b G.2.2.2.1 x = .null by unfold eR; rw [if_pos h1]] at k2 ⊢
    exact lv_astore_nN C.1 C.2.1 hd rfl D.2.2.2.1 hn rfl k2
  · by_cases h2 : 0 ≤ x
    · rw [show eR b G.2.2.2.1 x = .ref (b + x.toNat) by unfold eR; rw [if_neg h1, if_pos h2]] at k2 ⊢
      exact lv_astore_n C.1 C.2.1 hd rfl D.2.2.2.1 hn rfl k2
    · rw [show eR b G.2.2.2.1 x = .ref (G.2.2.2.1 (-x - 2).toNat) by unfold eR; rw [if_neg h1, if_neg h2]] at k2 ⊢
      exact lv_astore_n C.1 C.2.1 hd rfl D.2.2.2.1 hn rfl k2
theorem v_astore {i : Nat} {x : Int} (hd : decode mi.2.1 pc = .ok (.astore i, 2)) (hn : i < mi.2.2.1) (hl : stL ls i (pA x) = ls') (k : V mi d b0 b1 bc bs (pc + 2) ls' st M dec X) : V mi d b0 b1 bc bs pc ls (pA x :: st) M dec X := by
  subst hl
  refine v_step k (fun hM hL hS => ⟨hM, stL_ok hL (okS_cons.mp hS).1, (okS_cons.mp hS).2⟩) (fun hM hL hS G b p l e s m args below meth c Q C H locs cells slots lsA D kk => ?_)
  have k2 : ∀ lsA' : Array Slot, lv_has lsA' mi.2.2.1 ((i, eR b G.2.2.2.1 x) :: (lsL b G.2.2.2.1 0 ls).filter (fun q => !(q.1 == i) && !(q.1 + 1 == i && q.2.category == 2))) → _ := fun lsA' hA => kk H locs cells slots lsA' ⟨D.1, D.2.1, D.2.2.1, stL_has (v := pA x) hA, D.2.2.2.2⟩
  simp only [List.map_cons, eV]
  by_cases h1 : x = -1
  · rw [show eR b G.2.2.2.1 x = .null by unfold eR; rw [if_pos h1]] at k2 ⊢
    exact lv_astoreN C.1 C.2.1 hd D.2.2.2.1 hn rfl k2
  · by_cases h2 : 0 ≤ x
    · rw [show eR b G.2.2.2.1 x = .ref (b + x.toNat) by unfold eR; rw [if_neg h1, if_pos h2]] at k2 ⊢
      exact lv_astore C.1 C.2.1 hd D.2.2.2.1 hn rfl k2
    · rw [show eR b G.2.2.2.1 x = .ref (G.2.2.2.1 (-x - 2).toNat) by unfold eR; rw [if_neg h1, if_neg h2]] at k2 ⊢
      exact lv_astore C.1 C.2.1 hd D.2.2.2.1 hn rfl k2
theorem v_iinc {i : Nat} {n x : Int} (hd : decode mi.2.1 pc = .ok (.iinc i n, 3)) (hn : i < mi.2.2.1) (hx : ls[i]? = some (some (pI x))) (hl : stL ls i (pI (w32 (x + n))) = ls') (k : V mi d b0 b1 bc bs (pc + 3) ls' st M dec X) : V mi d b0 b1 bc bs pc ls st M dec X := by
  subst hl
  refine v_step k (fun hM hL hS => ⟨hM, stL_ok hL (w32_r _), hS⟩) (fun hM hL hS G b p l e s m args below meth c Q C H locs cells slots lsA D kk => ?_)
  obtain ⟨j, hj⟩ := List.getElem?_of_mem (lsL_mem (b := b) (cs := G.2.2.2.1) (i := 0).mpr ⟨i, pI x, hx, rfl⟩)
  rw [Nat.zero_add] at hj
  exact lv_iinc C.1 C.2.1 hd D.2.2.2.1 hj (q_add x n) hn rfl (fun lsA' hA => kk H locs cells slots lsA' ⟨D.1, D.2.1, D.2.2.1, stL_has (v := pI (w32 (x + n))) hA, D.2.2.2.2⟩)
theorem v_iadd {x y : Int} (hd : decode mi.2.1 pc = .ok (.iadd, 1)) (k : V mi d b0 b1 bc bs (pc + 1) ls (pI (w32 (x + y)) :: st) M dec X) : V mi d b0 b1 bc bs pc ls (pI y :: pI x :: st) M dec X :=
  v_op k (fun hL h => okS_cons.mpr ⟨w32_r _, (okS_cons.mp (okS_cons.mp h).2).2⟩) (fun _ _ G b p l e s m args below meth c Q C H locs cells slots lsA hA kk => lv_iadd C.1 C.2.1 hd (by rw [q_add]; exact kk))
theorem v_isub {x y : Int} (hd : decode mi.2.1 pc = .ok (.isub, 1)) (k : V mi d b0 b1 bc bs (pc + 1) ls (pI (w32 (x - y)) :: st) M dec X) : V mi d b0 b1 bc bs pc ls (pI y :: pI x :: st) M dec X :=
  v_op k (fun hL h => okS_cons.mpr ⟨w32_r _, (okS_cons.mp (okS_cons.mp h).2).2⟩) (fun _ _ G b p l e s m args below meth c Q C H locs cells slots lsA hA kk => lv_isub C.1 C.2.1 hd (by rw [q_sub]; exact kk))
theorem v_imul {x y : Int} (hd : decode mi.2.1 pc = .ok (.imul, 1)) (k : V mi d b0 b1 bc bs (pc + 1) ls (pI (w32 (x * y)) :: st) M dec X) : V mi d b0 b1 bc bs pc ls (pI y :: pI x :: st) M dec X :=
  v_op k (fun hL h => okS_cons.mpr ⟨w32_r _, (okS_cons.mp (okS_cons.mp h).2).2⟩) (fun _ _ G b p l e s m args below meth c Q C H locs cells slots lsA hA kk => lv_imul C.1 C.2.1 hd (by rw [q_mul]; exact kk))
theorem v_ineg {x : Int} (hd : decode mi.2.1 pc = .ok (.ineg, 1)) (k : V mi d b0 b1 bc bs (pc + 1) ls (pI (w32 (-x)) :: st) M dec X) : V mi d b0 b1 bc bs pc ls (pI x :: st) M dec X :=
  v_op k (fun hL h => okS_cons.mpr ⟨w32_r _, (okS_cons.mp h).2⟩) (fun _ _ G b p l e s m args below meth c Q C H locs cells slots lsA hA kk => lv_ineg C.1 C.2.1 hd (by rw [q_neg]; exact kk))
theorem q_ne0 {y : Int} (h : r32 y) (hy : y ≠ 0) : ¬ Int32.ofInt y = 0 := fun q => hy ((q_eq h r32_0).mp (by rw [q_0]; exact q))
theorem v_idiv {x y : Int} (hy : y ≠ 0) (hd : decode mi.2.1 pc = .ok (.idiv, 1)) (k : V mi d b0 b1 bc bs (pc + 1) ls (pI (w32 (x.tdiv y)) :: st) M dec X) : V mi d b0 b1 bc bs pc ls (pI y :: pI x :: st) M dec X :=
  v_op k (fun hL h => okS_cons.mpr ⟨w32_r _, (okS_cons.mp (okS_cons.mp h).2).2⟩) (fun _ hS G b p l e s m args below meth c Q C H locs cells slots lsA hA kk => lv_idiv C.1 C.2.1 hd (q_ne0 (okS_cons.mp hS).1 hy) (by rw [q_div (okS_cons.mp (okS_cons.mp hS).2).1 (okS_cons.mp hS).1]; exact kk))
theorem v_irem {x y : Int} (hy : y ≠ 0) (hd : decode mi.2.1 pc = .ok (.irem, 1)) (k : V mi d b0 b1 bc bs (pc + 1) ls (pI (x.tmod y) :: st) M dec X) : V mi d b0 b1 bc bs pc ls (pI y :: pI x :: st) M dec X :=
  v_op k (fun hL h => okS_cons.mpr ⟨tmod_r (okS_cons.mp (okS_cons.mp h).2).1, (okS_cons.mp (okS_cons.mp h).2).2⟩) (fun _ hS G b p l e s m args below meth c Q C H locs cells slots lsA hA kk => lv_irem C.1 C.2.1 hd (q_ne0 (okS_cons.mp hS).1 hy) (by rw [q_rem (okS_cons.mp (okS_cons.mp hS).2).1 (okS_cons.mp hS).1]; exact kk))
theorem v_iand {x y : Int} (hd : decode mi.2.1 pc = .ok (.iand, 1)) (k : V mi d b0 b1 bc bs (pc + 1) ls (pI (bAnd x y) :: st) M dec X) : V mi d b0 b1 bc bs pc ls (pI y :: pI x :: st) M dec X :=
  v_op k (fun hL h => okS_cons.mpr ⟨q_bl, (okS_cons.mp (okS_cons.mp h).2).2⟩) (fun _ _ G b p l e s m args below meth c Q C H locs cells slots lsA hA kk => lv_iand C.1 C.2.1 hd (by simp only [List.map_cons, eV, bAnd, Int32.ofInt_toInt] at kk; exact kk))
theorem v_ior {x y : Int} (hd : decode mi.2.1 pc = .ok (.ior, 1)) (k : V mi d b0 b1 bc bs (pc + 1) ls (pI (bOr x y) :: st) M dec X) : V mi d b0 b1 bc bs pc ls (pI y :: pI x :: st) M dec X :=
  v_op k (fun hL h => okS_cons.mpr ⟨q_bl, (okS_cons.mp (okS_cons.mp h).2).2⟩) (fun _ _ G b p l e s m args below meth c Q C H locs cells slots lsA hA kk => lv_ior C.1 C.2.1 hd (by simp only [List.map_cons, eV, bOr, Int32.ofInt_toInt] at kk; exact kk))
theorem v_ishl {x y : Int} (hd : decode mi.2.1 pc = .ok (.ishl, 1)) (k : V mi d b0 b1 bc bs (pc + 1) ls (pI (bShl x y) :: st) M dec X) : V mi d b0 b1 bc bs pc ls (pI y :: pI x :: st) M dec X :=
  v_op k (fun hL h => okS_cons.mpr ⟨q_bl, (okS_cons.mp (okS_cons.mp h).2).2⟩) (fun _ _ G b p l e s m args below meth c Q C H locs cells slots lsA hA kk => lv_ishl C.1 C.2.1 hd (by simp only [List.map_cons, eV, bShl, Int32.ofInt_toInt] at kk; exact kk))
theorem v_ishr {x y : Int} (hd : decode mi.2.1 pc = .ok (.ishr, 1)) (k : V mi d b0 b1 bc bs (pc + 1) ls (pI (bShr x y) :: st) M dec X) : V mi d b0 b1 bc bs pc ls (pI y :: pI x :: st) M dec X :=
  v_op k (fun hL h => okS_cons.mpr ⟨q_bl, (okS_cons.mp (okS_cons.mp h).2).2⟩) (fun _ _ G b p l e s m args below meth c Q C H locs cells slots lsA hA kk => lv_ishr C.1 C.2.1 hd (by simp only [List.map_cons, eV, bShr, Int32.ofInt_toInt] at kk; exact kk))
theorem v_iushr {x y : Int} (hd : decode mi.2.1 pc = .ok (.iushr, 1)) (k : V mi d b0 b1 bc bs (pc + 1) ls (pI (bUshr x y) :: st) M dec X) : V mi d b0 b1 bc bs pc ls (pI y :: pI x :: st) M dec X :=
  v_op k (fun hL h => okS_cons.mpr ⟨q_bl, (okS_cons.mp (okS_cons.mp h).2).2⟩) (fun _ _ G b p l e s m args below meth c Q C H locs cells slots lsA hA kk => lv_iushr C.1 C.2.1 hd rfl (by simp only [List.map_cons, eV, bUshr, Int32.ofInt_toInt] at kk; exact kk))
theorem v_lshl {x y : Int} (hd : decode mi.2.1 pc = .ok (.lshl, 1)) (k : V mi d b0 b1 bc bs (pc + 1) ls (pL (lShl x y) :: st) M dec X) : V mi d b0 b1 bc bs pc ls (pI y :: pL x :: st) M dec X :=
  v_op k (fun hL h => okS_cons.mpr ⟨q_blL, (okS_cons.mp (okS_cons.mp h).2).2⟩) (fun _ _ G b p l e s m args below meth c Q C H locs cells slots lsA hA kk => lv_lshl C.1 C.2.1 hd rfl (by simp only [List.map_cons, eV, lShl, Int64.ofInt_toInt] at kk; exact kk))
theorem v_lor {x y : Int} (hd : decode mi.2.1 pc = .ok (.lor, 1)) (k : V mi d b0 b1 bc bs (pc + 1) ls (pL (lOr x y) :: st) M dec X) : V mi d b0 b1 bc bs pc ls (pL y :: pL x :: st) M dec X :=
  v_op k (fun hL h => okS_cons.mpr ⟨q_blL, (okS_cons.mp (okS_cons.mp h).2).2⟩) (fun _ _ G b p l e s m args below meth c Q C H locs cells slots lsA hA kk => lv_lor C.1 C.2.1 hd (by simp only [List.map_cons, eV, lOr, Int64.ofInt_toInt] at kk; exact kk))
theorem v_i2l {x : Int} (hd : decode mi.2.1 pc = .ok (.i2l, 1)) (k : V mi d b0 b1 bc bs (pc + 1) ls (pL x :: st) M dec X) : V mi d b0 b1 bc bs pc ls (pI x :: st) M dec X :=
  v_op k (fun hL h => okS_cons.mpr ⟨(show r64 x by have := (okS_cons.mp h).1; unfold okV r32 at this; unfold r64; omega), (okS_cons.mp h).2⟩) (fun _ hS G b p l e s m args below meth c Q C H locs cells slots lsA hA kk => lv_i2l C.1 C.2.1 hd (q_i2l (okS_cons.mp hS).1) kk)
theorem v_i2b {x : Int} (hd : decode mi.2.1 pc = .ok (.i2b, 1)) (k : V mi d b0 b1 bc bs (pc + 1) ls (pI (w8 x) :: st) M dec X) : V mi d b0 b1 bc bs pc ls (pI x :: st) M dec X :=
  v_op k (fun hL h => okS_cons.mpr ⟨(show r32 (w8 x) by have := w8_r x; unfold r32; omega), (okS_cons.mp h).2⟩) (fun _ hS G b p l e s m args below meth c Q C H locs cells slots lsA hA kk => lv_i2b C.1 C.2.1 hd (q_i2b x) kk)
def lcmp (x y : Int) : Int := if x = y then 0 else if x < y then -1 else 1
theorem q_lcmp {x y : Int} (hx : r64 x) (hy : r64 y) : lg_cmp (Int64.ofInt x) (Int64.ofInt y) = Int32.ofInt (lcmp x y) := by
  unfold lg_cmp lcmp
  by_cases h : x = y
  · subst h; simp
  · rw [if_neg h]
    by_cases h2 : x < y
    · rw [if_pos h2]
      have a1 : ¬ Int64.ofInt y < Int64.ofInt x := fun q => by have := (q_ltL hy hx).mp q; omega
      have a2 : ¬ Int64.ofInt x = Int64.ofInt y := fun q => h ((q_eqL hx hy).mp q)
      have a3 := (q_ltL hx hy).mpr h2
      simp [a1, a2, a3]
      try rfl
    · rw [if_neg h2]
      have a1 : Int64.ofInt y < Int64.ofInt x := (q_ltL hy hx).mpr (by omega)
      simp [a1]
      try rfl
theorem v_lcmp {x y : Int} (hd : decode mi.2.1 pc = .ok (.lcmp, 1)) (k : V mi d b0 b1 bc bs (pc + 1) ls (pI (lcmp x y) :: st) M dec X) : V mi d b0 b1 bc bs pc ls (pL y :: pL x :: st) M dec X :=
  v_op k (fun hL h => okS_cons.mpr ⟨(show r32 (lcmp x y) by unfold lcmp r32; split <;> (try split) <;> omega), (okS_cons.mp (okS_cons.mp h).2).2⟩) (fun _ hS G b p l e s m args below meth c Q C H locs cells slots lsA hA kk => W.lcmp C.1 C.2.1 hd (by rw [q_lcmp (okS_cons.mp (okS_cons.mp hS).2).1 (okS_cons.mp hS).1]; exact kk))
theorem eV_cat1 {b : Nat} {cs : Nat → Nat} {v : PV} (h : ∀ x, v ≠ pL x) : (eV b cs v).category = 1 := by
  rcases lv_cat (eV b cs v) with q | q
  · exact q
  · obtain ⟨x, hx⟩ := eV_cat.mp q
    exact absurd hx (h x)
theorem v_dup {v : PV} (hd : decode mi.2.1 pc = .ok (.dup, 1)) (hv : ∀ x, v ≠ pL x) (k : V mi d b0 b1 bc bs (pc + 1) ls (v :: v :: st) M dec X) : V mi d b0 b1 bc bs pc ls (v :: st) M dec X :=
  v_op k (fun hL h => okS_cons.mpr ⟨(okS_cons.mp h).1, h⟩) (fun _ hS G b p l e s m args below meth c Q C H locs cells slots lsA hA kk => lv_dup C.1 C.2.1 hd (eV_cat1 hv) kk)
theorem v_pop {v : PV} (hd : decode mi.2.1 pc = .ok (.pop, 1)) (hv : ∀ x, v ≠ pL x) (k : V mi d b0 b1 bc bs (pc + 1) ls st M dec X) : V mi d b0 b1 bc bs pc ls (v :: st) M dec X :=
  v_op k (fun hL h => (okS_cons.mp h).2) (fun _ hS G b p l e s m args below meth c Q C H locs cells slots lsA hA kk => lv_pop C.1 C.2.1 hd (eV_cat1 hv) kk)
theorem v_dup2 {v w : PV} (hd : decode mi.2.1 pc = .ok (.dup2, 1)) (hv : ∀ x, v ≠ pL x) (hw : ∀ x, w ≠ pL x) (k : V mi d b0 b1 bc bs (pc + 1) ls (v :: w :: v :: w :: st) M dec X) : V mi d b0 b1 bc bs pc ls (v :: w :: st) M dec X :=
  v_op k (fun hL h => okS_cons.mpr ⟨(okS_cons.mp h).1, okS_cons.mpr ⟨(okS_cons.mp (okS_cons.mp h).2).1, h⟩⟩) (fun _ hS G b p l e s m args below meth c Q C H locs cells slots lsA hA kk => lv_dup2_11 C.1 C.2.1 hd (eV_cat1 hv) (eV_cat1 hw) kk)
/-- a branch: the condition c of the pure side is that of the machine -/
theorem v_br {st' : List PV} {P : Prop} [Decidable P] {pa pb : Nat} (ka : P → V mi d b0 b1 bc bs pa ls st' M dec A) (kb : ¬ P → V mi d b0 b1 bc bs pb ls st' M dec B) (hok : okS st → okS st')
    (hw : okS st → ∀ (G : GG) (b : Nat) (p : Program) (l : Launch) (e : Env) (s : State) (m : MethodId) (args : Array Value) (below : List Frame) (meth : Method) (c : Code) (Q : State → Prop), Cx mi G b p s m args meth c →
      ∀ (H : Heap) (locs : List Loc) (cells slots : Nat) (lsA : Array Slot),
        (P → W p l e (rmD d b0 b1) s m args below meth c H locs cells slots Q (F0 m pa lsA (st'.map (eV b G.2.2.2.1)))) → (¬ P → W p l e (rmD d b0 b1) s m args below meth c H locs cells slots Q (F0 m pb lsA (st'.map (eV b G.2.2.2.1)))) →
        W p l e (rmD d b0 b1) s m args below meth c H locs cells slots Q (F0 m pc lsA (st.map (eV b G.2.2.2.1)))) : V mi d b0 b1 bc bs pc ls st M dec (if P then A else B) := by
  intro r hr hM hL hS
  by_cases hP : P
  · rw [if_pos hP] at hr
    obtain ⟨g1, g2⟩ := ka hP r hr hM hL (hok hS)
    exact ⟨g1, fun G b p l e s m args below meth c C H locs cells slots lsA D => hw hS G b p l e s m args below meth c _ C H locs cells slots lsA (fun _ => g2 G b p l e s m args below meth c C H locs cells slots lsA D) (fun h => absurd hP h)⟩
  · rw [if_neg hP] at hr
    obtain ⟨g1, g2⟩ := kb hP r hr hM hL (hok hS)
    exact ⟨g1, fun G b p l e s m args below meth c C H locs cells slots lsA D => hw hS G b p l e s m args below meth c _ C H locs cells slots lsA (fun h => absurd h hP) (fun _ => g2 G b p l e s m args below meth c C H locs cells slots lsA D)⟩
theorem v_if_eq {x : Int} {off : Int} {tgt : Nat} (hd : decode mi.2.1 pc = .ok (.ifCond .eq off, 3)) (ht : (pc : Int) + off = (tgt : Int)) (ka : x = 0 → V mi d b0 b1 bc bs (tgt) ls st M dec A) (kb : ¬ x = 0 → V mi d b0 b1 bc bs (pc + 3) ls st M dec B) : V mi d b0 b1 bc bs pc ls (pI x :: st) M dec (if x = 0 then A else B) :=
  v_br ka kb (fun h => (okS_cons.mp h).2) (fun hS G b p l e s m args below meth c Q C H locs cells slots lsA wa wb => by
    have hx : r32 x := (okS_cons.mp hS).1
    have hy : r32 0 := r32_0
    have hE := q_eq hx hy
    rw [q_0] at hE
    exact lv_if_eq C.1 C.2.1 hd ht (fun h => wa (hE.mp h)) (fun h => wb (fun q => h (hE.mpr q))))
theorem v_icmp_eq {x y : Int} {off : Int} {tgt : Nat} (hd : decode mi.2.1 pc = .ok (.if_icmp .eq off, 3)) (ht : (pc : Int) + off = (tgt : Int)) (ka : x = y → V mi d b0 b1 bc bs (tgt) ls st M dec A) (kb : ¬ x = y → V mi d b0 b1 bc bs (pc + 3) ls st M dec B) : V mi d b0 b1 bc bs pc ls (pI y :: pI x :: st) M dec (if x = y then A else B) :=
  v_br ka kb (fun h => (okS_cons.mp (okS_cons.mp h).2).2) (fun hS G b p l e s m args below meth c Q C H locs cells slots lsA wa wb => by
    have hx : r32 x := (okS_cons.mp (okS_cons.mp hS).2).1
    have hy : r32 y := (okS_cons.mp hS).1
    have hE := q_eq hx hy
    exact lv_icmp_eq C.1 C.2.1 hd ht (fun h => wa (hE.mp h)) (fun h => wb (fun q => h (hE.mpr q))))
theorem v_if_ne {x : Int} {off : Int} {tgt : Nat} (hd : decode mi.2.1 pc = .ok (.ifCond .ne off, 3)) (ht : (pc : Int) + off = (tgt : Int)) (ka : x = 0 → V mi d b0 b1 bc bs (pc + 3) ls st M dec A) (kb : ¬ x = 0 → V mi d b0 b1 bc bs (tgt) ls st M dec B) : V mi d b0 b1 bc bs pc ls (pI x :: st) M dec (if x = 0 then A else B) :=
  v_br ka kb (fun h => (okS_cons.mp h).2) (fun hS G b p l e s m args below meth c Q C H locs cells slots lsA wa wb => by
    have hx : r32 x := (okS_cons.mp hS).1
    have hy : r32 0 := r32_0
    have hE := q_eq hx hy
    rw [q_0] at hE
    exact lv_if_ne C.1 C.2.1 hd ht (fun h => wb (fun q => h (hE.mpr q))) (fun h => wa (hE.mp h)))
theorem v_icmp_ne {x y : Int} {off : Int} {tgt : Nat} (hd : decode mi.2.1 pc = .ok (.if_icmp .ne off, 3)) (ht : (pc : Int) + off = (tgt : Int)) (ka : x = y → V mi d b0 b1 bc bs (pc + 3) ls st M dec A) (kb : ¬ x = y → V mi d b0 b1 bc bs (tgt) ls st M dec B) : V mi d b0 b1 bc bs pc ls (pI y :: pI x :: st) M dec (if x = y then A else B) :=
  v_br ka kb (fun h => (okS_cons.mp (okS_cons.mp h).2).2) (fun hS G b p l e s m args below meth c Q C H locs cells slots lsA wa wb => by
    have hx : r32 x := (okS_cons.mp (okS_cons.mp hS).2).1
    have hy : r32 y := (okS_cons.mp hS).1
    have hE := q_eq hx hy
    exact lv_icmp_ne C.1 C.2.1 hd ht (fun h => wb (fun q => h (hE.mpr q))) (fun h => wa (hE.mp h)))
theorem v_if_lt {x : Int} {off : Int} {tgt : Nat} (hd : decode mi.2.1 pc = .ok (.ifCond .lt off, 3)) (ht : (pc : Int) + off = (tgt : Int)) (ka : x < 0 → V mi d b0 b1 bc bs (tgt) ls st M dec A) (kb : ¬ x < 0 → V mi d b0 b1 bc bs (pc + 3) ls st M dec B) : V mi d b0 b1 bc bs pc ls (pI x :: st) M dec (if x < 0 then A else B) :=
  v_br ka kb (fun h => (okS_cons.mp h).2) (fun hS G b p l e s m args below meth c Q C H locs cells slots lsA wa wb => by
    have hx : r32 x := (okS_cons.mp hS).1
    have hy : r32 0 := r32_0
    have hE := q_lt hx hy
    rw [q_0] at hE
    exact lv_if_lt C.1 C.2.1 hd ht (fun h => wa (hE.mp h)) (fun h => wb (fun q => h (hE.mpr q))))
theorem v_icmp_lt {x y : Int} {off : Int} {tgt : Nat} (hd : decode mi.2.1 pc = .ok (.if_icmp .lt off, 3)) (ht : (pc : Int) + off = (tgt : Int)) (ka : x < y → V mi d b0 b1 bc bs (tgt) ls st M dec A) (kb : ¬ x < y → V mi d b0 b1 bc bs (pc + 3) ls st M dec B) : V mi d b0 b1 bc bs pc ls (pI y :: pI x :: st) M dec (if x < y then A else B) :=
  v_br ka kb (fun h => (okS_cons.mp (okS_cons.mp h).2).2) (fun hS G b p l e s m args below meth c Q C H locs cells slots lsA wa wb => by
    have hx : r32 x := (okS_cons.mp (okS_cons.mp hS).2).1
    have hy : r32 y := (okS_cons.mp hS).1
    have hE := q_lt hx hy
    exact lv_icmp_lt C.1 C.2.1 hd ht (fun h => wa (hE.mp h)) (fun h => wb (fun q => h (hE.mpr q))))
theorem v_if_ge {x : Int} {off : Int} {tgt : Nat} (hd : decode mi.2.1 pc = .ok (.ifCond .ge off, 3)) (ht : (pc : Int) + off = (tgt : Int)) (ka : x < 0 → V mi d b0 b1 bc bs (pc + 3) ls st M dec A) (kb : ¬ x < 0 → V mi d b0 b1 bc bs (tgt) ls st M dec B) : V mi d b0 b1 bc bs pc ls (pI x :: st) M dec (if x < 0 then A else B) :=
  v_br ka kb (fun h => (okS_cons.mp h).2) (fun hS G b p l e s m args below meth c Q C H locs cells slots lsA wa wb => by
    have hx : r32 x := (okS_cons.mp hS).1
    have hy : r32 0 := r32_0
    have hE := q_le hy hx
    rw [q_0] at hE
    exact lv_if_ge C.1 C.2.1 hd ht (fun h => wb (fun q => by have := hE.mp h; omega)) (fun h => wa (Int.not_le.mp (fun q => h (hE.mpr q)))))
theorem v_icmp_ge {x y : Int} {off : Int} {tgt : Nat} (hd : decode mi.2.1 pc = .ok (.if_icmp .ge off, 3)) (ht : (pc : Int) + off = (tgt : Int)) (ka : x < y → V mi d b0 b1 bc bs (pc + 3) ls st M dec A) (kb : ¬ x < y → V mi d b0 b1 bc bs (tgt) ls st M dec B) : V mi d b0 b1 bc bs pc ls (pI y :: pI x :: st) M dec (if x < y then A else B) :=
  v_br ka kb (fun h => (okS_cons.mp (okS_cons.mp h).2).2) (fun hS G b p l e s m args below meth c Q C H locs cells slots lsA wa wb => by
    have hx : r32 x := (okS_cons.mp (okS_cons.mp hS).2).1
    have hy : r32 y := (okS_cons.mp hS).1
    have hE := q_le hy hx
    exact lv_icmp_ge C.1 C.2.1 hd ht (fun h => wb (fun q => by have := hE.mp h; omega)) (fun h => wa (Int.not_le.mp (fun q => h (hE.mpr q)))))
theorem v_if_gt {x : Int} {off : Int} {tgt : Nat} (hd : decode mi.2.1 pc = .ok (.ifCond .gt off, 3)) (ht : (pc : Int) + off = (tgt : Int)) (ka : 0 < x → V mi d b0 b1 bc bs (tgt) ls st M dec A) (kb : ¬ 0 < x → V mi d b0 b1 bc bs (pc + 3) ls st M dec B) : V mi d b0 b1 bc bs pc ls (pI x :: st) M dec (if 0 < x then A else B) :=
  v_br ka kb (fun h => (okS_cons.mp h).2) (fun hS G b p l e s m args below meth c Q C H locs cells slots lsA wa wb => by
    have hx : r32 x := (okS_cons.mp hS).1
    have hy : r32 0 := r32_0
    have hE := q_lt hy hx
    rw [q_0] at hE
    exact lv_if_gt C.1 C.2.1 hd ht (fun h => wa (hE.mp h)) (fun h => wb (fun q => h (hE.mpr q))))
theorem v_icmp_gt {x y : Int} {off : Int} {tgt : Nat} (hd : decode mi.2.1 pc = .ok (.if_icmp .gt off, 3)) (ht : (pc : Int) + off = (tgt : Int)) (ka : y < x → V mi d b0 b1 bc bs (tgt) ls st M dec A) (kb : ¬ y < x → V mi d b0 b1 bc bs (pc + 3) ls st M dec B) : V mi d b0 b1 bc bs pc ls (pI y :: pI x :: st) M dec (if y < x then A else B) :=
  v_br ka kb (fun h => (okS_cons.mp (okS_cons.mp h).2).2) (fun hS G b p l e s m args below meth c Q C H locs cells slots lsA wa wb => by
    have hx : r32 x := (okS_cons.mp (okS_cons.mp hS).2).1
    have hy : r32 y := (okS_cons.mp hS).1
    have hE := q_lt hy hx
    exact lv_icmp_gt C.1 C.2.1 hd ht (fun h => wa (hE.mp h)) (fun h => wb (fun q => h (hE.mpr q))))
theorem v_if_le {x : Int} {off : Int} {tgt : Nat} (hd : decode mi.2.1 pc = .ok (.ifCond .le off, 3)) (ht : (pc : Int) + off = (tgt : Int)) (ka : 0 < x → V mi d b0 b1 bc bs (pc + 3) ls st M dec A) (kb : ¬ 0 < x → V mi d b0 b1 bc bs (tgt) ls st M dec B) : V mi d b0 b1 bc bs pc ls (pI x :: st) M dec (if 0 < x then A else B) :=
  v_br ka kb (fun h => (okS_cons.mp h).2) (fun hS G b p l e s m args below meth c Q C H locs cells slots lsA wa wb => by
    have hx : r32 x := (okS_cons.mp hS).1
    have hy : r32 0 := r32_0
    have hE := q_le hx hy
    rw [q_0] at hE
    exact lv_if_le C.1 C.2.1 hd ht (fun h => wb (fun q => by have := hE.mp h; omega)) (fun h => wa (Int.not_le.mp (fun q => h (hE.mpr q)))))
theorem v_icmp_le {x y : Int} {off : Int} {tgt : Nat} (hd : decode mi.2.1 pc = .ok (.if_icmp .le off, 3)) (ht : (pc : Int) + off = (tgt : Int)) (ka : y < x → V mi d b0 b1 bc bs (pc + 3) ls st M dec A) (kb : ¬ y < x → V mi d b0 b1 bc bs (tgt) ls st M dec B) : V mi d b0 b1 bc bs pc ls (pI y :: pI x :: st) M dec (if y < x then A else B) :=
  v_br ka kb (fun h => (okS_cons.mp (okS_cons.mp h).2).2) (fun hS G b p l e s m args below meth c Q C H locs cells slots lsA wa wb => by
    have hx : r32 x := (okS_cons.mp (okS_cons.mp hS).2).1
    have hy : r32 y := (okS_cons.mp hS).1
    have hE := q_le hx hy
    exact lv_icmp_le C.1 C.2.1 hd ht (fun h => wb (fun q => by have := hE.mp h; omega)) (fun h => wa (Int.not_le.mp (fun q => h (hE.mpr q)))))
theorem v_ifnull {x : Int} {off : Int} {tgt : Nat} (hd : decode mi.2.1 pc = .ok (.ifnull off, 3)) (ht : (pc : Int) + off = (tgt : Int)) (ka : x = -1 → V mi d b0 b1 bc bs tgt ls st M dec A) (kb : ¬ x = -1 → V mi d b0 b1 bc bs (pc + 3) ls st M dec B) : V mi d b0 b1 bc bs pc ls (pA x :: st) M dec (if x = -1 then A else B) :=
  v_br ka kb (fun h => (okS_cons.mp h).2) (fun hS G b p l e s m args below meth c Q C H locs cells slots lsA wa wb => by
    simp only [List.map_cons, eV, eR]
    split
    · rename_i h; exact lv_ifnullN C.1 C.2.1 hd ht (wa h)
    · rename_i h
      split
      · exact lv_ifnull C.1 C.2.1 hd (wb h)
      · exact lv_ifnull C.1 C.2.1 hd (wb h))
theorem v_ifnonnull {x : Int} {off : Int} {tgt : Nat} (hd : decode mi.2.1 pc = .ok (.ifnonnull off, 3)) (ht : (pc : Int) + off = (tgt : Int)) (ka : x = -1 → V mi d b0 b1 bc bs (pc + 3) ls st M dec A) (kb : ¬ x = -1 → V mi d b0 b1 bc bs tgt ls st M dec B) : V mi d b0 b1 bc bs pc ls (pA x :: st) M dec (if x = -1 then A else B) :=
  v_br ka kb (fun h => (okS_cons.mp h).2) (fun hS G b p l e s m args below meth c Q C H locs cells slots lsA wa wb => by
    simp only [List.map_cons, eV, eR]
    split
    · rename_i h; exact lv_ifnonnullN C.1 C.2.1 hd (wa h)
    · rename_i h
      split
      · exact lv_ifnonnull C.1 C.2.1 hd ht (wb h)
      · exact lv_ifnonnull C.1 C.2.1 hd ht (wb h))
theorem v_goto {off : Int} {tgt : Nat} (hd : decode mi.2.1 pc = .ok (.goto off, 3)) (ht : (pc : Int) + off = (tgt : Int)) (k : V mi d b0 b1 bc bs tgt ls st M dec X) : V mi d b0 b1 bc bs pc ls st M dec X :=
  v_op k (fun _ h => h) (fun _ _ G b p l e s m args below meth c Q C H locs cells slots lsA _ kk => lv_goto C.1 C.2.1 hd ht kk)
/-- a case of the pure side alone -/
theorem v_ite {P : Prop} [Decidable P] (ka : P → V mi d b0 b1 bc bs pc ls st M dec A) (kb : ¬ P → V mi d b0 b1 bc bs pc ls st M dec B) : V mi d b0 b1 bc bs pc ls st M dec (if P then A else B) := by
  by_cases h : P
  · rw [if_pos h]; exact ka h
  · rw [if_neg h]; exact kb h
theorem v_tabIn {dflt lo hi : Int} {offs : Array Int} {len : Nat} {x n off : Int} {tgt : Nat} (hd : decode mi.2.1 pc = .ok (.tableswitch dflt lo hi offs, len)) (hx : x = n) (h1 : lo ≤ n ∧ n ≤ hi ∧ offs[(n - lo).toNat]? = some off ∧ (pc : Int) + off = (tgt : Int)) (k : V mi d b0 b1 bc bs tgt ls st M dec X) : V mi d b0 b1 bc bs pc ls (pI x :: st) M dec X := by
  subst hx
  obtain ⟨h1, h2, h3, h4⟩ := h1
  exact v_op k (fun _ h => (okS_cons.mp h).2) (fun _ hS G b p l e s m args below meth c Q C H locs cells slots lsA _ kk => by
    have hx := q_in (okS_cons.mp hS).1
    exact lv_tableIn C.1 C.2.1 hd (by rw [hx]; omega) (by rw [hx]; omega) (by rw [hx]; exact h3) h4 kk)
theorem v_tabOut {dflt lo hi : Int} {offs : Array Int} {len : Nat} {x : Int} {tgt : Nat} (hd : decode mi.2.1 pc = .ok (.tableswitch dflt lo hi offs, len)) (hx : x < lo ∨ hi < x) (ht : (pc : Int) + dflt = (tgt : Int)) (k : V mi d b0 b1 bc bs tgt ls st M dec X) : V mi d b0 b1 bc bs pc ls (pI x :: st) M dec X :=
  v_op k (fun _ h => (okS_cons.mp h).2) (fun _ hS G b p l e s m args below meth c Q C H locs cells slots lsA _ kk => by
    have h := q_in (okS_cons.mp hS).1
    exact lv_tableOut C.1 C.2.1 hd (by rw [h]; exact hx) ht kk)
/-! the ends -/
theorem v_ireturn {x : Int} {r : ρ} (hd : decode mi.2.1 pc = .ok (.ireturn, 1)) (hr : mi.2.2.2 = some .int) (h : dec r = (some (pI x), M)) : V mi d b0 b1 bc bs pc ls [pI x] M dec (some r) := by
  intro r' e hM hL hS
  cases e
  rw [h]
  refine ⟨⟨hM, fun v hv => by cases hv; exact (okS_cons.mp hS).1⟩, fun G b p l e s m args below meth c C H locs cells slots lsA D => ?_⟩
  obtain ⟨D1, D2, D3, D4, D5, D6⟩ := D
  refine W.widen (k := b0) (n := b1) (by omega) (by omega) ?_
  exact W.iret (v := Int32.ofInt x) C.1 C.2.1 (C.2.2.1.trans hr) (fun t ht hW => ⟨rfl, by rw [ht]; exact D1, by rw [ht]; exact D2, by rw [ht]; exact D3.1, fun q h1 h2 => by rw [ht]; exact D3.2.1 q h1 h2⟩) D3.2.2 hd (hlocks := C.2.2.2.2.2.2.1)
theorem v_zreturn {x : Int} {ty : FieldType} {r : ρ} (hd : decode mi.2.1 pc = .ok (.ireturn, 1)) (hr : mi.2.2.2 = some ty) (hn : narrow ty (.int (Int32.ofInt x)) = .int (Int32.ofInt x)) (h : dec r = (some (pI x), M)) : V mi d b0 b1 bc bs pc ls [pI x] M dec (some r) := by
  intro r' e hM hL hS
  cases e
  rw [h]
  refine ⟨⟨hM, fun v hv => by cases hv; exact (okS_cons.mp hS).1⟩, fun G b p l e s m args below meth c C H locs cells slots lsA D => ?_⟩
  obtain ⟨D1, D2, D3, D4, D5, D6⟩ := D
  refine W.widen (k := b0) (n := b1) (by omega) (by omega) ?_
  exact W.zret (v := Int32.ofInt x) C.1 C.2.1 (C.2.2.1.trans hr) hn (fun t ht hW => ⟨rfl, by rw [ht]; exact D1, by rw [ht]; exact D2, by rw [ht]; exact D3.1, fun q h1 h2 => by rw [ht]; exact D3.2.1 q h1 h2⟩) D3.2.2 hd (hlocks := C.2.2.2.2.2.2.1)
theorem nar_z {x : Int} (h : x = 0 ∨ x = 1) : narrow .boolean (.int (Int32.ofInt x)) = .int (Int32.ofInt x) := by
  rcases h with rfl | rfl <;> decide
theorem v_breturn {x : Int} {r : ρ} (hd : decode mi.2.1 pc = .ok (.ireturn, 1)) (hr : mi.2.2.2 = some .boolean) (hx : x = 0 ∨ x = 1) (h : dec r = (some (pI x), M)) : V mi d b0 b1 bc bs pc ls [pI x] M dec (some r) := v_zreturn hd hr (nar_z hx) h
theorem v_return {r : ρ} (hd : decode mi.2.1 pc = .ok (.return_, 1)) (hr : mi.2.2.2 = none) (h : dec r = (none, M)) : V mi d b0 b1 bc bs pc ls [] M dec (some r) := by
  intro r' e hM hL hS
  cases e
  rw [h]
  refine ⟨⟨hM, fun v hv => by cases hv⟩, fun G b p l e s m args below meth c C H locs cells slots lsA D => ?_⟩
  obtain ⟨D1, D2, D3, D4, D5, D6⟩ := D
  refine W.widen (k := b0) (n := b1) (by omega) (by omega) ?_
  exact W.vret C.1 C.2.1 (C.2.2.1.trans hr) (fun t ht hW => ⟨rfl, by rw [ht]; exact D1, by rw [ht]; exact D2, by rw [ht]; exact D3.1, fun q h1 h2 => by rw [ht]; exact D3.2.1 q h1 h2⟩) D3.2.2 hd (hlocks := C.2.2.2.2.2.2.1)
theorem v_areturn {x : Int} {rt : FieldType} {r : ρ} (hd : decode mi.2.1 pc = .ok (.areturn, 1)) (hr : mi.2.2.2 = some rt) (hrt : (∃ n, rt = .object n) ∨ ∃ t, rt = .array t) (h : dec r = (some (pA x), M)) : V mi d b0 b1 bc bs pc ls [pA x] M dec (some r) := by
  intro r' e hM hL hS
  cases e
  rw [h]
  refine ⟨⟨hM, fun v hv => by cases hv; trivial⟩, fun G b p l e s m args below meth c C H locs cells slots lsA D => ?_⟩
  obtain ⟨D1, D2, D3, D4, D5, D6⟩ := D
  refine W.widen (k := b0) (n := b1) (by omega) (by omega) ?_
  exact W.aret (v := eR b G.2.2.2.1 x) C.1 C.2.1 (C.2.2.1.trans hr) hrt (by unfold eR; split; exact Or.inl rfl; split; exact Or.inr ⟨_, rfl⟩; exact Or.inr ⟨_, rfl⟩) (fun t ht hW => ⟨rfl, by rw [ht]; exact D1, by rw [ht]; exact D2, by rw [ht]; exact D3.1, fun q h1 h2 => by rw [ht]; exact D3.2.1 q h1 h2⟩) D3.2.2 hd (hlocks := C.2.2.2.2.2.2.1)
end RulesA
end
section
theorem inGT {ws : List Cond} (h : ws.all (fun w => decide (w ∈ tables_1) && goodWord w) = true) : ∀ w ∈ ws, w ∈ GT := fun w hw => by
  have h1 := List.all_eq_true.mp h w hw
  simp only [Bool.and_eq_true, decide_eq_true_eq] at h1
  exact List.mem_filter.mpr ⟨List.mem_append_right _ h1.1, h1.2⟩
theorem eR_nn {b : Nat} {cs : Nat → Nat} {a : Int} (h : 0 ≤ a) : eR b cs a = .ref (b + a.toNat) := by unfold eR; rw [if_neg (by omega), if_pos h]
theorem toNat_c {a : Int} (h : 0 ≤ a) : ((a.toNat : Nat) : Int) = a := Int.toNat_of_nonneg h
/-- a cell of the memory, at its place in the world -/
theorem wsM_get {cA : Nat → ClassId} {b : Nat} {M : Mem} (hM : MemOK M) {a : Int} (h : M.2.1 a ≠ -1) : 0 ≤ a ∧ a.toNat < M.2.2.2 ∧ (wsM cA b M)[a.toNat]? = some (b + a.toNat, cE cA b M a.toNat) := by
  obtain ⟨h0, h1⟩ := hM.1 a h
  have h2 : a.toNat < M.2.2.2 := by omega
  exact ⟨h0, h2, wsM_at h2⟩
theorem MemOK.st {M : Mem} (h : MemOK M) {a i v : Int} (hv : ∀ n : Nat, i = n → M.2.1 a ≠ -1 → okT (tOf (M.2.1 a) n) v) : MemOK (mst M a i v) := by
  obtain ⟨h1, h2, h3, h4⟩ := h
  refine ⟨h1, h2, h3, fun x n hx => ?_⟩
  show okT (tOf (M.2.1 x) n) (if x = a ∧ (n : Int) = i then v else M.1 x n)
  split
  · rename_i hq
    obtain ⟨rfl, hq⟩ := hq
    exact hv n hq.symm hx
  · exact h4 x n hx
def tOKb : FieldType → Bool
  | .int => true
  | .long => true
  | .boolean => true
  | .object _ => true
  | .array _ => true
  | _ => false
theorem eT_fit {b : Nat} {t : FieldType} {x : Int} (ht : tOKb t = true) (h : okT t x) : narrow t (eT b t x) = eT b t x ∧ fits t (eT b t x) = true := by
  cases t with
  | int => exact ⟨rfl, rfl⟩
  | long => exact ⟨rfl, rfl⟩
  | boolean => rcases h with rfl | rfl <;> (simp only [eT]; exact ⟨by decide, by decide⟩)
  | object n => simp only [eT]; cases eO b x <;> exact ⟨rfl, rfl⟩
  | array n => simp only [eT]; cases eO b x <;> exact ⟨rfl, rfl⟩
  | _ => cases ht
theorem map_set {α : Type} (f : Nat → α) (n k : Nat) (v : α) : ((List.range n).map f).set k v = (List.range n).map (fun j => if j = k then v else f j) := by
  apply List.ext_getElem?
  intro j
  rw [List.getElem?_set, List.getElem?_map, List.getElem?_map]
  by_cases hj : j < n
  · rw [List.getElem?_range hj]
    by_cases hk : k = j
    · subst hk; simp [hj]
    · rw [if_neg hk]; simp [Ne.symm hk]
  · have : (List.range n)[j]? = none := by rw [List.getElem?_eq_none_iff]; simpa using Nat.not_lt.mp hj
    rw [this]
    by_cases hk : k = j
    · subst hk; simp [hj]
    · rw [if_neg hk]; rfl
theorem cls_n {ci : Nat} {C : String} {T : u_T} {N : Nat} (hc : vwCl[ci]? = some (C, T, N)) : ci ≤ 10 ∧ nfl ci = N := by
  match ci, hc with
  | 0, hc => cases hc; exact ⟨by decide, rfl⟩
  | 1, hc => cases hc; exact ⟨by decide, rfl⟩
  | 2, hc => cases hc; exact ⟨by decide, rfl⟩
  | 3, hc => cases hc; exact ⟨by decide, rfl⟩
  | 4, hc => cases hc; exact ⟨by decide, rfl⟩
  | 5, hc => cases hc; exact ⟨by decide, rfl⟩
  | 6, hc => cases hc; exact ⟨by decide, rfl⟩
  | 7, hc => cases hc; exact ⟨by decide, rfl⟩
  | 8, hc => cases hc; exact ⟨by decide, rfl⟩
  | 9, hc => cases hc; exact ⟨by decide, rfl⟩
  | 10, hc => cases hc; exact ⟨by decide, rfl⟩
  | n + 11, hc => simp [vwCl] at hc
theorem cls_ty {ci : Nat} {C : String} {T : u_T} {N : Nat} (hc : vwCl[ci]? = some (C, T, N)) : (∀ k, k < N → parseFieldDescriptor (T k).2.2.1 = some (fty ci k)) ∧ (∀ a, a < N → ∀ b, b < N → a ≠ b → (T a).2.1 ≠ (T b).2.1) := by
  match ci, hc with
  | 0, hc => cases hc; exact ⟨tyX0_ok, nmX0⟩
  | 1, hc => cases hc; exact ⟨tyX1_ok, nmX1⟩
  | 2, hc => cases hc; exact ⟨tyX2_ok, nmX2⟩
  | 3, hc => cases hc; exact ⟨tyX3_ok, nmX3⟩
  | 4, hc => cases hc; exact ⟨tyX4_ok, nmX4⟩
  | 5, hc => cases hc; exact ⟨tyX5_ok, nmX5⟩
  | 6, hc => cases hc; exact ⟨tyX6_ok, nmX6⟩
  | 7, hc => cases hc; exact ⟨tyX7_ok, nmX7⟩
  | 8, hc => cases hc; exact ⟨tyX9_ok, nmX9⟩
  | 9, hc => cases hc; exact ⟨tyX10_ok, nmX10⟩
  | 10, hc => cases hc; exact ⟨tyX11_ok, nmX11⟩
  | n + 11, hc => simp [vwCl] at hc
section RulesM
variable {ρ : Type} {mi : MI} {d b0 b1 bc bs pc : Nat} {ls ls' : List (Option PV)} {st : List PV} {M : Mem} {dec : ρ → Option PV × Mem} {X A B : Option ρ}
theorem tOf_obj {ci i : Nat} (h : ci ≤ 10) : tOf (ci : Int) i = fty ci i := by
  unfold tOf
  rw [if_neg (by omega), if_neg (by omega), if_neg (by omega), if_neg (by omega)]
  rfl
theorem fs_at {b N k : Nat} {g : Nat → Value} (h : k < N) : ((List.range N).map g)[k]? = some (g k) := by
  rw [List.getElem?_map, List.getElem?_range h]; rfl
theorem v_get {C : String} {T : u_T} {N index : Nat} {a : Int} {v : PV} (ci k : Nat) (hc : vwCl[ci]? = some (C, T, N)) (hin : ∀ w ∈ u_ws C T N, w ∈ GT) (hk : k < N) (hlk : Cond.fieldLink mi.1.cls index (T k).1 (T k).2.1 (T k).2.2.1 ∈ GT) (hd : decode mi.2.1 pc = .ok (.getfield index, 3))
    (ha : M.2.1 a = (ci : Int)) (hv : tagT (fty ci k) (M.1 a k) = v) (kk : V mi d b0 b1 bc bs (pc + 3) ls (v :: st) M dec X) : V mi d b0 b1 bc bs pc ls (pA a :: st) M dec X := by
  subst hv
  obtain ⟨c10, hN⟩ := cls_n hc
  have ok : MemOK M → okT (fty ci k) (M.1 a k) := fun hM => by
    have := hM.2.2.2 a k (by rw [ha]; omega)
    rw [ha, tOf_obj c10] at this
    exact this
  refine v_step kk (fun hM hL hS => ⟨hM, hL, okS_cons.mpr ⟨okV_tag (ok hM), (okS_cons.mp hS).2⟩⟩) (fun hM hL hS G b p l e s m args below meth c Q Cc H locs cells slots lsA D w => ?_)
  obtain ⟨a0, a1, a2⟩ := wsM_get (cA := G.2.2.1) (b := b) hM (a := a) (by rw [ha]; omega)
  rw [cE_obj (k := (ci : Int)) (by rw [toNat_c a0]; exact ha) (by omega)] at a2
  have w2 := w H locs cells slots lsA D
  simp only [List.map_cons] at w2 ⊢
  rw [← eV_tag (ok hM)] at w2
  simp only [eV]
  rw [eR_nn a0]
  exact va_get (ref := (T k).1) Cc.1 Cc.2.1 Cc.2.2.2.2.2.1 hin Cc.2.2.2.2.1 Cc.2.2.2.2.2.2.2.2.1.1 D.2.1 a.toNat a2 (by rw [Int.toNat_natCast]; exact hc) k hk (Cc.2.2.2.2.2.1 _ hlk) (fun _ h => h) (v := eT b (fty ci k) (M.1 a k)) (by
    rw [Int.toNat_natCast, hN, fs_at (b := 0) hk, toNat_c a0]) hd w2
/-- the world behind a store into one cell -/
theorem Dy.set {G : GG} {b : Nat} {s : State} {H H1 : Heap} {locs : List Loc} {cells slots j : Nat} {lsA : Array Slot} {a i v : Int} (D : Dy mi G b b0 b1 bc bs s M ls H locs cells slots lsA) (a0 : 0 ≤ a) (a1 : a.toNat < M.2.2.2)
    (he : va_at (G.1, G.2.1) vwCl (b + a.toNat, cE G.2.2.1 b (mst M a i v) a.toNat) H1) (hz : H1.size = H.size) (oq : ∀ q : Nat, q ≠ b + a.toNat → H1[q]? = H[q]?) : Dy mi G b b0 b1 bc bs s (mst M a i v) ls H1 (locs ++ [⟨b + a.toNat, j⟩]) cells slots lsA := by
  obtain ⟨D1, D2, D3, D4, D5⟩ := D
  have hs := wsM_set (cA := G.2.2.1) (b := b) (i := i) (v := v) a1
  rw [toNat_c a0] at hs
  refine ⟨hz.trans D1, ?_, D3.put hz oq (Nat.le_add_right _ _), D4, D5⟩
  rw [← hs]
  exact D2.set wsM_D (wsM_at a1) he oq
theorem cE_st_obj {cA : Nat → ClassId} {b ci k : Nat} {a x : Int} (c10 : ci ≤ 10) (a0 : 0 ≤ a) (ha : M.2.1 a = (ci : Int)) : cE cA b (mst M a k x) a.toNat = .inr (ci, ((List.range (nfl ci)).map fun j => eT b (fty ci j) (M.1 a j)).set k (eT b (fty ci k) x)) := by
  rw [cE_obj (k := (ci : Int)) (by rw [toNat_c a0]; exact ha) (by omega), Int.toNat_natCast, map_set, toNat_c a0]
  congr 2
  apply List.map_congr_left
  intro j _
  show eT b (fty ci j) (if a = a ∧ (j : Int) = (k : Int) then x else M.1 a j) = _
  by_cases hj : j = k
  · subst hj; simp
  · rw [if_neg (by rintro ⟨-, q⟩; omega), if_neg hj]
theorem v_put {C : String} {T : u_T} {N index : Nat} {a x : Int} {v : PV} (ci k : Nat) (hc : vwCl[ci]? = some (C, T, N)) (hin : ∀ w ∈ u_ws C T N, w ∈ GT) (hk : k < N) (hlk : Cond.fieldLink mi.1.cls index (T k).1 (T k).2.1 (T k).2.2.1 ∈ GT) (hf : (T k).2.2.2 = false ∨ ((T k).2.2.2 = true ∧ mi.1.name = "<init>" ∧ (T k).1 = mi.1.cls)) (ht : tOKb (fty ci k) = true) (hd : decode mi.2.1 pc = .ok (.putfield index, 3))
    (ha : M.2.1 a = (ci : Int)) (hv : tagT (fty ci k) x = v) (hx : okV v → okT (fty ci k) x) (kk : V mi d b0 b1 bc bs (pc + 3) ls st (mst M a k x) dec X) : V mi d b0 b1 bc bs pc ls (v :: pA a :: st) M dec X := by
  subst hv
  obtain ⟨c10, hN⟩ := cls_n hc
  obtain ⟨hty, hnm⟩ := cls_ty hc
  refine v_step kk (fun hM hL hS => ⟨hM.st (fun n hn _ => ?_), hL, (okS_cons.mp (okS_cons.mp hS).2).2⟩) (fun hM hL hS G b p l e s m args below meth c Q Cc H locs cells slots lsA D w => ?_)
  · have : n = k := by omega
    subst this
    rw [ha, tOf_obj c10]
    exact hx (okS_cons.mp hS).1
  obtain ⟨a0, a1, a2⟩ := wsM_get (cA := G.2.2.1) (b := b) hM (a := a) (by rw [ha]; omega)
  have ok := hx (okS_cons.mp hS).1
  obtain ⟨hn, hfit⟩ := eT_fit (b := b) ht ok
  rw [cE_obj (k := (ci : Int)) (by rw [toNat_c a0]; exact ha) (by omega)] at a2
  simp only [List.map_cons]
  rw [← eV_tag ok]
  simp only [eV]
  rw [eR_nn a0]
  have hts := Cc.2.2.2.2.2.1
  have hK := Cc.2.2.2.2.2.2.2.2.1.1
  have hap := va_apart (own := mi.1.cls) hts hin (fty ci) hty hnm hK hc
  obtain ⟨r, h1, cell, q1, q2, q3, q4⟩ := D.2.1 a.toNat _ a2
  rw [Int.toNat_natCast] at h1 q2 q4
  have hr : r = (C, T, N) := Option.some.inj (h1.symm.trans hc)
  subst hr
  obtain ⟨hS', hfc, kC, hkC, hkind⟩ := hK.1 ci _ hc
  obtain ⟨cf, kf, fi, f, hi, hsl⟩ := hS' k hk
  have hst := (u_facts hfc hkC (u_lays hts hin hk) hi).1
  have hlen : k < ((List.range (nfl ci)).map fun j => eT b (fty ci j) (M.1 ((a.toNat : Nat) : Int) j)).length := by rw [List.length_map, List.length_range, hN]; exact hk
  have fin : ∀ H' : Heap, H'[b + a.toNat]? = some (cell.setSlot f.slot (eT b (fty ci k) x)) → H'.size = H.size → (∀ q, q ≠ b + a.toNat → H'[q]? = H[q]?) → W p l e (rmD d b0 b1) s m args below meth c H' (locs ++ [⟨b + a.toNat, f.slot⟩]) cells slots Q (F0 m (pc + 3) lsA (st.map (eV b G.2.2.2.1))) := fun H' e1 e2 e3 => by
    refine w H' _ cells slots lsA (D.set a0 a1 ?_ e2 e3)
    rw [hsl] at e1
    rw [cE_st_obj c10 a0 ha]
    rw [toNat_c a0] at q4 hlen
    exact ⟨_, hc, t_OB.to (V := updV (vp_V _) k (eT b (fty ci k) x)) ⟨_, e1, q2, q3, t_set q4 hap hk _⟩ (fun j _ => vp_updV_set hlen _ j)⟩
  have hlay := hts _ (hin _ (u_in_lay hk))
  unfold u_lay at hlay
  rcases hf with hf | ⟨hf, hi1, hi2⟩
  · rw [if_neg (by rw [hf]; decide)] at hlay
    have h6 := u_store hfc hkC hkind hlay hi (hty k hk) hn hfit
    exact W.putK Cc.1 Cc.2.1 (f := f) ⟨Cc.2.2.2.2.1, hts _ hlk, ⟨_, _, _, hi⟩, hst⟩ (by rw [q2]; exact h6) q1 q3 (by rw [hsl]; exact k2_hasslot (q4 k hk)) rfl rfl hd fin
  · rw [if_pos hf] at hlay
    have hcf : m.cls = cf := by
      obtain ⟨_, _, c', _, _, _, -, -, hf', -, -, -, hown2, -⟩ := Cond.laysFinal_spec hlay
      have e1 : c' = cf := by have := hi.symm.trans hf'; simp at this; exact this.1.symm
      rw [hi2] at hown2
      rw [← e1]; exact Option.some.inj (Cc.2.2.2.2.1.symm.trans hown2)
    have h6 := u_fits hfc hkC hkind (Or.inr hlay) hi (hty k hk) hn hfit
    exact W.putFinK Cc.1 Cc.2.1 Cc.2.2.2.2.1 (hts _ hlk) hi hst hcf (Cc.2.2.2.2.2.2.2.1.trans hi1) (by rw [q2]; exact h6) q1 q3 (by rw [hsl]; exact k2_hasslot (q4 k hk)) rfl rfl hd fin
end RulesM
end
section
def ini (k : Int) (y : Int) : Int := match tOf k y.toNat with
  | .object _ => -1
  | .array _ => -1
  | _ => 0
/-- a new cell -/
def mnew (M : Mem) (k n : Int) : Mem := (fun x y => if x = (M.2.2.2 : Int) then ini k y else M.1 x y, up1 M.2.1 M.2.2.2 k, up1 M.2.2.1 M.2.2.2 n, M.2.2.2 + 1)
theorem ini_ok (k : Int) (i : Nat) : okT (tOf k i) (ini k i) := by
  unfold ini
  rw [Int.toNat_natCast]
  cases tOf k i <;> simp [okT, r32, r64]
theorem MemOK.new {M : Mem} (h : MemOK M) {k n : Int} (hk : 0 ≤ k ∧ k ≤ 18) (hn : 0 ≤ n ∧ n < 2147483648) : MemOK (mnew M k n) := by
  obtain ⟨h1, h2, h3, h4⟩ := h
  refine ⟨fun a ha => ?_, fun a => ?_, fun a => ?_, fun a i ha => ?_⟩
  · change (if a = (M.2.2.2 : Int) then k else M.2.1 a) ≠ -1 at ha
    show 0 ≤ a ∧ a < ((M.2.2.2 + 1 : Nat) : Int)
    split at ha
    · omega
    · have := h1 a ha; omega
  · show -1 ≤ (if a = (M.2.2.2 : Int) then k else M.2.1 a) ∧ (if a = (M.2.2.2 : Int) then k else M.2.1 a) ≤ 18
    split
    · omega
    · exact h2 a
  · show 0 ≤ (if a = (M.2.2.2 : Int) then n else M.2.2.1 a) ∧ (if a = (M.2.2.2 : Int) then n else M.2.2.1 a) < 2147483648
    split
    · exact hn
    · exact h3 a
  · change (if a = (M.2.2.2 : Int) then k else M.2.1 a) ≠ -1 at ha
    show okT (tOf (if a = (M.2.2.2 : Int) then k else M.2.1 a) i) (if a = (M.2.2.2 : Int) then ini k i else M.1 a i)
    split
    · exact ini_ok k i
    · rename_i hq; rw [if_neg hq] at ha; exact h4 a i ha
theorem wsM_new {cA : Nat → ClassId} {b : Nat} {M : Mem} {k n : Int} : wsM cA b (mnew M k n) = wsM cA b M ++ [(b + M.2.2.2, cE cA b (mnew M k n) M.2.2.2)] := by
  unfold wsM
  show (List.range (M.2.2.2 + 1)).map _ = _
  rw [List.range_succ, List.map_append]
  congr 1
  apply List.map_congr_left
  intro j hj
  have hj := List.mem_range.mp hj
  have e1 : ∀ y, (mnew M k n).1 (j : Int) y = M.1 j y := fun y => by
    show (if (j : Int) = (M.2.2.2 : Int) then ini k y else M.1 j y) = _
    rw [if_neg (by omega)]
  have e2 : (mnew M k n).2.1 (j : Int) = M.2.1 j := by
    show (if (j : Int) = (M.2.2.2 : Int) then k else M.2.1 j) = _
    rw [if_neg (by omega)]
  have e3 : (mnew M k n).2.2.1 (j : Int) = M.2.2.1 j := by
    show (if (j : Int) = (M.2.2.2 : Int) then n else M.2.2.1 j) = _
    rw [if_neg (by omega)]
  congr 1
  unfold cE
  simp only [e1, e2, e3]
section RulesR
variable {ρ : Type} {mi : MI} {d b0 b1 bc bs pc : Nat} {ls ls' : List (Option PV)} {st : List PV} {M : Mem} {dec : ρ → Option PV × Mem} {X A B : Option ρ}
theorem Dy.new {G : GG} {b : Nat} {s : State} {H H1 : Heap} {locs : List Loc} {cells slots nn : Nat} {lsA : Array Slot} {k n : Int} (D : Dy mi G b b0 b1 (bc + 1) (bs + nn) s M ls H locs cells slots lsA)
    (he : va_at (G.1, G.2.1) vwCl (b + M.2.2.2, cE G.2.2.1 b (mnew M k n) M.2.2.2) H1) (hz : H1.size = H.size + 1) (oq : ∀ q : Nat, q < H.size → H1[q]? = H[q]?) : Dy mi G b b0 b1 bc bs s (mnew M k n) ls H1 locs (cells + 1) (slots + nn) lsA := by
  obtain ⟨D1, D2, D3, D4, D5, D6⟩ := D
  refine ⟨?_, ?_, ⟨Nat.le_trans D3.1 (by omega), fun q h1 h2 => (oq q (Nat.lt_of_lt_of_le h1 D3.1)).trans (D3.2.1 q h1 h2), D3.2.2⟩, D4, by omega, by omega⟩
  · rw [hz, D1]; show b + M.2.2.2 + 1 = b + (M.2.2.2 + 1); omega
  · rw [wsM_new]
    refine va_P.app (D2.kept fun k' q hq => oq q.1 ((D2 k' q hq).lt)) (fun k' q hq => ?_)
    have hk : k' < 1 := (List.getElem?_eq_some_iff.mp hq).1
    rw [show k' = 0 by omega] at hq
    cases hq
    exact he
theorem mnew_k {k n : Int} : (mnew M k n).2.1 ((M.2.2.2 : Nat) : Int) = k := by
  show (if ((M.2.2.2 : Nat) : Int) = (M.2.2.2 : Int) then k else _) = k
  rw [if_pos rfl]
theorem mnew_l {k n : Int} : (mnew M k n).2.2.1 ((M.2.2.2 : Nat) : Int) = n := by
  show (if ((M.2.2.2 : Nat) : Int) = (M.2.2.2 : Int) then n else _) = n
  rw [if_pos rfl]
theorem mnew_c {k n : Int} (y : Int) : (mnew M k n).1 ((M.2.2.2 : Nat) : Int) y = ini k y := by
  show (if ((M.2.2.2 : Nat) : Int) = (M.2.2.2 : Int) then ini k y else _) = _
  rw [if_pos rfl]
theorem eR_new {b : Nat} {cs : Nat → Nat} {z : Nat} : eR b cs (z : Int) = .ref (b + z) := by
  rw [eR_nn (by omega), Int.toNat_natCast]
theorem ini_def {b ci j : Nat} (h : ci ≤ 10) (ht : tOKb (fty ci j) = true) : eT b (fty ci j) (ini (ci : Int) j) = defaultValue (fty ci j) := by
  unfold ini
  rw [Int.toNat_natCast, tOf_obj h]
  cases hf : fty ci j <;> rw [hf] at ht <;> first | (cases ht; done) | rfl
theorem v_new {C : String} {T : u_T} {N index : Nat} (ci : Nat) (hc : vwCl[ci]? = some (C, T, N)) (hin : ∀ w ∈ u_ws C T N, w ∈ GT) (hlk : Cond.classLink mi.1.cls index C ∈ GT) (hins : Cond.instantiable C N ∈ GT) (hini : Cond.initialized C ∈ GT) (hft : ∀ j, j < N → tOKb (fty ci j) = true) (hd : decode mi.2.1 pc = .ok (.new index, 3))
    (kk : V mi d b0 b1 bc bs (pc + 3) ls (pA (M.2.2.2 : Int) :: st) (mnew M (ci : Int) (N : Int)) dec X) : V mi d b0 b1 (bc + 1) (bs + N) pc ls st M dec X := by
  obtain ⟨c10, hN⟩ := cls_n hc
  obtain ⟨hty, hnm⟩ := cls_ty hc
  have hN2 : N < 2147483648 := by
    rw [← hN]; unfold nfl; split <;> decide
  refine v_step kk (fun hM hL hS => ⟨hM.new (by omega) (by omega), hL, okS_cons.mpr ⟨trivial, hS⟩⟩) (fun hM hL hS G b p l e s m args below meth c Q Cc H locs cells slots lsA D w => ?_)
  have hK := Cc.2.2.2.2.2.2.2.2.1.1
  have hts := Cc.2.2.2.2.2.1
  have hKn := hK.1 ci _ hc
  obtain ⟨D1, D2, D3, D4, D5, D6⟩ := id D
  refine W.newcK Cc.1 Cc.2.1 Cc.2.2.2.2.1 (hts _ hlk) (hts _ hins) (hts _ hini) rfl hd (show cells + 1 ≤ b0 by omega) (show slots + N ≤ b1 by omega) hKn.2.1 D1 fun H1 kC hkC e1 z1 o1 => ?_
  have w2 := w H1 locs (cells + 1) (slots + N) lsA (D.new (k := (ci : Int)) (n := (N : Int)) (by
    rw [cE_obj (k := (ci : Int)) mnew_k (by omega), Int.toNat_natCast]
    refine ⟨_, hc, (u_born (fty ci) hts hin hKn hkC e1 hty).to (fun j hj => ?_)⟩
    show _ = vp_V _ j
    unfold vp_V
    rw [List.getD_eq_getElem?_getD, hN, fs_at (b := 0) hj, mnew_c]
    exact (ini_def c10 (hft j hj)).symm) (by rw [z1, D1]) (fun q hq => o1 q (by omega)))
  simp only [List.map_cons, eV] at w2
  rw [eR_new] at w2
  exact w2
theorem tys_at {cA : Nat → ClassId} : (tysG cA)[0]? = some (cA 11, .byte) ∧ (tysG cA)[1]? = some (cA 12, .int) ∧ (tysG cA)[2]? = some (cA 13, .boolean) := ⟨rfl, rfl, rfl⟩
theorem r32_len (hM : MemOK M) {a i : Int} (h0 : 0 ≤ i) (h : i < M.2.2.1 a) : r32 i := by
  have := hM.2.2.1 a
  unfold r32; omega
theorem v_iaload {a i : Int} (h : M.2.1 a = 12 ∧ 0 ≤ i ∧ i < M.2.2.1 a) (hd : decode mi.2.1 pc = .ok (.iaload, 1)) (kk : V mi d b0 b1 bc bs (pc + 1) ls (pI (M.1 a i) :: st) M dec X) : V mi d b0 b1 bc bs pc ls (pI i :: pA a :: st) M dec X := by
  obtain ⟨hk, h0, hl⟩ := h
  refine v_step kk (fun hM hL hS => ⟨hM, hL, okS_cons.mpr ⟨?_, (okS_cons.mp (okS_cons.mp hS).2).2⟩⟩) (fun hM hL hS G b p l e s m args below meth c Q Cc H locs cells slots lsA D w => ?_)
  · have := hM.2.2.2 a i.toNat (by rw [hk]; omega)
    rw [hk, toNat_c h0] at this
    exact this
  obtain ⟨a0, a1, a2⟩ := wsM_get (cA := G.2.2.1) (b := b) hM (a := a) (by rw [hk]; omega)
  rw [cE_arr (k := 12) (by rw [toNat_c a0]; exact hk) (Or.inr (Or.inl rfl)), toNat_c a0] at a2
  have w2 := w H locs cells slots lsA D
  simp only [List.map_cons, eV] at w2 ⊢
  rw [eR_nn a0]
  have hi := (okS_cons.mp hS).1
  refine va_iald Cc.1 Cc.2.1 Cc.2.2.2.2.2.2.2.2.1.1 D.2.1 a.toNat 1 a2 rfl (q_vp hi h0 (by omega)) hd ?_
  rw [q_clamp hi h0, toNat_c h0]
  exact w2
theorem v_baload {a i : Int} (h : (M.2.1 a = 11 ∨ M.2.1 a = 13) ∧ 0 ≤ i ∧ i < M.2.2.1 a) (hd : decode mi.2.1 pc = .ok (.baload, 1)) (kk : V mi d b0 b1 bc bs (pc + 1) ls (pI (M.1 a i) :: st) M dec X) : V mi d b0 b1 bc bs pc ls (pI i :: pA a :: st) M dec X := by
  obtain ⟨hk, h0, hl⟩ := h
  refine v_step kk (fun hM hL hS => ⟨hM, hL, okS_cons.mpr ⟨?_, (okS_cons.mp (okS_cons.mp hS).2).2⟩⟩) (fun hM hL hS G b p l e s m args below meth c Q Cc H locs cells slots lsA D w => ?_)
  · have := hM.2.2.2 a i.toNat (by omega)
    rw [toNat_c h0] at this
    show r32 _
    unfold r32
    rcases hk with hk | hk <;> rw [hk] at this
    · obtain ⟨q1, q2⟩ := this; omega
    · rcases this with q | q <;> omega
  obtain ⟨a0, a1, a2⟩ := wsM_get (cA := G.2.2.1) (b := b) hM (a := a) (by omega)
  have w2 := w H locs cells slots lsA D
  simp only [List.map_cons, eV] at w2 ⊢
  rw [eR_nn a0]
  have hi := (okS_cons.mp hS).1
  rcases hk with hk | hk
  · rw [cE_arr (k := 11) (by rw [toNat_c a0]; exact hk) (Or.inl rfl), toNat_c a0] at a2
    refine va_bald Cc.1 Cc.2.1 Cc.2.2.2.2.2.2.2.2.1.1 D.2.1 a.toNat 0 a2 rfl (q_vp hi h0 (by omega)) hd ?_
    rw [q_clamp hi h0, toNat_c h0]
    exact w2
  · rw [cE_arr (k := 13) (by rw [toNat_c a0]; exact hk) (Or.inr (Or.inr rfl)), toNat_c a0] at a2
    refine va_zald Cc.1 Cc.2.1 Cc.2.2.2.2.2.2.2.2.1.1 D.2.1 a.toNat 2 a2 rfl (q_vp hi h0 (by omega)) hd ?_
    rw [q_clamp hi h0, toNat_c h0]
    exact w2
theorem tys_ref {cA : Nat → ClassId} {k : Nat} (h : 14 ≤ k ∧ k ≤ 18) : ∃ C, (tysG cA)[k - 11]? = some (cA k, .object C) := by
  rcases (show k = 14 ∨ k = 15 ∨ k = 16 ∨ k = 17 ∨ k = 18 by omega) with rfl | rfl | rfl | rfl | rfl <;> exact ⟨_, rfl⟩
theorem tys_any {cA : Nat → ClassId} {k : Nat} (h : 11 ≤ k ∧ k ≤ 18) : ∃ t, (tysG cA)[k - 11]? = some (cA k, t) := by
  rcases (show k = 11 ∨ k = 12 ∨ k = 13 ∨ k = 14 ∨ k = 15 ∨ k = 16 ∨ k = 17 ∨ k = 18 by omega) with rfl | rfl | rfl | rfl | rfl | rfl | rfl | rfl <;> exact ⟨_, rfl⟩
theorem v_aaload {a i : Int} (h : 14 ≤ M.2.1 a ∧ 0 ≤ i ∧ i < M.2.2.1 a) (hd : decode mi.2.1 pc = .ok (.aaload, 1)) (kk : V mi d b0 b1 bc bs (pc + 1) ls (pA (M.1 a i) :: st) M dec X) : V mi d b0 b1 bc bs pc ls (pI i :: pA a :: st) M dec X := by
  obtain ⟨hk, h0, hl⟩ := h
  refine v_step kk (fun hM hL hS => ⟨hM, hL, okS_cons.mpr ⟨trivial, (okS_cons.mp (okS_cons.mp hS).2).2⟩⟩) (fun hM hL hS G b p l e s m args below meth c Q Cc H locs cells slots lsA D w => ?_)
  obtain ⟨a0, a1, a2⟩ := wsM_get (cA := G.2.2.1) (b := b) hM (a := a) (by omega)
  have hr : -1 ≤ M.1 a i := by
    have := hM.2.2.2 a i.toNat (by omega)
    rw [toNat_c h0] at this
    unfold tOf at this
    rw [if_neg (by omega), if_neg (by omega), if_neg (by omega), if_pos hk] at this
    exact this
  have hi := (okS_cons.mp hS).1
  have hk2 := hM.2.1 a
  obtain ⟨kn, hkn⟩ : ∃ kn : Nat, M.2.1 a = (kn : Int) := ⟨(M.2.1 a).toNat, by omega⟩
  obtain ⟨C, hC⟩ := tys_ref (cA := G.2.2.1) (k := kn) (by omega)
  rw [cE_ref (k := (kn : Int)) (by rw [toNat_c a0]; exact hkn) (by omega), toNat_c a0, Int.toNat_natCast] at a2
  have w2 := w H locs cells slots lsA D
  simp only [List.map_cons, eV] at w2 ⊢
  rw [eR_nn a0]
  refine va_aldq Cc.1 Cc.2.1 Cc.2.2.2.2.2.2.2.2.1.1 D.2.1 a.toNat (kn - 11) a2 hC (q_vp hi h0 (by omega)) hd ?_
  rw [q_clamp hi h0, toNat_c h0, eO_rf hr]
  exact w2
theorem v_alen {a : Int} (h : 11 ≤ M.2.1 a) (hd : decode mi.2.1 pc = .ok (.arraylength, 1)) (kk : V mi d b0 b1 bc bs (pc + 1) ls (pI (M.2.2.1 a) :: st) M dec X) : V mi d b0 b1 bc bs pc ls (pA a :: st) M dec X := by
  refine v_step kk (fun hM hL hS => ⟨hM, hL, okS_cons.mpr ⟨(show r32 _ by have := hM.2.2.1 a; unfold r32; omega), (okS_cons.mp hS).2⟩⟩) (fun hM hL hS G b p l e s m args below meth c Q Cc H locs cells slots lsA D w => ?_)
  obtain ⟨a0, a1, a2⟩ := wsM_get (cA := G.2.2.1) (b := b) hM (a := a) (by omega)
  have hk2 := hM.2.1 a
  have hl2 := hM.2.2.1 a
  obtain ⟨kn, hkn⟩ : ∃ kn : Nat, M.2.1 a = (kn : Int) := ⟨(M.2.1 a).toNat, by omega⟩
  obtain ⟨t, hC⟩ := tys_any (cA := G.2.2.1) (k := kn) (by omega)
  have w2 := w H locs cells slots lsA D
  simp only [List.map_cons, eV] at w2 ⊢
  rw [eR_nn a0]
  have e9 : Int32.ofNat (M.2.2.1 a).toNat = Int32.ofInt (M.2.2.1 a) := by
    apply Int32.toInt_inj.mp
    rw [Int32.toInt_ofNat_of_lt (by omega), q_in (by unfold r32; omega)]
    omega
  by_cases h14 : 14 ≤ M.2.1 a
  · rw [cE_ref (k := (kn : Int)) (by rw [toNat_c a0]; exact hkn) (by omega), toNat_c a0, Int.toNat_natCast] at a2
    exact va_alen Cc.1 Cc.2.1 Cc.2.2.2.2.2.2.2.2.1.1 D.2.1 a.toNat (kn - 11) a2 hC e9 hd w2
  · rw [cE_arr (k := (kn : Int)) (by rw [toNat_c a0]; exact hkn) (by omega), toNat_c a0, Int.toNat_natCast] at a2
    exact va_alen Cc.1 Cc.2.1 Cc.2.2.2.2.2.2.2.2.1.1 D.2.1 a.toNat (kn - 11) a2 hC e9 hd w2
/-- an array's cell behind a store -/
theorem cE_st_arr {cA : Nat → ClassId} {b : Nat} {k a i x : Int} (h3 : k = 11 ∨ k = 12 ∨ k = 13) (a0 : 0 ≤ a) (h0 : 0 ≤ i) (ha : M.2.1 a = k) : cE cA b (mst M a i x) a.toNat = .inl (cA k.toNat, (M.2.2.1 a).toNat, .inl (upd (fun j => Int32.ofInt (M.1 a j)) i.toNat (Int32.ofInt x))) := by
  rw [cE_arr (k := k) (by rw [toNat_c a0]; exact ha) h3, toNat_c a0]
  congr 3
  congr 1
  funext j
  show Int32.ofInt (if a = a ∧ (j : Int) = i then x else M.1 a j) = if j = i.toNat then Int32.ofInt x else Int32.ofInt (M.1 a j)
  by_cases hj : j = i.toNat
  · rw [if_pos ⟨rfl, by omega⟩, if_pos hj]
  · rw [if_neg (by rintro ⟨-, q⟩; omega), if_neg hj]
theorem v_iastore {a i x : Int} (h : M.2.1 a = 12 ∧ 0 ≤ i ∧ i < M.2.2.1 a) (hd : decode mi.2.1 pc = .ok (.iastore, 1)) (kk : V mi d b0 b1 bc bs (pc + 1) ls st (mst M a i x) dec X) : V mi d b0 b1 bc bs pc ls (pI x :: pI i :: pA a :: st) M dec X := by
  obtain ⟨hk, h0, hl⟩ := h
  refine v_step kk (fun hM hL hS => ⟨hM.st (fun n hn _ => ?_), hL, (okS_cons.mp (okS_cons.mp (okS_cons.mp hS).2).2).2⟩) (fun hM hL hS G b p l e s m args below meth c Q Cc H locs cells slots lsA D w => ?_)
  · rw [hk]; exact (okS_cons.mp hS).1
  obtain ⟨a0, a1, a2⟩ := wsM_get (cA := G.2.2.1) (b := b) hM (a := a) (by rw [hk]; omega)
  rw [cE_arr (k := 12) (by rw [toNat_c a0]; exact hk) (Or.inr (Or.inl rfl)), toNat_c a0] at a2
  have hi := (okS_cons.mp (okS_cons.mp hS).2).1
  have hin := q_vp (n := (M.2.2.1 a).toNat) hi h0 (by omega)
  simp only [List.map_cons, eV]
  rw [eR_nn a0]
  refine W.iast Cc.1 Cc.2.1 (D.2.1 a.toNat _ a2) ((Cc.2.2.2.2.2.2.2.2.1.1.2 1 _ rfl).1 (M.2.2.1 a).toNat (fun j => .int (Int32.ofInt (M.1 a j)))) (fun q => by cases q) (by show ¬ (_ < 0 ∨ (arrV _ _ _).slots.size ≤ _); rw [arrV_size]; exact hin) rfl rfl hd fun H1 e1 z oq => ?_
  refine w H1 _ cells slots lsA (D.set a0 a1 ?_ z oq)
  rw [cE_st_arr (Or.inr (Or.inl rfl)) a0 h0 hk]
  show H1[b + a.toNat]? = some (vp_cell _ _)
  rw [e1, vp_cell_i, vp_cell_i, arrV_store, q_clamp hi h0]
  congr 2
  funext q
  by_cases hq : q = i.toNat
  · subst hq; simp [updV, upd]
  · simp [updV, upd, hq]
theorem q_nb {x : Int} (h : -128 ≤ x ∧ x ≤ 127) : vp_nar .byte (Int32.ofInt x) = Int32.ofInt x := by
  rw [vp_nar_byte, q_i2b, w8_id h.1 h.2]
theorem v_bastore {a i x : Int} (h : M.2.1 a = 11 ∧ 0 ≤ i ∧ i < M.2.2.1 a) (hx : -128 ≤ x ∧ x ≤ 127) (hd : decode mi.2.1 pc = .ok (.bastore, 1)) (kk : V mi d b0 b1 bc bs (pc + 1) ls st (mst M a i x) dec X) : V mi d b0 b1 bc bs pc ls (pI x :: pI i :: pA a :: st) M dec X := by
  obtain ⟨hk, h0, hl⟩ := h
  refine v_step kk (fun hM hL hS => ⟨hM.st (fun n hn _ => ?_), hL, (okS_cons.mp (okS_cons.mp (okS_cons.mp hS).2).2).2⟩) (fun hM hL hS G b p l e s m args below meth c Q Cc H locs cells slots lsA D w => ?_)
  · rw [hk]; exact hx
  obtain ⟨a0, a1, a2⟩ := wsM_get (cA := G.2.2.1) (b := b) hM (a := a) (by rw [hk]; omega)
  rw [cE_arr (k := 11) (by rw [toNat_c a0]; exact hk) (Or.inl rfl), toNat_c a0] at a2
  have hi := (okS_cons.mp (okS_cons.mp hS).2).1
  have hin := q_vp (n := (M.2.2.1 a).toNat) hi h0 (by omega)
  simp only [List.map_cons, eV]
  rw [eR_nn a0]
  refine W.bast Cc.1 Cc.2.1 (D.2.1 a.toNat _ a2) ((Cc.2.2.2.2.2.2.2.2.1.1.2 0 _ rfl).1 (M.2.2.1 a).toNat (fun j => .int (Int32.ofInt (M.1 a j)))) (fun q => by cases q) (by show ¬ (_ < 0 ∨ (arrV _ _ _).slots.size ≤ _); rw [arrV_size]; exact hin) rfl rfl hd fun H1 e1 z oq => ?_
  refine w H1 _ cells slots lsA (D.set a0 a1 ?_ z oq)
  rw [cE_st_arr (Or.inl rfl) a0 h0 hk]
  show H1[b + a.toNat]? = some (vp_cell _ _)
  rw [e1, vp_cell_i, vp_cell_i, arrV_store, q_clamp hi h0]
  congr 2
  funext q
  have hnb := q_nb hx
  unfold vp_nar at hnb
  by_cases hq : q = i.toNat
  · subst hq
    simp only [updV, upd, if_true]
    have h2 : ∃ y, narrow .byte (.int (Int32.ofInt x)) = .int y := ⟨_, rfl⟩
    obtain ⟨y, hy⟩ := h2
    rw [hy] at hnb ⊢
    simp only at hnb
    rw [hnb]
  · simp [updV, upd, hq]
theorem v_zastore {a i x : Int} (h : M.2.1 a = 13 ∧ 0 ≤ i ∧ i < M.2.2.1 a) (hx : x = 0 ∨ x = 1) (hd : decode mi.2.1 pc = .ok (.bastore, 1)) (kk : V mi d b0 b1 bc bs (pc + 1) ls st (mst M a i x) dec X) : V mi d b0 b1 bc bs pc ls (pI x :: pI i :: pA a :: st) M dec X := by
  obtain ⟨hk, h0, hl⟩ := h
  refine v_step kk (fun hM hL hS => ⟨hM.st (fun n hn _ => ?_), hL, (okS_cons.mp (okS_cons.mp (okS_cons.mp hS).2).2).2⟩) (fun hM hL hS G b p l e s m args below meth c Q Cc H locs cells slots lsA D w => ?_)
  · rw [hk]; exact hx
  obtain ⟨a0, a1, a2⟩ := wsM_get (cA := G.2.2.1) (b := b) hM (a := a) (by rw [hk]; omega)
  rw [cE_arr (k := 13) (by rw [toNat_c a0]; exact hk) (Or.inr (Or.inr rfl)), toNat_c a0] at a2
  have hi := (okS_cons.mp (okS_cons.mp hS).2).1
  have hin := q_vp (n := (M.2.2.1 a).toNat) hi h0 (by omega)
  simp only [List.map_cons, eV]
  rw [eR_nn a0]
  refine W.zast Cc.1 Cc.2.1 (D.2.1 a.toNat _ a2) ((Cc.2.2.2.2.2.2.2.2.1.1.2 2 _ rfl).1 (M.2.2.1 a).toNat (fun j => .int (Int32.ofInt (M.1 a j)))) (fun q => by cases q) (by show ¬ (_ < 0 ∨ (arrV _ _ _).slots.size ≤ _); rw [arrV_size]; exact hin) rfl rfl hd fun H1 e1 z oq => ?_
  refine w H1 _ cells slots lsA (D.set a0 a1 ?_ z oq)
  rw [cE_st_arr (Or.inr (Or.inr rfl)) a0 h0 hk]
  show H1[b + a.toNat]? = some (vp_cell _ _)
  rw [e1, vp_cell_i, vp_cell_i, arrV_store, q_clamp hi h0]
  congr 2
  funext q
  by_cases hq : q = i.toNat
  · subst hq
    simp only [updV, upd, if_true]
    exact nar_z hx
  · simp [updV, upd, hq]
end RulesR
end
section
section RulesC
variable {ρ : Type} {mi : MI} {d b0 b1 bc bs pc : Nat} {ls ls' : List (Option PV)} {st : List PV} {M : Mem} {dec : ρ → Option PV × Mem} {X A B : Option ρ}
theorem ini_prim {k : Int} (h : k = 11 ∨ k = 12 ∨ k = 13) (y : Int) : ini k y = 0 := by
  rcases h with rfl | rfl | rfl <;> rfl
theorem ini_ref {k : Int} (h : 14 ≤ k) (y : Int) : ini k y = -1 := by
  unfold ini tOf
  rw [if_neg (by omega), if_neg (by omega), if_neg (by omega), if_pos h]
theorem tys_prim {G : GG} {b : Nat} {s : State} (h : Amb G b s) {t : ArrayType} {k : Nat} (ht : (t = .byte ∧ k = 11) ∨ (t = .int ∧ k = 12) ∨ (t = .boolean ∧ k = 13)) {cA : ClassId} (hc : s.vm.findClass ("[" ++ (newarray.typeOf t).toString) = some cA) : cA = G.2.2.1 k := by
  rcases ht with ⟨rfl, rfl⟩ | ⟨rfl, rfl⟩ | ⟨rfl, rfl⟩
  · exact Option.some.inj (hc.symm.trans (h.1.2 0 _ rfl).2)
  · exact Option.some.inj (hc.symm.trans (h.1.2 1 _ rfl).2)
  · exact Option.some.inj (hc.symm.trans (h.1.2 2 _ rfl).2)
theorem v_newarray {t : ArrayType} {n : Nat} (k : Nat) (ht : (t = .byte ∧ k = 11) ∨ (t = .int ∧ k = 12) ∨ (t = .boolean ∧ k = 13)) (hn : n ≤ 100000) (hw : Cond.arrayClass (newarray.typeOf t) ∈ GT) (hd : decode mi.2.1 pc = .ok (.newarray t, 2))
    (kk : V mi d b0 b1 bc bs (pc + 2) ls (pA (M.2.2.2 : Int) :: st) (mnew M (k : Int) (n : Int)) dec X) : V mi d b0 b1 (bc + 1) (bs + n) pc ls (pI (n : Int) :: st) M dec X := by
  have hk3 : (k : Int) = 11 ∨ (k : Int) = 12 ∨ (k : Int) = 13 := by omega
  refine v_step kk (fun hM hL hS => ⟨hM.new (by omega) (by omega), hL, okS_cons.mpr ⟨trivial, (okS_cons.mp hS).2⟩⟩) (fun hM hL hS G b p l e s m args below meth c Q Cc H locs cells slots lsA D w => ?_)
  obtain ⟨D1, D2, D3, D4, D5, D6⟩ := id D
  have hr : r32 (n : Int) := by unfold r32; omega
  have hcl : (Int32.ofInt (n : Int)).toNatClampNeg = n := by rw [q_clamp hr (by omega), Int.toNat_natCast]
  have hb4 : n * componentBytes (newarray.typeOf t) ≤ 536870912 := by
    rcases ht with ⟨rfl, -⟩ | ⟨rfl, -⟩ | ⟨rfl, -⟩ <;> (simp only [newarray.typeOf, componentBytes]; omega)
  refine va_newaK Cc.1 Cc.2.1 (Cc.2.2.2.2.2.1 _ hw) rfl hd rfl (fun q => by have := (q_lt hr r32_0).mp (by rw [q_0]; exact q); omega) hcl hb4 (show cells + 1 ≤ b0 by omega) (show slots + n ≤ b1 by omega) D1 fun H1 cA e1 z1 o1 hAr hNm => ?_
  have hcA := tys_prim Cc.2.2.2.2.2.2.2.2.1 ht hNm
  have w2 := w H1 locs (cells + 1) (slots + n) lsA (D.new (k := (k : Int)) (n := (n : Int)) (by
    rw [cE_arr (k := (k : Int)) mnew_k hk3, mnew_l, Int.toNat_natCast, Int.toNat_natCast]
    show H1[b + M.2.2.2]? = some (vp_cell _ _)
    rw [e1, vp_cell_i, hcA]
    congr 2
    funext j
    rw [mnew_c, ini_prim hk3]
    rcases ht with ⟨rfl, -⟩ | ⟨rfl, -⟩ | ⟨rfl, -⟩ <;> rfl) (by rw [z1, D1]) (fun q hq => o1 q (by omega)))
  simp only [List.map_cons, eV] at w2
  rw [eR_new] at w2
  exact w2
theorem v_anewarray {n index : Nat} (k : Nat) (C : String) (hk : (k = 14 ∧ C = RX0) ∨ (k = 15 ∧ C = RX1) ∨ (k = 16 ∧ C = RX4) ∨ (k = 17 ∧ C = RX6) ∨ (k = 18 ∧ C = RX7)) (hn : n ≤ 100000) (hlk : Cond.classLink mi.1.cls index C ∈ GT) (hd : decode mi.2.1 pc = .ok (.anewarray index, 3))
    (kk : V mi d b0 b1 bc bs (pc + 3) ls (pA (M.2.2.2 : Int) :: st) (mnew M (k : Int) (n : Int)) dec X) : V mi d b0 b1 (bc + 1) (bs + n) pc ls (pI (n : Int) :: st) M dec X := by
  have hk4 : 14 ≤ (k : Int) ∧ (k : Int) ≤ 18 := by omega
  refine v_step kk (fun hM hL hS => ⟨hM.new (by omega) (by omega), hL, okS_cons.mpr ⟨trivial, (okS_cons.mp hS).2⟩⟩) (fun hM hL hS G b p l e s m args below meth c Q Cc H locs cells slots lsA D w => ?_)
  obtain ⟨D1, D2, D3, D4, D5, D6⟩ := id D
  have hr : r32 (n : Int) := by unfold r32; omega
  have hcl : (Int32.ofInt (n : Int)).toNatClampNeg = n := by rw [q_clamp hr (by omega), Int.toNat_natCast]
  have hA := Cc.2.2.2.2.2.2.2.2.1
  have hao : va_AO C s := hA.2.2.2.2.2.2.2 C (by rcases hk with ⟨-, rfl⟩ | ⟨-, rfl⟩ | ⟨-, rfl⟩ | ⟨-, rfl⟩ | ⟨-, rfl⟩ <;> simp)
  have hty : (tysG G.2.2.1)[k - 11]? = some (G.2.2.1 k, .object C) := by
    rcases hk with ⟨rfl, rfl⟩ | ⟨rfl, rfl⟩ | ⟨rfl, rfl⟩ | ⟨rfl, rfl⟩ | ⟨rfl, rfl⟩ <;> rfl
  refine W.anew Cc.1 Cc.2.1 Cc.2.2.2.2.1 (Cc.2.2.2.2.2.1 _ hlk) (va_AO.use hao) rfl hd rfl (fun q => by have := (q_lt hr r32_0).mp (by rw [q_0]; exact q); omega) (by rw [hcl]; omega) (show cells + 1 ≤ b0 by omega) (by rw [hcl]; show slots + n ≤ b1; omega) fun cA kA comp f1 f2 f3 f4 => ?_
  rw [hcl]
  generalize hH1 : H.push ({ cls := cA, slots := Array.replicate n .null, vm := .none } : Cell) = H1
  have z1 : H1.size = H.size + 1 := by rw [← hH1, Array.size_push]
  have e1 : H1[H.size]? = some (arrV cA n (fun _ => .null)) := by rw [← hH1, Array.getElem?_push_size, ← arrV_new]
  have o1 : ∀ q : Nat, q < H.size → H1[q]? = H[q]? := fun q hq => by rw [← hH1, Array.getElem?_push, if_neg (Nat.ne_of_lt hq)]
  obtain ⟨kA', comp', g1, g2, g3, g4⟩ := (hA.1.2 _ _ hty).2
  have hcA : cA = G.2.2.1 k := Option.some.inj (f1.symm.trans g4)
  have w2 := w H1 locs (cells + 1) (slots + n) lsA (D.new (k := (k : Int)) (n := (n : Int)) (by
    rw [cE_ref (k := (k : Int)) mnew_k hk4.1, mnew_l, Int.toNat_natCast, Int.toNat_natCast]
    show H1[b + M.2.2.2]? = some (vp_cell _ _)
    rw [← D1, e1, vp_cell_q, hcA]
    congr 2
    funext j
    rw [mnew_c, ini_ref hk4.1]
    rfl) z1 o1)
  simp only [List.map_cons, eV] at w2
  rw [eR_new, ← D1] at w2
  exact w2
theorem v_aastore {a i x : Int} {C : String} {T : u_T} {N : Nat} (k ci : Nat) (hk : (k = 14 ∧ ci = 0) ∨ (k = 15 ∧ ci = 1) ∨ (k = 16 ∧ ci = 4) ∨ (k = 17 ∧ ci = 6) ∨ (k = 18 ∧ ci = 7)) (h : M.2.1 a = (k : Int) ∧ 0 ≤ i ∧ i < M.2.2.1 a) (hx : M.2.1 x = (ci : Int)) (hd : decode mi.2.1 pc = .ok (.aastore, 1))
    (kk : V mi d b0 b1 bc bs (pc + 1) ls st (mst M a i x) dec X) : V mi d b0 b1 bc bs pc ls (pA x :: pI i :: pA a :: st) M dec X := by
  obtain ⟨ha, h0, hl⟩ := h
  have hk4 : 14 ≤ (k : Int) ∧ (k : Int) ≤ 18 := by omega
  refine v_step kk (fun hM hL hS => ⟨hM.st (fun n hn _ => ?_), hL, (okS_cons.mp (okS_cons.mp (okS_cons.mp hS).2).2).2⟩) (fun hM hL hS G b p l e s m args below meth c Q Cc H locs cells slots lsA D w => ?_)
  · have := hM.1 x (by rw [hx]; omega)
    rw [ha]
    unfold tOf
    rw [if_neg (by omega), if_neg (by omega), if_neg (by omega), if_pos hk4.1]
    show -1 ≤ x
    omega
  obtain ⟨a0, a1, a2⟩ := wsM_get (cA := G.2.2.1) (b := b) hM (a := a) (by rw [ha]; omega)
  obtain ⟨x0, x1, x2⟩ := wsM_get (cA := G.2.2.1) (b := b) hM (a := x) (by rw [hx]; omega)
  rw [cE_ref (k := (k : Int)) (by rw [toNat_c a0]; exact ha) hk4.1, toNat_c a0, Int.toNat_natCast] at a2
  rw [cE_obj (k := (ci : Int)) (by rw [toNat_c x0]; exact hx) (by omega), Int.toNat_natCast] at x2
  have hi := (okS_cons.mp (okS_cons.mp hS).2).1
  have hin := q_vp (n := (M.2.2.1 a).toNat) hi h0 (by omega)
  have hK := Cc.2.2.2.2.2.2.2.2.1.1
  obtain ⟨r, hc, hty⟩ : ∃ r : vw_C, vwCl[ci]? = some r ∧ (tysG G.2.2.1)[k - 11]? = some (G.2.2.1 k, .object r.1) := by
    rcases hk with ⟨rfl, rfl⟩ | ⟨rfl, rfl⟩ | ⟨rfl, rfl⟩ | ⟨rfl, rfl⟩ | ⟨rfl, rfl⟩ <;> exact ⟨_, rfl, rfl⟩
  simp only [List.map_cons, eV]
  rw [eR_nn a0, eR_nn x0]
  have hlt : (Int32.ofInt i).toNatClampNeg < (M.2.2.1 a).toNat := Nat.not_le.mp fun q => hin (Or.inr q)
  obtain ⟨r', hr', cellV, g1, g2, g3, -⟩ := D.2.1 x.toNat _ x2
  have hcls := (hK.1 ci r hc).2
  obtain ⟨kA, comp, k1, k2, k3, -⟩ := (hK.2 (k - 11) _ hty).2
  have hcomp : comp = G.1 ci := Option.some.inj (k3.symm.trans hcls.1)
  subst hcomp
  obtain ⟨kC, hkC, -⟩ := hcls.2
  refine W.aast Cc.1 Cc.2.1 (D.2.1 a.toNat _ a2) (fun q h => by cases h) (fun h => by cases h) k1 k2 rfl hkC ⟨fun q => hin (Or.inl q), by show _ < (arrV _ _ _).slots.size; rw [arrV_size]; exact hlt⟩ g1 (fun q h => by rw [g3] at h; cases h) (by rw [g2]; exact hkC) (by rw [g2]; exact va_assign hcls) rfl rfl hd fun H1 e1 z oq => ?_
  refine w H1 _ cells slots lsA (D.set a0 a1 ?_ z oq)
  rw [cE_ref (k := (k : Int)) (by rw [toNat_c a0]; exact ha) hk4.1, toNat_c a0, Int.toNat_natCast]
  show H1[b + a.toNat]? = some (vp_cell _ _)
  rw [e1, vp_cell_q, vp_cell_q, arrV_store, q_clamp hi h0]
  show some (arrV _ _ _) = some (arrV _ (M.2.2.1 a).toNat _)
  congr 2
  funext q
  show updV _ _ _ q = va_rf (eO b (if a = a ∧ (q : Int) = i then x else M.1 a q))
  by_cases hq : q = i.toNat
  · rw [if_pos ⟨rfl, by omega⟩]
    subst hq
    simp only [updV, if_true]
    unfold eO
    rw [if_neg (by omega)]
    rfl
  · rw [if_neg (by rintro ⟨-, z⟩; omega)]
    simp [updV, hq]
theorem wd_sum {b : Nat} {cs : Nat → Nat} : ∀ (st : List PV), ((st.map (eV b cs)).map fun v => v.category).sum ≤ 2 * st.length
  | [] => by simp
  | v :: st => by
    have := wd_sum (b := b) (cs := cs) st
    have h2 := lv_cat (eV b cs v)
    simp only [List.map_cons, List.sum_cons, List.length_cons]
    omega
theorem v_objInit {idx : Nat} {a : Int} (h : 0 ≤ a) (hlk : Cond.methodLink mi.1.cls idx objectInit ∈ GT) (hin : Cond.instanceMethod objectInit ∈ GT) (hco : Cond.code objectInit ⟨#[0xb1]⟩ 1 none ∈ GT) (hst : st.length ≤ 10) (hd : decode mi.2.1 pc = .ok (.invokespecial idx, 3))
    (kk : V mi (d + 1) b0 b1 bc bs (pc + 3) ls st M dec X) : V mi (d + 1) b0 b1 bc bs pc ls (pA a :: st) M dec X :=
  v_op kk (fun _ h => (okS_cons.mp h).2) (fun _ _ G b p l e s m args below meth c Q Cc H locs cells slots lsA hA w => by
    simp only [List.map_cons, eV]
    rw [eR_nn h]
    have hs := wd_sum (b := b) (cs := G.2.2.2.1) st
    refine W.objInit Cc.1 Cc.2.1 Cc.2.2.2.2.1 (Cc.2.2.2.2.2.1 _ hlk) (Cc.2.2.2.2.2.1 _ hin) (Cc.2.2.2.2.2.1 _ hco) rfl (by rw [Cc.2.2.2.1]; exact hA.1) rfl hd (show 1 ≤ d + 1 by omega) ?_ w
    show 2 * 0 + _ + 12 ≤ 64 * (d + 1)
    omega)
/-- behind a call -/
theorem v_callR {ρ' : Type} {dec' : ρ' → Option PV × Mem} {X' : Option ρ'} {K : ρ' → Option ρ} {mi' : MI} {c0 c1 : Nat} {As st0 : List PV} (hC : Ct mi' d c0 c1 As M dec' X') (has : okS st0 → okS As ∧ okS st)
    (k : ∀ r, X' = some r → V mi (d + 1) b0 b1 bc bs (pc + 3) ls ((dec' r).1.toList ++ st) (dec' r).2 dec (K r))
    (hrun : MemOK M → ∀ (G : GG) (b : Nat) (p : Program) (l : Launch) (e : Env) (s : State) (m : MethodId) (args : Array Value) (below : List Frame) (meth : Method) (c : Code) (r : ρ'), Cx mi G b p s m args meth c →
      ∀ (H : Heap) (locs : List Loc) (cells slots : Nat) (lsA : Array Slot), Dy mi G b b0 b1 (bc + c0) (bs + c1) s M ls H locs cells slots lsA →
        Met l mi'.1 (.code mi'.1 mi'.2.1 mi'.2.2.1 mi'.2.2.2 :: GT) (rmD d c0 c1) (PcR G b As M) (QcR G b (dec' r)) c0 c1 (AA b) →
        va_Run p l e (rmD (d + 1) b0 b1) s m args below meth c H locs cells slots c0 c1 (F0 m pc lsA (st0.map (eV b G.2.2.2.1))) (st.map (eV b G.2.2.2.1)) (QcR G b (dec' r) (As.map (eV b G.2.2.2.1)).toArray) (AA b)) :
    V mi (d + 1) b0 b1 (bc + c0) (bs + c1) pc ls st0 M dec (X'.bind K) := by
  intro r hr hM hL hS
  cases hX : X' with
  | none => rw [hX] at hr; cases hr
  | some r' =>
    rw [hX] at hr
    change K r' = some r at hr
    obtain ⟨s1, s2⟩ := has hS
    obtain ⟨o1, mt⟩ := hC r' hX hM s1
    obtain ⟨g1, g2⟩ := k r' hX r hr o1.1 hL (fun v hv => by
      rcases List.mem_append.mp hv with h | h
      · exact o1.2 v (Option.mem_toList.mp h)
      · exact s2 v h)
    refine ⟨g1, fun G b p l e s m args below meth c C H locs cells slots lsA D => ?_⟩
    intro T hT X0
    obtain ⟨v, st₀, t, T', L, h0, X1, hLf, e1, e2, ⟨hv, hz, hP, hsz, hk⟩, go⟩ := hrun hM G b p l e s m args below meth c r' C H locs cells slots lsA D (mt G b l) T hT X0
    cases hv
    obtain ⟨D1, D2, D3, D4, D5, D6⟩ := D
    rw [h0] at hsz hk
    have w := g2 G b p l e s m args below meth c C T'.heap (locs ++ L) (cells + c0) (slots + c1) lsA ⟨by rw [e1]; exact hz, by rw [e1]; exact hP, ⟨by rw [e1]; exact Nat.le_trans D3.1 hsz, fun q h1 h2 => by rw [e1, hk q (Nat.lt_of_lt_of_le h1 D3.1) h2]; exact D3.2.1 q h1 h2, fun q hq => by
      rcases List.mem_append.mp hq with h | h
      · exact D3.2.2 q h
      · exact hLf q h⟩, D4, by omega, by omega⟩
    obtain ⟨t2, a1, b1'⟩ := w T' rfl X1
    refine ⟨t2, go t2 ?_, b1'⟩
    have e9 : ((dec' r').1.toList ++ st).map (eV b G.2.2.2.1) = ((dec' r').1.map (eV b G.2.2.2.1)).toList ++ st.map (eV b G.2.2.2.1) := by
      rw [List.map_append]; cases (dec' r').1 <;> rfl
    rw [e9] at a1
    exact a1
theorem pcR_blind {G : GG} {b : Nat} {As : List PV} : FrameBlind (PcR G b As M) := fun a U g mk h => ⟨h.1, h.2.1, h.2.2.1, h.2.2.2.move (State.WarmedH.refl U) (fun _ _ _ => rfl)⟩
theorem pcR_at {G : GG} {b : Nat} {As : List PV} {s : State} {H : Heap} {locs : List Loc} {cells slots : Nat} {lsA : Array Slot} (hA : Amb G b s) (D : Dy mi G b b0 b1 bc bs s M ls H locs cells slots lsA) : ∀ U : State, U.heap = H → s.WarmedH U.vm → PcR G b As M (As.map (eV b G.2.2.2.1)).toArray U :=
  fun U hU hW => ⟨rfl, by rw [hU]; exact D.1, by rw [hU]; exact D.2.1, hA.move hW (fun q h1 h2 => by rw [hU]; exact D.2.2.1.2.1 q h1 h2)⟩
theorem gIn {l : List Cond} (h : ∀ w ∈ l, w ∈ GT) : GoodIn GT l := fun w hw => ⟨h w hw, (GT_good w (h w hw)).2⟩
theorem hW_of {b : Nat} {cs : Nat → Nat} {m : MethodId} {pc : Nat} {lsA : Array Slot} {rest : List Value} (h : st.length ≤ 4) : 2 * (F0 m pc lsA rest).monitorRoom + ((st.map (eV b cs)).map fun v => v.category).sum ≤ 8 :=
  lv_room (by have := wd_sum (b := b) (cs := cs) st; omega)
/-- what a call's words must be -/
def cok (mi' : MI) (n : Nat) : Prop := Cond.code mi'.1 mi'.2.1 mi'.2.2.1 mi'.2.2.2 ∈ GT ∧ Cond.initialized mi'.1.cls ∈ GT ∧ mi'.2.2.1 ≤ 45 ∧ mi'.1.cls ≠ "java/lang/invoke/MethodHandle" ∧ mi'.1.cls ≠ "java/lang/invoke/VarHandle" ∧ (parseMethodDescriptor mi'.1.desc).map (fun d => d.parameters.length) = some n
theorem v_callV {ρ' : Type} {dec' : ρ' → Option PV × Mem} {X' : Option ρ'} {K : ρ' → Option ρ} {mi' : MI} {c0 c1 index ci n : Nat} {C : String} {T : u_T} {N : Nat} {a : Int} {As : List PV} (hC : Ct mi' d c0 c1 (pA a :: As) M dec' X') (hc : vwCl[ci]? = some (C, T, N)) (ha : M.2.1 a = (ci : Int)) (hcls : mi'.1.cls = C) (ho : cok mi' n)
    (hlk : Cond.methodLink mi.1.cls index mi'.1 ∈ GT ∨ (mi.1.cls, index, mi'.1, "OneBack") ∈ NW) (him : Cond.instanceMethod mi'.1 ∈ GT) (hse : Cond.selects C mi'.1 mi'.1 ∈ GT) (hn : As.length = n) (hst : st.length ≤ 4) (hd : decode mi.2.1 pc = .ok (.invokevirtual index, 3))
    (k : ∀ r, X' = some r → V mi (d + 1) b0 b1 bc bs (pc + 3) ls ((dec' r).1.toList ++ st) (dec' r).2 dec (K r)) {st0 : List PV} (hs0 : st0 = As.reverse ++ pA a :: st) : V mi (d + 1) b0 b1 (bc + c0) (bs + c1) pc ls st0 M dec (X'.bind K) := by
  subst hs0
  obtain ⟨c10, -⟩ := cls_n hc
  refine v_callR hC (fun h => ⟨fun v hv => h v (by simp only [List.mem_append, List.mem_cons, List.mem_reverse] at hv ⊢; rcases hv with q | q <;> simp [q]), fun v hv => h v (by simp [hv])⟩) k (fun hM G b p l e s m args below meth c r Cc H locs cells slots lsA D mt => ?_)
  obtain ⟨o1, o2, o3, o4, o5, o6⟩ := ho
  obtain ⟨a0, a1, a2⟩ := wsM_get (cA := G.2.2.1) (b := b) hM (a := a) (by rw [ha]; omega)
  rw [cE_obj (k := (ci : Int)) (by rw [toNat_c a0]; exact ha) (by omega), Int.toNat_natCast] at a2
  have hts := Cc.2.2.2.2.2.1
  have hA := Cc.2.2.2.2.2.2.2.2.1
  have hgood : GoodIn GT (.code mi'.1 mi'.2.1 mi'.2.2.1 mi'.2.2.2 :: GT) := gIn (fun w hw => (List.mem_cons.mp hw).elim (fun e => by rw [e]; exact o1) id)
  have hp : PreV s H C (b + a.toNat) (PcR G b (pA a :: As) M) (As.map (eV b G.2.2.2.1)) := ⟨pcR_blind, va_recv hA.1 D.2.1 hc a2, fun U hU hW => by
    have := pcR_at (As := pA a :: As) hA D U hU hW
    simp only [List.map_cons, eV] at this
    rw [eR_nn a0] at this
    exact this⟩
  have e9 : ((pA a :: As).map (eV b G.2.2.2.1)).toArray = (Value.ref (b + a.toNat) :: As.map (eV b G.2.2.2.1)).toArray := by simp only [List.map_cons, eV]; rw [eR_nn a0]
  have e8 : (As.reverse ++ pA a :: st).map (eV b G.2.2.2.1) = (As.map (eV b G.2.2.2.1)).reverse ++ .ref (b + a.toNat) :: st.map (eV b G.2.2.2.1) := by
    rw [List.map_append, List.map_reverse, List.map_cons]; simp only [eV]; rw [eR_nn a0]
  have hR : (rmD d c0 c1).frames + 1 ≤ (rmD (d + 1) b0 b1).frames ∧ 8 + (mi'.2.2.1 + 11) + (rmD d c0 c1).locals ≤ (rmD (d + 1) b0 b1).locals := ⟨Nat.le_refl _, by show 8 + (mi'.2.2.1 + 11) + 64 * d ≤ 64 * (d + 1); omega⟩
  obtain ⟨D1, D2, D3, D4, D5, D6⟩ := id D
  rw [e9, e8]
  rcases hlk with hlk | hlk
  · refine va_runV (Ts := GT) (nL := mi.2.2.1) (n := n) ⟨Cc.1, Cc.2.1, Cc.2.2.2.1, Cc.2.2.2.2.1, hts⟩ mt (cwV n hts (C := C) (gIn (fun w hw => ?_)) rfl rfl rfl ⟨hcls, o4, o5, o6⟩ hR) hp rfl (by rw [List.length_map]; exact hn) D4.1 rfl (hW_of hst) hd ⟨by show cells + c0 ≤ b0; omega, by show slots + c1 ≤ b1; omega⟩
    unfold wsV at hw
    rcases List.mem_append.mp hw with h | h
    · simp only [List.mem_cons, List.not_mem_nil, or_false] at h
      rcases h with rfl | rfl | rfl | rfl
      · exact hlk
      · exact him
      · exact hse
      · rw [← hcls]; exact o2
    · exact (hgood w h).1
  · exact va_runVN (Ts := GT) (nL := mi.2.2.1) (n := n) (C := C) ⟨Cc.1, Cc.2.1, Cc.2.2.2.1, Cc.2.2.2.2.1, hts⟩ mt ⟨va_cnB n hts hgood rfl rfl rfl (hA.2.1 _ hlk) (hts _ o2) ⟨o4, o5, o6⟩ hR, hts _ him, hts _ hse⟩ hp rfl (by rw [List.length_map]; exact hn) D4.1 rfl (hW_of hst) hd ⟨by show cells + c0 ≤ b0; omega, by show slots + c1 ≤ b1; omega⟩
theorem v_callS {ρ' : Type} {dec' : ρ' → Option PV × Mem} {X' : Option ρ'} {K : ρ' → Option ρ} {mi' : MI} {c0 c1 index n : Nat} {As : List PV} (hC : Ct mi' d c0 c1 As M dec' X') (ho : cok mi' n)
    (hlk : Cond.methodLink mi.1.cls index mi'.1 ∈ GT ∨ (mi.1.cls, index, mi'.1, "OneBack") ∈ NW) (hsta : Cond.static mi'.1 ∈ GT) (hn : As.length = n) (hst : st.length ≤ 4) (hd : decode mi.2.1 pc = .ok (.invokestatic index, 3))
    (k : ∀ r, X' = some r → V mi (d + 1) b0 b1 bc bs (pc + 3) ls ((dec' r).1.toList ++ st) (dec' r).2 dec (K r)) {st0 : List PV} (hs0 : st0 = As.reverse ++ st) : V mi (d + 1) b0 b1 (bc + c0) (bs + c1) pc ls st0 M dec (X'.bind K) := by
  subst hs0
  refine v_callR hC (fun h => ⟨fun v hv => h v (by simp [hv]), fun v hv => h v (by simp [hv])⟩) k (fun hM G b p l e s m args below meth c r Cc H locs cells slots lsA D mt => ?_)
  obtain ⟨o1, o2, o3, o4, o5, o6⟩ := ho
  have hts := Cc.2.2.2.2.2.1
  have hA := Cc.2.2.2.2.2.2.2.2.1
  have hgood : GoodIn GT (.code mi'.1 mi'.2.1 mi'.2.2.1 mi'.2.2.2 :: GT) := gIn (fun w hw => (List.mem_cons.mp hw).elim (fun e => by rw [e]; exact o1) id)
  have hp : PreS s H (PcR G b As M) (As.map (eV b G.2.2.2.1)) := ⟨pcR_blind, pcR_at hA D⟩
  have e8 : (As.reverse ++ st).map (eV b G.2.2.2.1) = (As.map (eV b G.2.2.2.1)).reverse ++ st.map (eV b G.2.2.2.1) := by rw [List.map_append, List.map_reverse]
  have hR : (rmD d c0 c1).frames + 1 ≤ (rmD (d + 1) b0 b1).frames ∧ 8 + (mi'.2.2.1 + 11) + (rmD d c0 c1).locals ≤ (rmD (d + 1) b0 b1).locals := ⟨Nat.le_refl _, by show 8 + (mi'.2.2.1 + 11) + 64 * d ≤ 64 * (d + 1); omega⟩
  obtain ⟨D1, D2, D3, D4, D5, D6⟩ := id D
  rw [e8]
  rcases hlk with hlk | hlk
  · exact va_runS (Ts := GT) (nL := mi.2.2.1) (n := n) ⟨Cc.1, Cc.2.1, Cc.2.2.2.1, Cc.2.2.2.2.1, hts⟩ mt ⟨callB_of n hts hgood rfl rfl rfl (hts _ o2) (hts _ hlk) ⟨o4, o5, o6⟩ hR, hts _ hsta⟩ hp rfl (by rw [List.length_map]; exact hn) D4.1 rfl (hW_of hst) hd ⟨by show cells + c0 ≤ b0; omega, by show slots + c1 ≤ b1; omega⟩
  · exact va_runSN (Ts := GT) (nL := mi.2.2.1) (n := n) ⟨Cc.1, Cc.2.1, Cc.2.2.2.1, Cc.2.2.2.2.1, hts⟩ mt ⟨va_cnB n hts hgood rfl rfl rfl (hA.2.1 _ hlk) (hts _ o2) ⟨o4, o5, o6⟩ hR, hts _ hsta, trivial⟩ hp rfl (by rw [List.length_map]; exact hn) D4.1 rfl (hW_of hst) hd ⟨by show cells + c0 ≤ b0; omega, by show slots + c1 ≤ b1; omega⟩
theorem v_callI {ρ' : Type} {dec' : ρ' → Option PV × Mem} {X' : Option ρ'} {K : ρ' → Option ρ} {mi' : MI} {c0 c1 index n : Nat} {a : Int} {As : List PV} (hC : Ct mi' d c0 c1 (pA a :: As) M dec' X') (ha : 0 ≤ a) (ho : cok mi' n) (hret : mi'.2.2.2 = none) (hnm : mi'.1.name = "<init>")
    (hlk : Cond.methodLink mi.1.cls index mi'.1 ∈ GT ∨ (mi.1.cls, index, mi'.1, "OneBack") ∈ NW) (him : Cond.instanceMethod mi'.1 ∈ GT) (hn : As.length = n) (hst : st.length ≤ 4) (hd : decode mi.2.1 pc = .ok (.invokespecial index, 3))
    (k : ∀ r, X' = some r → V mi (d + 1) b0 b1 bc bs (pc + 3) ls ((dec' r).1.toList ++ st) (dec' r).2 dec (K r)) {st0 : List PV} (hs0 : st0 = As.reverse ++ pA a :: st) : V mi (d + 1) b0 b1 (bc + c0) (bs + c1) pc ls st0 M dec (X'.bind K) := by
  subst hs0
  refine v_callR hC (fun h => ⟨fun v hv => h v (by simp only [List.mem_append, List.mem_cons, List.mem_reverse] at hv ⊢; rcases hv with q | q <;> simp [q]), fun v hv => h v (by simp [hv])⟩) k (fun hM G b p l e s m args below meth c r Cc H locs cells slots lsA D mt => ?_)
  obtain ⟨o1, o2, o3, o4, o5, o6⟩ := ho
  have hts := Cc.2.2.2.2.2.1
  have hA := Cc.2.2.2.2.2.2.2.2.1
  have hgood : GoodIn GT (.code mi'.1 mi'.2.1 mi'.2.2.1 mi'.2.2.2 :: GT) := gIn (fun w hw => (List.mem_cons.mp hw).elim (fun e => by rw [e]; exact o1) id)
  have e7 : (pA a :: As).map (eV b G.2.2.2.1) = Value.ref (b + a.toNat) :: As.map (eV b G.2.2.2.1) := by simp only [List.map_cons, eV]; rw [eR_nn ha]
  have hp : PreS s H (PcR G b (pA a :: As) M) (.ref (b + a.toNat) :: As.map (eV b G.2.2.2.1)) := ⟨pcR_blind, fun U hU hW => by
    have := pcR_at (As := pA a :: As) hA D U hU hW
    rw [e7] at this
    exact this⟩
  have e8 : (As.reverse ++ pA a :: st).map (eV b G.2.2.2.1) = (As.map (eV b G.2.2.2.1)).reverse ++ .ref (b + a.toNat) :: st.map (eV b G.2.2.2.1) := by
    rw [List.map_append, List.map_reverse, List.map_cons]; simp only [eV]; rw [eR_nn ha]
  have hR : (rmD d c0 c1).frames + 1 ≤ (rmD (d + 1) b0 b1).frames ∧ 8 + (mi'.2.2.1 + 11) + (rmD d c0 c1).locals ≤ (rmD (d + 1) b0 b1).locals := ⟨Nat.le_refl _, by show 8 + (mi'.2.2.1 + 11) + 64 * d ≤ 64 * (d + 1); omega⟩
  obtain ⟨D1, D2, D3, D4, D5, D6⟩ := id D
  rw [e7, e8]
  rw [hret] at mt hgood
  rcases hlk with hlk | hlk
  · exact va_runI (Ts := GT) (nL := mi.2.2.1) (n := n) ⟨Cc.1, Cc.2.1, Cc.2.2.2.1, Cc.2.2.2.2.1, hts⟩ mt (cwI n hts hgood rfl rfl rfl (hts _ o2) (hts _ hlk) (hts _ him) hnm ⟨o4, o5, o6⟩ hR) hp rfl (by rw [List.length_map]; exact hn) D4.1 rfl (hW_of hst) hd ⟨by show cells + c0 ≤ b0; omega, by show slots + c1 ≤ b1; omega⟩
  · exact va_runIN (Ts := GT) (nL := mi.2.2.1) (n := n) ⟨Cc.1, Cc.2.1, Cc.2.2.2.1, Cc.2.2.2.2.1, hts⟩ mt ⟨va_cnB n hts hgood rfl rfl rfl (hA.2.1 _ hlk) (hts _ o2) ⟨o4, o5, o6⟩ hR, hnm, hts _ him⟩ hp rfl (by rw [List.length_map]; exact hn) D4.1 rfl (hW_of hst) hd ⟨by show cells + c0 ≤ b0; omega, by show slots + c1 ≤ b1; omega⟩
end RulesC
end
