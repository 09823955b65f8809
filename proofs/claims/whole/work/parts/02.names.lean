-- ===== PART A: goes FIRST, ahead of the names: the tables' words, and 'selects' of the private methods out of them =====
/-- a private method of a class that the tables say can be made, by its rows of tables_1 -/
def lw_okq (q : MethodName × Nat) : Prop := (q.1.cls ≠ "java/lang/invoke/MethodHandle" ∧ q.1.cls ≠ "java/lang/invoke/VarHandle") ∧ Cond.instantiable q.1.cls q.2 ∈ tables_1 ∧ Cond.privateMethod q.1 ∈ tables_1 ∧ Cond.instanceMethod q.1 ∈ tables_1
theorem lw_p0 : lw_okq (⟨"RobotCell$Judge", "lookAt", "(LRobotCell$Cell;)V"⟩, 4) := ⟨⟨by decide +kernel, by decide +kernel⟩, List.mem_of_getElem? (i := 313) (by decide +kernel), List.mem_of_getElem? (i := 450) (by decide +kernel), List.mem_of_getElem? (i := 451) (by decide +kernel)⟩
theorem lw_p1 : lw_okq (⟨"RobotCell$Judge", "findStuck", "()I"⟩, 4) := ⟨⟨by decide +kernel, by decide +kernel⟩, List.mem_of_getElem? (i := 313) (by decide +kernel), List.mem_of_getElem? (i := 474) (by decide +kernel), List.mem_of_getElem? (i := 475) (by decide +kernel)⟩
theorem lw_p2 : lw_okq (⟨"java/lang/Throwable", "fillInStackTrace", "(I)Ljava/lang/Throwable;"⟩, 6) := ⟨⟨by decide +kernel, by decide +kernel⟩, List.mem_of_getElem? (i := 555) (by decide +kernel), List.mem_of_getElem? (i := 553) (by decide +kernel), List.mem_of_getElem? (i := 554) (by decide +kernel)⟩
theorem lw_p3 : lw_okq (⟨"RobotCell$History", "cellAt", "(I)LRobotCell$Cell;"⟩, 4) := ⟨⟨by decide +kernel, by decide +kernel⟩, List.mem_of_getElem? (i := 284) (by decide +kernel), List.mem_of_getElem? (i := 695) (by decide +kernel), List.mem_of_getElem? (i := 696) (by decide +kernel)⟩
theorem lw_p4 : lw_okq (⟨"RobotCell$Zones", "turn", "(II)V"⟩, 3) := ⟨⟨by decide +kernel, by decide +kernel⟩, List.mem_of_getElem? (i := 40) (by decide +kernel), List.mem_of_getElem? (i := 705) (by decide +kernel), List.mem_of_getElem? (i := 706) (by decide +kernel)⟩
theorem lw_p5 : lw_okq (⟨"RobotCell", "needJob", "(I)V"⟩, 7) := ⟨⟨by decide +kernel, by decide +kernel⟩, List.mem_of_getElem? (i := 26) (by decide +kernel), List.mem_of_getElem? (i := 881) (by decide +kernel), List.mem_of_getElem? (i := 882) (by decide +kernel)⟩
theorem lw_p6 : lw_okq (⟨"RobotCell$Scheduler", "findOrder", "(LRobotCell$Cell;)V"⟩, 2) := ⟨⟨by decide +kernel, by decide +kernel⟩, List.mem_of_getElem? (i := 307) (by decide +kernel), List.mem_of_getElem? (i := 927) (by decide +kernel), List.mem_of_getElem? (i := 928) (by decide +kernel)⟩
theorem lw_p7 : lw_okq (⟨"RobotCell$Scheduler", "act", "(LRobotCell$Cell;LRobotCell$Arm;)V"⟩, 2) := ⟨⟨by decide +kernel, by decide +kernel⟩, List.mem_of_getElem? (i := 307) (by decide +kernel), List.mem_of_getElem? (i := 936) (by decide +kernel), List.mem_of_getElem? (i := 937) (by decide +kernel)⟩
theorem lw_p8 : lw_okq (⟨"RobotCell$Judge", "bufferReason", "(LRobotCell$Cell;LRobotCell$Job;)I"⟩, 4) := ⟨⟨by decide +kernel, by decide +kernel⟩, List.mem_of_getElem? (i := 313) (by decide +kernel), List.mem_of_getElem? (i := 976) (by decide +kernel), List.mem_of_getElem? (i := 977) (by decide +kernel)⟩
theorem lw_p9 : lw_okq (⟨"RobotCell$Judge", "suppose", "(LRobotCell$Arm;II)V"⟩, 4) := ⟨⟨by decide +kernel, by decide +kernel⟩, List.mem_of_getElem? (i := 313) (by decide +kernel), List.mem_of_getElem? (i := 991) (by decide +kernel), List.mem_of_getElem? (i := 992) (by decide +kernel)⟩
theorem lw_p10 : lw_okq (⟨"RobotCell$Cell", "moveParts", "(LRobotCell$Job;)V"⟩, 15) := ⟨⟨by decide +kernel, by decide +kernel⟩, List.mem_of_getElem? (i := 34) (by decide +kernel), List.mem_of_getElem? (i := 1019) (by decide +kernel), List.mem_of_getElem? (i := 1020) (by decide +kernel)⟩
theorem lw_p11 : lw_okq (⟨"RobotCell$Cell", "partsInStores", "()I"⟩, 15) := ⟨⟨by decide +kernel, by decide +kernel⟩, List.mem_of_getElem? (i := 34) (by decide +kernel), List.mem_of_getElem? (i := 1108) (by decide +kernel), List.mem_of_getElem? (i := 1109) (by decide +kernel)⟩
theorem lw_p12 : lw_okq (⟨"RobotCell$Cell", "refusals", "()I"⟩, 15) := ⟨⟨by decide +kernel, by decide +kernel⟩, List.mem_of_getElem? (i := 34) (by decide +kernel), List.mem_of_getElem? (i := 1113) (by decide +kernel), List.mem_of_getElem? (i := 1114) (by decide +kernel)⟩
theorem lw_p13 : lw_okq (⟨"RobotCell$CommandText", "readText", "()Z"⟩, 7) := ⟨⟨by decide +kernel, by decide +kernel⟩, List.mem_of_getElem? (i := 341) (by decide +kernel), List.mem_of_getElem? (i := 1176) (by decide +kernel), List.mem_of_getElem? (i := 1177) (by decide +kernel)⟩
theorem lw_p14 : lw_okq (⟨"RobotCell$CommandText", "readCommand", "(LRobotCell$Command;)Z"⟩, 7) := ⟨⟨by decide +kernel, by decide +kernel⟩, List.mem_of_getElem? (i := 341) (by decide +kernel), List.mem_of_getElem? (i := 1184) (by decide +kernel), List.mem_of_getElem? (i := 1185) (by decide +kernel)⟩
theorem lw_p15 : lw_okq (⟨"RobotCell$CommandText", "take", "(C)Z"⟩, 7) := ⟨⟨by decide +kernel, by decide +kernel⟩, List.mem_of_getElem? (i := 341) (by decide +kernel), List.mem_of_getElem? (i := 1188) (by decide +kernel), List.mem_of_getElem? (i := 1189) (by decide +kernel)⟩
def lw_privs_1 : List (MethodName × Nat) := [(⟨"RobotCell$Judge", "lookAt", "(LRobotCell$Cell;)V"⟩, 4), (⟨"RobotCell$Judge", "findStuck", "()I"⟩, 4), (⟨"java/lang/Throwable", "fillInStackTrace", "(I)Ljava/lang/Throwable;"⟩, 6), (⟨"RobotCell$History", "cellAt", "(I)LRobotCell$Cell;"⟩, 4), (⟨"RobotCell$Zones", "turn", "(II)V"⟩, 3), (⟨"RobotCell", "needJob", "(I)V"⟩, 7), (⟨"RobotCell$Scheduler", "findOrder", "(LRobotCell$Cell;)V"⟩, 2), (⟨"RobotCell$Scheduler", "act", "(LRobotCell$Cell;LRobotCell$Arm;)V"⟩, 2), (⟨"RobotCell$Judge", "bufferReason", "(LRobotCell$Cell;LRobotCell$Job;)I"⟩, 4), (⟨"RobotCell$Judge", "suppose", "(LRobotCell$Arm;II)V"⟩, 4), (⟨"RobotCell$Cell", "moveParts", "(LRobotCell$Job;)V"⟩, 15), (⟨"RobotCell$Cell", "partsInStores", "()I"⟩, 15), (⟨"RobotCell$Cell", "refusals", "()I"⟩, 15), (⟨"RobotCell$CommandText", "readText", "()Z"⟩, 7), (⟨"RobotCell$CommandText", "readCommand", "(LRobotCell$Command;)Z"⟩, 7), (⟨"RobotCell$CommandText", "take", "(C)Z"⟩, 7)]
theorem lw_r1 : ∀ q ∈ lw_privs_1, lw_okq q := List.forall_mem_cons.mpr ⟨lw_p0, List.forall_mem_cons.mpr ⟨lw_p1, List.forall_mem_cons.mpr ⟨lw_p2, List.forall_mem_cons.mpr ⟨lw_p3, List.forall_mem_cons.mpr ⟨lw_p4, List.forall_mem_cons.mpr ⟨lw_p5, List.forall_mem_cons.mpr ⟨lw_p6, List.forall_mem_cons.mpr ⟨lw_p7, List.forall_mem_cons.mpr ⟨lw_p8, List.forall_mem_cons.mpr ⟨lw_p9, List.forall_mem_cons.mpr ⟨lw_p10, List.forall_mem_cons.mpr ⟨lw_p11, List.forall_mem_cons.mpr ⟨lw_p12, List.forall_mem_cons.mpr ⟨lw_p13, List.forall_mem_cons.mpr ⟨lw_p14, List.forall_mem_cons.mpr ⟨lw_p15, fun _ h => absurd h List.not_mem_nil⟩⟩⟩⟩⟩⟩⟩⟩⟩⟩⟩⟩⟩⟩⟩⟩
theorem lw_p16 : lw_okq (⟨"RobotCell$CommandText", "readJob", "(LRobotCell$Command;)Z"⟩, 7) := ⟨⟨by decide +kernel, by decide +kernel⟩, List.mem_of_getElem? (i := 341) (by decide +kernel), List.mem_of_getElem? (i := 1192) (by decide +kernel), List.mem_of_getElem? (i := 1193) (by decide +kernel)⟩
theorem lw_p17 : lw_okq (⟨"RobotCell$CommandText", "takeDigit", "()Z"⟩, 7) := ⟨⟨by decide +kernel, by decide +kernel⟩, List.mem_of_getElem? (i := 341) (by decide +kernel), List.mem_of_getElem? (i := 1196) (by decide +kernel), List.mem_of_getElem? (i := 1197) (by decide +kernel)⟩
theorem lw_p18 : lw_okq (⟨"RobotCell$CommandText", "readPath", "(LRobotCell$Command;)Z"⟩, 7) := ⟨⟨by decide +kernel, by decide +kernel⟩, List.mem_of_getElem? (i := 341) (by decide +kernel), List.mem_of_getElem? (i := 1200) (by decide +kernel), List.mem_of_getElem? (i := 1201) (by decide +kernel)⟩
theorem lw_p19 : lw_okq (⟨"RobotCell$CommandText", "readBuffers", "(LRobotCell$Command;)Z"⟩, 7) := ⟨⟨by decide +kernel, by decide +kernel⟩, List.mem_of_getElem? (i := 341) (by decide +kernel), List.mem_of_getElem? (i := 1208) (by decide +kernel), List.mem_of_getElem? (i := 1209) (by decide +kernel)⟩
theorem lw_p20 : lw_okq (⟨"RobotCell$CommandText", "readTicks", "(LRobotCell$Command;)Z"⟩, 7) := ⟨⟨by decide +kernel, by decide +kernel⟩, List.mem_of_getElem? (i := 341) (by decide +kernel), List.mem_of_getElem? (i := 1212) (by decide +kernel), List.mem_of_getElem? (i := 1213) (by decide +kernel)⟩
theorem lw_p21 : lw_okq (⟨"RobotCell$CommandText", "readInterlock", "(LRobotCell$Command;)Z"⟩, 7) := ⟨⟨by decide +kernel, by decide +kernel⟩, List.mem_of_getElem? (i := 341) (by decide +kernel), List.mem_of_getElem? (i := 1216) (by decide +kernel), List.mem_of_getElem? (i := 1217) (by decide +kernel)⟩
theorem lw_p22 : lw_okq (⟨"RobotCell", "carryOut", "(LRobotCell$Command;)Z"⟩, 7) := ⟨⟨by decide +kernel, by decide +kernel⟩, List.mem_of_getElem? (i := 26) (by decide +kernel), List.mem_of_getElem? (i := 1221) (by decide +kernel), List.mem_of_getElem? (i := 1222) (by decide +kernel)⟩
theorem lw_p23 : lw_okq (⟨"RobotCellModel", "notLocked", "(IIZ)I"⟩, 63) := ⟨⟨by decide +kernel, by decide +kernel⟩, List.mem_of_getElem? (i := 1251) (by decide +kernel), List.mem_of_getElem? (i := 1455) (by decide +kernel), List.mem_of_getElem? (i := 1456) (by decide +kernel)⟩
theorem lw_p24 : lw_okq (⟨"RobotCellModel", "holderOf", "(I)I"⟩, 63) := ⟨⟨by decide +kernel, by decide +kernel⟩, List.mem_of_getElem? (i := 1251) (by decide +kernel), List.mem_of_getElem? (i := 1465) (by decide +kernel), List.mem_of_getElem? (i := 1466) (by decide +kernel)⟩
theorem lw_p25 : lw_okq (⟨"RobotCellModel", "holds", "(I)I"⟩, 63) := ⟨⟨by decide +kernel, by decide +kernel⟩, List.mem_of_getElem? (i := 1251) (by decide +kernel), List.mem_of_getElem? (i := 1469) (by decide +kernel), List.mem_of_getElem? (i := 1470) (by decide +kernel)⟩
theorem lw_p26 : lw_okq (⟨"RobotCellModel", "zoneOf", "(I)I"⟩, 63) := ⟨⟨by decide +kernel, by decide +kernel⟩, List.mem_of_getElem? (i := 1251) (by decide +kernel), List.mem_of_getElem? (i := 1473) (by decide +kernel), List.mem_of_getElem? (i := 1474) (by decide +kernel)⟩
theorem lw_p27 : lw_okq (⟨"RobotCellModel", "zoneAt", "(II)I"⟩, 63) := ⟨⟨by decide +kernel, by decide +kernel⟩, List.mem_of_getElem? (i := 1251) (by decide +kernel), List.mem_of_getElem? (i := 1477) (by decide +kernel), List.mem_of_getElem? (i := 1478) (by decide +kernel)⟩
theorem lw_p28 : lw_okq (⟨"RobotCellModel", "remembers", "()V"⟩, 63) := ⟨⟨by decide +kernel, by decide +kernel⟩, List.mem_of_getElem? (i := 1251) (by decide +kernel), List.mem_of_getElem? (i := 1484) (by decide +kernel), List.mem_of_getElem? (i := 1485) (by decide +kernel)⟩
theorem lw_p29 : lw_okq (⟨"RobotCellModel", "passAll", "([IIZ)V"⟩, 63) := ⟨⟨by decide +kernel, by decide +kernel⟩, List.mem_of_getElem? (i := 1251) (by decide +kernel), List.mem_of_getElem? (i := 1488) (by decide +kernel), List.mem_of_getElem? (i := 1489) (by decide +kernel)⟩
theorem lw_p30 : lw_okq (⟨"RobotCellModel", "passes", "([I[I)V"⟩, 63) := ⟨⟨by decide +kernel, by decide +kernel⟩, List.mem_of_getElem? (i := 1251) (by decide +kernel), List.mem_of_getElem? (i := 1492) (by decide +kernel), List.mem_of_getElem? (i := 1493) (by decide +kernel)⟩
theorem lw_p31 : lw_okq (⟨"RobotCellModel", "passArms", "([I)V"⟩, 63) := ⟨⟨by decide +kernel, by decide +kernel⟩, List.mem_of_getElem? (i := 1251) (by decide +kernel), List.mem_of_getElem? (i := 1496) (by decide +kernel), List.mem_of_getElem? (i := 1497) (by decide +kernel)⟩
def lw_privs_2 : List (MethodName × Nat) := [(⟨"RobotCell$CommandText", "readJob", "(LRobotCell$Command;)Z"⟩, 7), (⟨"RobotCell$CommandText", "takeDigit", "()Z"⟩, 7), (⟨"RobotCell$CommandText", "readPath", "(LRobotCell$Command;)Z"⟩, 7), (⟨"RobotCell$CommandText", "readBuffers", "(LRobotCell$Command;)Z"⟩, 7), (⟨"RobotCell$CommandText", "readTicks", "(LRobotCell$Command;)Z"⟩, 7), (⟨"RobotCell$CommandText", "readInterlock", "(LRobotCell$Command;)Z"⟩, 7), (⟨"RobotCell", "carryOut", "(LRobotCell$Command;)Z"⟩, 7), (⟨"RobotCellModel", "notLocked", "(IIZ)I"⟩, 63), (⟨"RobotCellModel", "holderOf", "(I)I"⟩, 63), (⟨"RobotCellModel", "holds", "(I)I"⟩, 63), (⟨"RobotCellModel", "zoneOf", "(I)I"⟩, 63), (⟨"RobotCellModel", "zoneAt", "(II)I"⟩, 63), (⟨"RobotCellModel", "remembers", "()V"⟩, 63), (⟨"RobotCellModel", "passAll", "([IIZ)V"⟩, 63), (⟨"RobotCellModel", "passes", "([I[I)V"⟩, 63), (⟨"RobotCellModel", "passArms", "([I)V"⟩, 63)]
theorem lw_r2 : ∀ q ∈ lw_privs_2, lw_okq q := List.forall_mem_cons.mpr ⟨lw_p16, List.forall_mem_cons.mpr ⟨lw_p17, List.forall_mem_cons.mpr ⟨lw_p18, List.forall_mem_cons.mpr ⟨lw_p19, List.forall_mem_cons.mpr ⟨lw_p20, List.forall_mem_cons.mpr ⟨lw_p21, List.forall_mem_cons.mpr ⟨lw_p22, List.forall_mem_cons.mpr ⟨lw_p23, List.forall_mem_cons.mpr ⟨lw_p24, List.forall_mem_cons.mpr ⟨lw_p25, List.forall_mem_cons.mpr ⟨lw_p26, List.forall_mem_cons.mpr ⟨lw_p27, List.forall_mem_cons.mpr ⟨lw_p28, List.forall_mem_cons.mpr ⟨lw_p29, List.forall_mem_cons.mpr ⟨lw_p30, List.forall_mem_cons.mpr ⟨lw_p31, fun _ h => absurd h List.not_mem_nil⟩⟩⟩⟩⟩⟩⟩⟩⟩⟩⟩⟩⟩⟩⟩⟩
theorem lw_p32 : lw_okq (⟨"RobotCellModel", "passJobs", "([I)V"⟩, 63) := ⟨⟨by decide +kernel, by decide +kernel⟩, List.mem_of_getElem? (i := 1251) (by decide +kernel), List.mem_of_getElem? (i := 1500) (by decide +kernel), List.mem_of_getElem? (i := 1501) (by decide +kernel)⟩
theorem lw_p33 : lw_okq (⟨"RobotCellModel", "pass", "(I[I)I"⟩, 63) := ⟨⟨by decide +kernel, by decide +kernel⟩, List.mem_of_getElem? (i := 1251) (by decide +kernel), List.mem_of_getElem? (i := 1504) (by decide +kernel), List.mem_of_getElem? (i := 1505) (by decide +kernel)⟩
theorem lw_p34 : lw_okq (⟨"RobotCellModel", "locks", "(IIZ)V"⟩, 63) := ⟨⟨by decide +kernel, by decide +kernel⟩, List.mem_of_getElem? (i := 1251) (by decide +kernel), List.mem_of_getElem? (i := 1508) (by decide +kernel), List.mem_of_getElem? (i := 1509) (by decide +kernel)⟩
theorem lw_p35 : lw_okq (⟨"RobotCellModel", "fails", "(I)I"⟩, 63) := ⟨⟨by decide +kernel, by decide +kernel⟩, List.mem_of_getElem? (i := 1251) (by decide +kernel), List.mem_of_getElem? (i := 1519) (by decide +kernel), List.mem_of_getElem? (i := 1520) (by decide +kernel)⟩
theorem lw_p36 : lw_okq (⟨"RobotCellModel", "comesPart", "(II)V"⟩, 63) := ⟨⟨by decide +kernel, by decide +kernel⟩, List.mem_of_getElem? (i := 1251) (by decide +kernel), List.mem_of_getElem? (i := 1534) (by decide +kernel), List.mem_of_getElem? (i := 1535) (by decide +kernel)⟩
theorem lw_p37 : lw_okq (⟨"RobotCellModel", "conflicts", "(I)I"⟩, 63) := ⟨⟨by decide +kernel, by decide +kernel⟩, List.mem_of_getElem? (i := 1251) (by decide +kernel), List.mem_of_getElem? (i := 1542) (by decide +kernel), List.mem_of_getElem? (i := 1543) (by decide +kernel)⟩
theorem lw_p38 : lw_okq (⟨"RobotCellModel", "notGiven", "(IIIIII)I"⟩, 63) := ⟨⟨by decide +kernel, by decide +kernel⟩, List.mem_of_getElem? (i := 1251) (by decide +kernel), List.mem_of_getElem? (i := 1558) (by decide +kernel), List.mem_of_getElem? (i := 1559) (by decide +kernel)⟩
theorem lw_p39 : lw_okq (⟨"RobotCellModel", "gives", "(IIIIII)V"⟩, 63) := ⟨⟨by decide +kernel, by decide +kernel⟩, List.mem_of_getElem? (i := 1251) (by decide +kernel), List.mem_of_getElem? (i := 1568) (by decide +kernel), List.mem_of_getElem? (i := 1569) (by decide +kernel)⟩
theorem lw_p40 : lw_okq (⟨"RobotCellModel", "isJob", "(I)Z"⟩, 63) := ⟨⟨by decide +kernel, by decide +kernel⟩, List.mem_of_getElem? (i := 1251) (by decide +kernel), List.mem_of_getElem? (i := 1580) (by decide +kernel), List.mem_of_getElem? (i := 1581) (by decide +kernel)⟩
theorem lw_p41 : lw_okq (⟨"RobotCellModel", "ticks", "()V"⟩, 63) := ⟨⟨by decide +kernel, by decide +kernel⟩, List.mem_of_getElem? (i := 1251) (by decide +kernel), List.mem_of_getElem? (i := 1596) (by decide +kernel), List.mem_of_getElem? (i := 1597) (by decide +kernel)⟩
theorem lw_p42 : lw_okq (⟨"RobotCellModel", "findTurns", "()V"⟩, 63) := ⟨⟨by decide +kernel, by decide +kernel⟩, List.mem_of_getElem? (i := 1251) (by decide +kernel), List.mem_of_getElem? (i := 1600) (by decide +kernel), List.mem_of_getElem? (i := 1601) (by decide +kernel)⟩
theorem lw_p43 : lw_okq (⟨"RobotCellModel", "acts", "(I)V"⟩, 63) := ⟨⟨by decide +kernel, by decide +kernel⟩, List.mem_of_getElem? (i := 1251) (by decide +kernel), List.mem_of_getElem? (i := 1604) (by decide +kernel), List.mem_of_getElem? (i := 1605) (by decide +kernel)⟩
theorem lw_p44 : lw_okq (⟨"RobotCellModel", "starts", "(I)V"⟩, 63) := ⟨⟨by decide +kernel, by decide +kernel⟩, List.mem_of_getElem? (i := 1251) (by decide +kernel), List.mem_of_getElem? (i := 1608) (by decide +kernel), List.mem_of_getElem? (i := 1609) (by decide +kernel)⟩
theorem lw_p45 : lw_okq (⟨"RobotCellModel", "isGranted", "(IIIZ)Z"⟩, 63) := ⟨⟨by decide +kernel, by decide +kernel⟩, List.mem_of_getElem? (i := 1251) (by decide +kernel), List.mem_of_getElem? (i := 1612) (by decide +kernel), List.mem_of_getElem? (i := 1613) (by decide +kernel)⟩
theorem lw_p46 : lw_okq (⟨"RobotCellModel", "answers", "(IIIZ)I"⟩, 63) := ⟨⟨by decide +kernel, by decide +kernel⟩, List.mem_of_getElem? (i := 1251) (by decide +kernel), List.mem_of_getElem? (i := 1616) (by decide +kernel), List.mem_of_getElem? (i := 1617) (by decide +kernel)⟩
theorem lw_p47 : lw_okq (⟨"RobotCellModel", "reasons", "(II)I"⟩, 63) := ⟨⟨by decide +kernel, by decide +kernel⟩, List.mem_of_getElem? (i := 1251) (by decide +kernel), List.mem_of_getElem? (i := 1620) (by decide +kernel), List.mem_of_getElem? (i := 1621) (by decide +kernel)⟩
def lw_privs_3 : List (MethodName × Nat) := [(⟨"RobotCellModel", "passJobs", "([I)V"⟩, 63), (⟨"RobotCellModel", "pass", "(I[I)I"⟩, 63), (⟨"RobotCellModel", "locks", "(IIZ)V"⟩, 63), (⟨"RobotCellModel", "fails", "(I)I"⟩, 63), (⟨"RobotCellModel", "comesPart", "(II)V"⟩, 63), (⟨"RobotCellModel", "conflicts", "(I)I"⟩, 63), (⟨"RobotCellModel", "notGiven", "(IIIIII)I"⟩, 63), (⟨"RobotCellModel", "gives", "(IIIIII)V"⟩, 63), (⟨"RobotCellModel", "isJob", "(I)Z"⟩, 63), (⟨"RobotCellModel", "ticks", "()V"⟩, 63), (⟨"RobotCellModel", "findTurns", "()V"⟩, 63), (⟨"RobotCellModel", "acts", "(I)V"⟩, 63), (⟨"RobotCellModel", "starts", "(I)V"⟩, 63), (⟨"RobotCellModel", "isGranted", "(IIIZ)Z"⟩, 63), (⟨"RobotCellModel", "answers", "(IIIZ)I"⟩, 63), (⟨"RobotCellModel", "reasons", "(II)I"⟩, 63)]
theorem lw_r3 : ∀ q ∈ lw_privs_3, lw_okq q := List.forall_mem_cons.mpr ⟨lw_p32, List.forall_mem_cons.mpr ⟨lw_p33, List.forall_mem_cons.mpr ⟨lw_p34, List.forall_mem_cons.mpr ⟨lw_p35, List.forall_mem_cons.mpr ⟨lw_p36, List.forall_mem_cons.mpr ⟨lw_p37, List.forall_mem_cons.mpr ⟨lw_p38, List.forall_mem_cons.mpr ⟨lw_p39, List.forall_mem_cons.mpr ⟨lw_p40, List.forall_mem_cons.mpr ⟨lw_p41, List.forall_mem_cons.mpr ⟨lw_p42, List.forall_mem_cons.mpr ⟨lw_p43, List.forall_mem_cons.mpr ⟨lw_p44, List.forall_mem_cons.mpr ⟨lw_p45, List.forall_mem_cons.mpr ⟨lw_p46, List.forall_mem_cons.mpr ⟨lw_p47, fun _ h => absurd h List.not_mem_nil⟩⟩⟩⟩⟩⟩⟩⟩⟩⟩⟩⟩⟩⟩⟩⟩
theorem lw_p48 : lw_okq (⟨"RobotCellModel", "findNow", "()V"⟩, 63) := ⟨⟨by decide +kernel, by decide +kernel⟩, List.mem_of_getElem? (i := 1251) (by decide +kernel), List.mem_of_getElem? (i := 1624) (by decide +kernel), List.mem_of_getElem? (i := 1625) (by decide +kernel)⟩
theorem lw_p49 : lw_okq (⟨"RobotCellModel", "findStuck", "()I"⟩, 63) := ⟨⟨by decide +kernel, by decide +kernel⟩, List.mem_of_getElem? (i := 1251) (by decide +kernel), List.mem_of_getElem? (i := 1628) (by decide +kernel), List.mem_of_getElem? (i := 1629) (by decide +kernel)⟩
theorem lw_p50 : lw_okq (⟨"RobotCellModel", "canFinish", "(I)Z"⟩, 63) := ⟨⟨by decide +kernel, by decide +kernel⟩, List.mem_of_getElem? (i := 1251) (by decide +kernel), List.mem_of_getElem? (i := 1632) (by decide +kernel), List.mem_of_getElem? (i := 1633) (by decide +kernel)⟩
theorem lw_p51 : lw_okq (⟨"RobotCellModel", "works", "(II)V"⟩, 63) := ⟨⟨by decide +kernel, by decide +kernel⟩, List.mem_of_getElem? (i := 1251) (by decide +kernel), List.mem_of_getElem? (i := 1636) (by decide +kernel), List.mem_of_getElem? (i := 1637) (by decide +kernel)⟩
theorem lw_p52 : lw_okq (⟨"RobotCellModel", "notes", "(III)V"⟩, 63) := ⟨⟨by decide +kernel, by decide +kernel⟩, List.mem_of_getElem? (i := 1251) (by decide +kernel), List.mem_of_getElem? (i := 1640) (by decide +kernel), List.mem_of_getElem? (i := 1641) (by decide +kernel)⟩
theorem lw_p53 : lw_okq (⟨"RobotCellModel", "requestsNext", "(I)V"⟩, 63) := ⟨⟨by decide +kernel, by decide +kernel⟩, List.mem_of_getElem? (i := 1251) (by decide +kernel), List.mem_of_getElem? (i := 1644) (by decide +kernel), List.mem_of_getElem? (i := 1645) (by decide +kernel)⟩
theorem lw_p54 : lw_okq (⟨"RobotCellModel", "isBeside", "(II)Z"⟩, 63) := ⟨⟨by decide +kernel, by decide +kernel⟩, List.mem_of_getElem? (i := 1251) (by decide +kernel), List.mem_of_getElem? (i := 1648) (by decide +kernel), List.mem_of_getElem? (i := 1649) (by decide +kernel)⟩
theorem lw_p55 : lw_okq (⟨"RobotCellModel", "ends", "(I)V"⟩, 63) := ⟨⟨by decide +kernel, by decide +kernel⟩, List.mem_of_getElem? (i := 1251) (by decide +kernel), List.mem_of_getElem? (i := 1652) (by decide +kernel), List.mem_of_getElem? (i := 1653) (by decide +kernel)⟩
theorem lw_p56 : lw_okq (⟨"RobotCellModel", "firstPartOf", "(I)I"⟩, 63) := ⟨⟨by decide +kernel, by decide +kernel⟩, List.mem_of_getElem? (i := 1251) (by decide +kernel), List.mem_of_getElem? (i := 1656) (by decide +kernel), List.mem_of_getElem? (i := 1657) (by decide +kernel)⟩
theorem lw_p57 : lw_okq (⟨"RobotCellModel", "findsEnd", "(I)I"⟩, 63) := ⟨⟨by decide +kernel, by decide +kernel⟩, List.mem_of_getElem? (i := 1251) (by decide +kernel), List.mem_of_getElem? (i := 1672) (by decide +kernel), List.mem_of_getElem? (i := 1673) (by decide +kernel)⟩
theorem lw_p58 : lw_okq (⟨"RobotCellModel", "isQuiet", "()Z"⟩, 63) := ⟨⟨by decide +kernel, by decide +kernel⟩, List.mem_of_getElem? (i := 1251) (by decide +kernel), List.mem_of_getElem? (i := 1676) (by decide +kernel), List.mem_of_getElem? (i := 1677) (by decide +kernel)⟩
theorem lw_p59 : lw_okq (⟨"RobotCellModel", "interlocks", "()I"⟩, 63) := ⟨⟨by decide +kernel, by decide +kernel⟩, List.mem_of_getElem? (i := 1251) (by decide +kernel), List.mem_of_getElem? (i := 1699) (by decide +kernel), List.mem_of_getElem? (i := 1700) (by decide +kernel)⟩
theorem lw_p60 : lw_okq (⟨"RobotCellModel", "takesText", "()Z"⟩, 63) := ⟨⟨by decide +kernel, by decide +kernel⟩, List.mem_of_getElem? (i := 1251) (by decide +kernel), List.mem_of_getElem? (i := 1719) (by decide +kernel), List.mem_of_getElem? (i := 1720) (by decide +kernel)⟩
theorem lw_p61 : lw_okq (⟨"RobotCellModel", "takesCommand", "()Z"⟩, 63) := ⟨⟨by decide +kernel, by decide +kernel⟩, List.mem_of_getElem? (i := 1251) (by decide +kernel), List.mem_of_getElem? (i := 1723) (by decide +kernel), List.mem_of_getElem? (i := 1724) (by decide +kernel)⟩
theorem lw_p62 : lw_okq (⟨"RobotCellModel", "skips", "(I)Z"⟩, 63) := ⟨⟨by decide +kernel, by decide +kernel⟩, List.mem_of_getElem? (i := 1251) (by decide +kernel), List.mem_of_getElem? (i := 1727) (by decide +kernel), List.mem_of_getElem? (i := 1728) (by decide +kernel)⟩
theorem lw_p63 : lw_okq (⟨"RobotCellModel", "takesJob", "()Z"⟩, 63) := ⟨⟨by decide +kernel, by decide +kernel⟩, List.mem_of_getElem? (i := 1251) (by decide +kernel), List.mem_of_getElem? (i := 1731) (by decide +kernel), List.mem_of_getElem? (i := 1732) (by decide +kernel)⟩
def lw_privs_4 : List (MethodName × Nat) := [(⟨"RobotCellModel", "findNow", "()V"⟩, 63), (⟨"RobotCellModel", "findStuck", "()I"⟩, 63), (⟨"RobotCellModel", "canFinish", "(I)Z"⟩, 63), (⟨"RobotCellModel", "works", "(II)V"⟩, 63), (⟨"RobotCellModel", "notes", "(III)V"⟩, 63), (⟨"RobotCellModel", "requestsNext", "(I)V"⟩, 63), (⟨"RobotCellModel", "isBeside", "(II)Z"⟩, 63), (⟨"RobotCellModel", "ends", "(I)V"⟩, 63), (⟨"RobotCellModel", "firstPartOf", "(I)I"⟩, 63), (⟨"RobotCellModel", "findsEnd", "(I)I"⟩, 63), (⟨"RobotCellModel", "isQuiet", "()Z"⟩, 63), (⟨"RobotCellModel", "interlocks", "()I"⟩, 63), (⟨"RobotCellModel", "takesText", "()Z"⟩, 63), (⟨"RobotCellModel", "takesCommand", "()Z"⟩, 63), (⟨"RobotCellModel", "skips", "(I)Z"⟩, 63), (⟨"RobotCellModel", "takesJob", "()Z"⟩, 63)]
theorem lw_r4 : ∀ q ∈ lw_privs_4, lw_okq q := List.forall_mem_cons.mpr ⟨lw_p48, List.forall_mem_cons.mpr ⟨lw_p49, List.forall_mem_cons.mpr ⟨lw_p50, List.forall_mem_cons.mpr ⟨lw_p51, List.forall_mem_cons.mpr ⟨lw_p52, List.forall_mem_cons.mpr ⟨lw_p53, List.forall_mem_cons.mpr ⟨lw_p54, List.forall_mem_cons.mpr ⟨lw_p55, List.forall_mem_cons.mpr ⟨lw_p56, List.forall_mem_cons.mpr ⟨lw_p57, List.forall_mem_cons.mpr ⟨lw_p58, List.forall_mem_cons.mpr ⟨lw_p59, List.forall_mem_cons.mpr ⟨lw_p60, List.forall_mem_cons.mpr ⟨lw_p61, List.forall_mem_cons.mpr ⟨lw_p62, List.forall_mem_cons.mpr ⟨lw_p63, fun _ h => absurd h List.not_mem_nil⟩⟩⟩⟩⟩⟩⟩⟩⟩⟩⟩⟩⟩⟩⟩⟩
theorem lw_p64 : lw_okq (⟨"RobotCellModel", "takesAt", "(I)Z"⟩, 63) := ⟨⟨by decide +kernel, by decide +kernel⟩, List.mem_of_getElem? (i := 1251) (by decide +kernel), List.mem_of_getElem? (i := 1735) (by decide +kernel), List.mem_of_getElem? (i := 1736) (by decide +kernel)⟩
theorem lw_p65 : lw_okq (⟨"RobotCellModel", "takes", "()Z"⟩, 63) := ⟨⟨by decide +kernel, by decide +kernel⟩, List.mem_of_getElem? (i := 1251) (by decide +kernel), List.mem_of_getElem? (i := 1739) (by decide +kernel), List.mem_of_getElem? (i := 1740) (by decide +kernel)⟩
theorem lw_p66 : lw_okq (⟨"RobotCellModel", "takesPath", "()Z"⟩, 63) := ⟨⟨by decide +kernel, by decide +kernel⟩, List.mem_of_getElem? (i := 1251) (by decide +kernel), List.mem_of_getElem? (i := 1743) (by decide +kernel), List.mem_of_getElem? (i := 1744) (by decide +kernel)⟩
theorem lw_p67 : lw_okq (⟨"RobotCellModel", "takesTicks", "()Z"⟩, 63) := ⟨⟨by decide +kernel, by decide +kernel⟩, List.mem_of_getElem? (i := 1251) (by decide +kernel), List.mem_of_getElem? (i := 1747) (by decide +kernel), List.mem_of_getElem? (i := 1748) (by decide +kernel)⟩
theorem lw_p68 : lw_okq (⟨"RobotCellModel", "does", "(I)Z"⟩, 63) := ⟨⟨by decide +kernel, by decide +kernel⟩, List.mem_of_getElem? (i := 1251) (by decide +kernel), List.mem_of_getElem? (i := 1751) (by decide +kernel), List.mem_of_getElem? (i := 1752) (by decide +kernel)⟩
def lw_privs_5 : List (MethodName × Nat) := [(⟨"RobotCellModel", "takesAt", "(I)Z"⟩, 63), (⟨"RobotCellModel", "takes", "()Z"⟩, 63), (⟨"RobotCellModel", "takesPath", "()Z"⟩, 63), (⟨"RobotCellModel", "takesTicks", "()Z"⟩, 63), (⟨"RobotCellModel", "does", "(I)Z"⟩, 63)]
theorem lw_r5 : ∀ q ∈ lw_privs_5, lw_okq q := List.forall_mem_cons.mpr ⟨lw_p64, List.forall_mem_cons.mpr ⟨lw_p65, List.forall_mem_cons.mpr ⟨lw_p66, List.forall_mem_cons.mpr ⟨lw_p67, List.forall_mem_cons.mpr ⟨lw_p68, fun _ h => absurd h List.not_mem_nil⟩⟩⟩⟩⟩
def lw_privs : List (MethodName × Nat) := lw_privs_1 ++ (lw_privs_2 ++ (lw_privs_3 ++ (lw_privs_4 ++ (lw_privs_5))))
def lw_tbl : List Cond := k2_sels lw_privs ++ tables_1
theorem lw_privs_ok : ∀ q ∈ lw_privs, lw_okq q := by
  show ∀ q ∈ lw_privs_1 ++ (lw_privs_2 ++ (lw_privs_3 ++ (lw_privs_4 ++ (lw_privs_5)))), lw_okq q
  exact List.forall_mem_append.mpr ⟨lw_r1, List.forall_mem_append.mpr ⟨lw_r2, List.forall_mem_append.mpr ⟨lw_r3, List.forall_mem_append.mpr ⟨lw_r4, lw_r5⟩⟩⟩⟩
/-- the streams that the claim lets the run draw from -/
abbrev lw_cs : List Choice := [Jvm.Choice.named "NaN.bits"]
theorem lw_bits : nanBits ∈ lw_cs := by first | decide | exact List.mem_cons_self | simp [lw_cs, nanBits]
-- ===== end of PART A; then your names; then what follows =====
/-! ===== BEGIN printed: names, fields, word lists, decode rows ===== -/
def RX0 : String := "RobotCell$Arm"
def TX0 : u_T := fun k => match k with
  | 0 => ("RobotCell$Arm", "number", "I", true)
  | 1 => ("RobotCell$Arm", "reach", "I", false)
  | 2 => ("RobotCell$Arm", "state", "I", false)
  | 3 => ("RobotCell$Arm", "job", "I", false)
  | 4 => ("RobotCell$Arm", "place", "I", false)
  | 5 => ("RobotCell$Arm", "toGo", "I", false)
  | 6 => ("RobotCell$Arm", "held", "I", false)
  | 7 => ("RobotCell$Arm", "patience", "I", false)
  | 8 => ("RobotCell$Arm", "reason", "I", false)
  | 9 => ("RobotCell$Arm", "detail", "I", false)
  | 10 => ("RobotCell$Arm", "refused", "I", false)
  | 11 => ("RobotCell$Arm", "busyTicks", "I", false)
  | 12 => ("RobotCell$Arm", "rowLength", "I", false)
  | _ => ("RobotCell$Arm", "row", "[I", true)
def tyX0 : Nat → FieldType := fun k => match k with
  | 0 => .int
  | 1 => .int
  | 2 => .int
  | 3 => .int
  | 4 => .int
  | 5 => .int
  | 6 => .int
  | 7 => .int
  | 8 => .int
  | 9 => .int
  | 10 => .int
  | 11 => .int
  | 12 => .int
  | _ => .array .int
abbrev wsX00 : List Cond := u_ws RX0 TX0 14
theorem nmX0 : ∀ a, a < 14 → ∀ b, b < 14 → a ≠ b → (TX0 a).2.1 ≠ (TX0 b).2.1 := by decide +kernel
theorem tyX0_ok : ∀ k, k < 14 → parseFieldDescriptor (TX0 k).2.2.1 = some (tyX0 k) := by decide +kernel
abbrev cX0_init : ByteArray := prog_2_method_1_code
def yX0_init : MethodName := ⟨RX0, "<init>", "(I)V"⟩
abbrev cX0_copyFrom : ByteArray := prog_2_method_2_code
def yX0_copyFrom : MethodName := ⟨RX0, "copyFrom", "(LRobotCell$Arm;)V"⟩
abbrev cX0_rowAt : ByteArray := prog_2_method_3_code
def yX0_rowAt : MethodName := ⟨RX0, "rowAt", "(I)I"⟩
abbrev cX0_addToRow : ByteArray := prog_2_method_4_code
def yX0_addToRow : MethodName := ⟨RX0, "addToRow", "(I)V"⟩
abbrev cX0_takeFirstOfRow : ByteArray := prog_2_method_5_code
def yX0_takeFirstOfRow : MethodName := ⟨RX0, "takeFirstOfRow", "()I"⟩
abbrev cX0_takeLastOfRow : ByteArray := prog_2_method_6_code
def yX0_takeLastOfRow : MethodName := ⟨RX0, "takeLastOfRow", "()I"⟩
abbrev cX0_requestedJob : ByteArray := prog_2_method_7_code
def yX0_requestedJob : MethodName := ⟨RX0, "requestedJob", "()I"⟩
abbrev cX0_requestedPlace : ByteArray := prog_2_method_8_code
def yX0_requestedPlace : MethodName := ⟨RX0, "requestedPlace", "()I"⟩
abbrev cX0_lastHeldPlace : ByteArray := prog_2_method_9_code
def yX0_lastHeldPlace : MethodName := ⟨RX0, "lastHeldPlace", "()I"⟩
abbrev cX0_refuse : ByteArray := prog_2_method_10_code
def yX0_refuse : MethodName := ⟨RX0, "refuse", "(III)V"⟩
abbrev cX0_workAt : ByteArray := prog_2_method_11_code
def yX0_workAt : MethodName := ⟨RX0, "workAt", "(III)V"⟩
abbrev cX0_rest : ByteArray := prog_2_method_12_code
def yX0_rest : MethodName := ⟨RX0, "rest", "()V"⟩
def RX1 : String := "RobotCell$Cell"
def TX1 : u_T := fun k => match k with
  | 0 => ("RobotCell$Cell", "time", "I", false)
  | 1 => ("RobotCell$Cell", "given", "I", false)
  | 2 => ("RobotCell$Cell", "ended", "I", false)
  | 3 => ("RobotCell$Cell", "withdrawn", "I", false)
  | 4 => ("RobotCell$Cell", "newParts", "I", false)
  | 5 => ("RobotCell$Cell", "goneParts", "I", false)
  | 6 => ("RobotCell$Cell", "durations", "I", false)
  | 7 => ("RobotCell$Cell", "zones", "LRobotCell$Zones;", true)
  | 8 => ("RobotCell$Cell", "log", "LRobotCell$Log;", true)
  | 9 => ("RobotCell$Cell", "arms", "[LRobotCell$Arm;", true)
  | 10 => ("RobotCell$Cell", "noArm", "LRobotCell$Arm;", true)
  | 11 => ("RobotCell$Cell", "stores", "[LRobotCell$Store;", true)
  | 12 => ("RobotCell$Cell", "noStore", "LRobotCell$Store;", true)
  | 13 => ("RobotCell$Cell", "jobs", "[LRobotCell$Job;", true)
  | _ => ("RobotCell$Cell", "noJob", "LRobotCell$Job;", true)
def tyX1 : Nat → FieldType := fun k => match k with
  | 0 => .int
  | 1 => .int
  | 2 => .int
  | 3 => .int
  | 4 => .int
  | 5 => .int
  | 6 => .int
  | 7 => .object "RobotCell$Zones"
  | 8 => .object "RobotCell$Log"
  | 9 => .array (.object "RobotCell$Arm")
  | 10 => .object "RobotCell$Arm"
  | 11 => .array (.object "RobotCell$Store")
  | 12 => .object "RobotCell$Store"
  | 13 => .array (.object "RobotCell$Job")
  | _ => .object "RobotCell$Job"
abbrev wsX10 : List Cond := u_ws RX1 TX1 15
theorem nmX1 : ∀ a, a < 15 → ∀ b, b < 15 → a ≠ b → (TX1 a).2.1 ≠ (TX1 b).2.1 := by decide +kernel
theorem tyX1_ok : ∀ k, k < 15 → parseFieldDescriptor (TX1 k).2.2.1 = some (tyX1 k) := by decide +kernel
abbrev cX1_init : ByteArray := prog_3_method_1_code
def yX1_init : MethodName := ⟨RX1, "<init>", "()V"⟩
abbrev cX1_copyFrom : ByteArray := prog_3_method_2_code
def yX1_copyFrom : MethodName := ⟨RX1, "copyFrom", "(LRobotCell$Cell;)V"⟩
abbrev cX1_armAt : ByteArray := prog_3_method_3_code
def yX1_armAt : MethodName := ⟨RX1, "armAt", "(I)LRobotCell$Arm;"⟩
abbrev cX1_storeAt : ByteArray := prog_3_method_4_code
def yX1_storeAt : MethodName := ⟨RX1, "storeAt", "(I)LRobotCell$Store;"⟩
abbrev cX1_jobAt : ByteArray := prog_3_method_5_code
def yX1_jobAt : MethodName := ⟨RX1, "jobAt", "(I)LRobotCell$Job;"⟩
abbrev cX1_interlockFault : ByteArray := prog_3_method_6_code
def yX1_interlockFault : MethodName := ⟨RX1, "interlockFault", "(IIZ)I"⟩
abbrev cX1_giveFault : ByteArray := prog_3_method_7_code
def yX1_giveFault : MethodName := ⟨RX1, "giveFault", "(IIIIII)I"⟩
abbrev cX1_addJob : ByteArray := prog_3_method_8_code
def yX1_addJob : MethodName := ⟨RX1, "addJob", "(IIIIII)I"⟩
abbrev cX1_takeBackLast : ByteArray := prog_3_method_9_code
def yX1_takeBackLast : MethodName := ⟨RX1, "takeBackLast", "(I)I"⟩
abbrev cX1_makePart : ByteArray := prog_3_method_10_code
def yX1_makePart : MethodName := ⟨RX1, "makePart", "()I"⟩
abbrev cX1_startJob : ByteArray := prog_3_method_11_code
def yX1_startJob : MethodName := ⟨RX1, "startJob", "(LRobotCell$Arm;)V"⟩
abbrev cX1_startMove : ByteArray := prog_3_method_12_code
def yX1_startMove : MethodName := ⟨RX1, "startMove", "(LRobotCell$Arm;)V"⟩
abbrev cX1_endMove : ByteArray := prog_3_method_13_code
def yX1_endMove : MethodName := ⟨RX1, "endMove", "(LRobotCell$Arm;)V"⟩
abbrev cX1_endJob : ByteArray := prog_3_method_14_code
def yX1_endJob : MethodName := ⟨RX1, "endJob", "(LRobotCell$Arm;)V"⟩
abbrev cX1_moveParts : ByteArray := prog_3_method_15_code
def yX1_moveParts : MethodName := ⟨RX1, "moveParts", "(LRobotCell$Job;)V"⟩
abbrev cX1_countTick : ByteArray := prog_3_method_16_code
def yX1_countTick : MethodName := ⟨RX1, "countTick", "()V"⟩
abbrev cX1_armsBefore : ByteArray := prog_3_method_17_code
def yX1_armsBefore : MethodName := ⟨RX1, "armsBefore", "(I)I"⟩
abbrev cX1_hasRequest : ByteArray := prog_3_method_18_code
def yX1_hasRequest : MethodName := ⟨RX1, "hasRequest", "(LRobotCell$Arm;)Z"⟩
abbrev cX1_isAllIdle : ByteArray := prog_3_method_19_code
def yX1_isAllIdle : MethodName := ⟨RX1, "isAllIdle", "()Z"⟩
abbrev cX1_heldByOthers : ByteArray := prog_3_method_20_code
def yX1_heldByOthers : MethodName := ⟨RX1, "heldByOthers", "(LRobotCell$Arm;)I"⟩
abbrev cX1_holderOf : ByteArray := prog_3_method_21_code
def yX1_holderOf : MethodName := ⟨RX1, "holderOf", "(I)I"⟩
abbrev cX1_holdersOfAny : ByteArray := prog_3_method_22_code
def yX1_holdersOfAny : MethodName := ⟨RX1, "holdersOfAny", "(I)I"⟩
abbrev cX1_armsThatReach : ByteArray := prog_3_method_23_code
def yX1_armsThatReach : MethodName := ⟨RX1, "armsThatReach", "(I)I"⟩
abbrev cX1_aboutZone : ByteArray := prog_3_method_24_code
def yX1_aboutZone : MethodName := ⟨RX1, "aboutZone", "(II)I"⟩
abbrev cX1_aboutArm : ByteArray := prog_3_method_25_code
def yX1_aboutArm : MethodName := ⟨RX1, "aboutArm", "(LRobotCell$Arm;I)I"⟩
abbrev cX1_accountOf : ByteArray := prog_3_method_26_code
def yX1_accountOf : MethodName := ⟨RX1, "accountOf", "(I)I"⟩
abbrev cX1_partsInStores : ByteArray := prog_3_method_27_code
def yX1_partsInStores : MethodName := ⟨RX1, "partsInStores", "()I"⟩
abbrev cX1_refusals : ByteArray := prog_3_method_28_code
def yX1_refusals : MethodName := ⟨RX1, "refusals", "()I"⟩
def RX2 : String := "RobotCell$Command"
def TX2 : u_T := fun k => match k with
  | 0 => ("RobotCell$Command", "kind", "I", false)
  | 1 => ("RobotCell$Command", "arm", "I", false)
  | 2 => ("RobotCell$Command", "path", "I", false)
  | 3 => ("RobotCell$Command", "work", "I", false)
  | 4 => ("RobotCell$Command", "weight", "I", false)
  | 5 => ("RobotCell$Command", "source", "I", false)
  | 6 => ("RobotCell$Command", "target", "I", false)
  | 7 => ("RobotCell$Command", "ticks", "I", false)
  | 8 => ("RobotCell$Command", "one", "I", false)
  | _ => ("RobotCell$Command", "other", "I", false)
def tyX2 : Nat → FieldType := fun k => match k with
  | 0 => .int
  | 1 => .int
  | 2 => .int
  | 3 => .int
  | 4 => .int
  | 5 => .int
  | 6 => .int
  | 7 => .int
  | 8 => .int
  | _ => .int
abbrev wsX20 : List Cond := u_ws RX2 TX2 10
theorem nmX2 : ∀ a, a < 10 → ∀ b, b < 10 → a ≠ b → (TX2 a).2.1 ≠ (TX2 b).2.1 := by decide +kernel
theorem tyX2_ok : ∀ k, k < 10 → parseFieldDescriptor (TX2 k).2.2.1 = some (tyX2 k) := by decide +kernel
abbrev cX2_init : ByteArray := prog_4_method_1_code
def yX2_init : MethodName := ⟨RX2, "<init>", "()V"⟩
abbrev cX2_addZone : ByteArray := prog_4_method_2_code
def yX2_addZone : MethodName := ⟨RX2, "addZone", "(I)V"⟩
def RX3 : String := "RobotCell$CommandText"
def TX3 : u_T := fun k => match k with
  | 0 => ("RobotCell$CommandText", "count", "I", false)
  | 1 => ("RobotCell$CommandText", "letters", "[C", true)
  | 2 => ("RobotCell$CommandText", "length", "I", false)
  | 3 => ("RobotCell$CommandText", "at", "I", false)
  | 4 => ("RobotCell$CommandText", "digit", "I", false)
  | 5 => ("RobotCell$CommandText", "commands", "[LRobotCell$Command;", true)
  | _ => ("RobotCell$CommandText", "noCommand", "LRobotCell$Command;", true)
def tyX3 : Nat → FieldType := fun k => match k with
  | 0 => .int
  | 1 => .array .char
  | 2 => .int
  | 3 => .int
  | 4 => .int
  | 5 => .array (.object "RobotCell$Command")
  | _ => .object "RobotCell$Command"
abbrev wsX30 : List Cond := u_ws RX3 TX3 7
theorem nmX3 : ∀ a, a < 7 → ∀ b, b < 7 → a ≠ b → (TX3 a).2.1 ≠ (TX3 b).2.1 := by decide +kernel
theorem tyX3_ok : ∀ k, k < 7 → parseFieldDescriptor (TX3 k).2.2.1 = some (tyX3 k) := by decide +kernel
abbrev cX3_init : ByteArray := prog_5_method_1_code
def yX3_init : MethodName := ⟨RX3, "<init>", "()V"⟩
abbrev cX3_isFull : ByteArray := prog_5_method_2_code
def yX3_isFull : MethodName := ⟨RX3, "isFull", "()Z"⟩
abbrev cX3_append : ByteArray := prog_5_method_3_code
def yX3_append : MethodName := ⟨RX3, "append", "(C)I"⟩
abbrev cX3_commandAt : ByteArray := prog_5_method_4_code
def yX3_commandAt : MethodName := ⟨RX3, "commandAt", "(I)LRobotCell$Command;"⟩
abbrev cX3_readCommands : ByteArray := prog_5_method_5_code
def yX3_readCommands : MethodName := ⟨RX3, "readCommands", "()I"⟩
abbrev cX3_readText : ByteArray := prog_5_method_6_code
def yX3_readText : MethodName := ⟨RX3, "readText", "()Z"⟩
abbrev cX3_readCommand : ByteArray := prog_5_method_7_code
def yX3_readCommand : MethodName := ⟨RX3, "readCommand", "(LRobotCell$Command;)Z"⟩
abbrev cX3_readJob : ByteArray := prog_5_method_8_code
def yX3_readJob : MethodName := ⟨RX3, "readJob", "(LRobotCell$Command;)Z"⟩
abbrev cX3_readPath : ByteArray := prog_5_method_9_code
def yX3_readPath : MethodName := ⟨RX3, "readPath", "(LRobotCell$Command;)Z"⟩
abbrev cX3_readBuffers : ByteArray := prog_5_method_10_code
def yX3_readBuffers : MethodName := ⟨RX3, "readBuffers", "(LRobotCell$Command;)Z"⟩
abbrev cX3_readTicks : ByteArray := prog_5_method_11_code
def yX3_readTicks : MethodName := ⟨RX3, "readTicks", "(LRobotCell$Command;)Z"⟩
abbrev cX3_readInterlock : ByteArray := prog_5_method_12_code
def yX3_readInterlock : MethodName := ⟨RX3, "readInterlock", "(LRobotCell$Command;)Z"⟩
abbrev cX3_take : ByteArray := prog_5_method_13_code
def yX3_take : MethodName := ⟨RX3, "take", "(C)Z"⟩
abbrev cX3_takeDigit : ByteArray := prog_5_method_14_code
def yX3_takeDigit : MethodName := ⟨RX3, "takeDigit", "()Z"⟩
def RX4 : String := "RobotCell$History"
def TX4 : u_T := fun k => match k with
  | 0 => ("RobotCell$History", "count", "I", false)
  | 1 => ("RobotCell$History", "first", "I", false)
  | 2 => ("RobotCell$History", "cells", "[LRobotCell$Cell;", true)
  | _ => ("RobotCell$History", "noCell", "LRobotCell$Cell;", true)
def tyX4 : Nat → FieldType := fun k => match k with
  | 0 => .int
  | 1 => .int
  | 2 => .array (.object "RobotCell$Cell")
  | _ => .object "RobotCell$Cell"
abbrev wsX40 : List Cond := u_ws RX4 TX4 4
theorem nmX4 : ∀ a, a < 4 → ∀ b, b < 4 → a ≠ b → (TX4 a).2.1 ≠ (TX4 b).2.1 := by decide +kernel
theorem tyX4_ok : ∀ k, k < 4 → parseFieldDescriptor (TX4 k).2.2.1 = some (tyX4 k) := by decide +kernel
abbrev cX4_init : ByteArray := prog_6_method_1_code
def yX4_init : MethodName := ⟨RX4, "<init>", "()V"⟩
abbrev cX4_cellAt : ByteArray := prog_6_method_2_code
def yX4_cellAt : MethodName := ⟨RX4, "cellAt", "(I)LRobotCell$Cell;"⟩
abbrev cX4_keep : ByteArray := prog_6_method_3_code
def yX4_keep : MethodName := ⟨RX4, "keep", "(LRobotCell$Cell;)V"⟩
abbrev cX4_takeBackInto : ByteArray := prog_6_method_4_code
def yX4_takeBackInto : MethodName := ⟨RX4, "takeBackInto", "(LRobotCell$Cell;)I"⟩
abbrev cX4_forget : ByteArray := prog_6_method_5_code
def yX4_forget : MethodName := ⟨RX4, "forget", "()V"⟩
def RX5 : String := "RobotCell$Job"
def TX5 : u_T := fun k => match k with
  | 0 => ("RobotCell$Job", "arm", "I", false)
  | 1 => ("RobotCell$Job", "path", "I", false)
  | 2 => ("RobotCell$Job", "length", "I", false)
  | 3 => ("RobotCell$Job", "work", "I", false)
  | 4 => ("RobotCell$Job", "weight", "I", false)
  | 5 => ("RobotCell$Job", "source", "I", false)
  | 6 => ("RobotCell$Job", "target", "I", false)
  | 7 => ("RobotCell$Job", "state", "I", false)
  | 8 => ("RobotCell$Job", "started", "I", false)
  | _ => ("RobotCell$Job", "ended", "I", false)
def tyX5 : Nat → FieldType := fun k => match k with
  | 0 => .int
  | 1 => .int
  | 2 => .int
  | 3 => .int
  | 4 => .int
  | 5 => .int
  | 6 => .int
  | 7 => .int
  | 8 => .int
  | _ => .int
abbrev wsX50 : List Cond := u_ws RX5 TX5 10
theorem nmX5 : ∀ a, a < 10 → ∀ b, b < 10 → a ≠ b → (TX5 a).2.1 ≠ (TX5 b).2.1 := by decide +kernel
theorem tyX5_ok : ∀ k, k < 10 → parseFieldDescriptor (TX5 k).2.2.1 = some (tyX5 k) := by decide +kernel
abbrev cX5_init : ByteArray := prog_7_method_1_code
def yX5_init : MethodName := ⟨RX5, "<init>", "()V"⟩
abbrev cX5_copyFrom : ByteArray := prog_7_method_2_code
def yX5_copyFrom : MethodName := ⟨RX5, "copyFrom", "(LRobotCell$Job;)V"⟩
abbrev cX5_isPath : ByteArray := prog_7_method_3_code
def yX5_isPath : MethodName := ⟨RX5, "isPath", "(I)Z"⟩
abbrev cX5_lengthOf : ByteArray := prog_7_method_4_code
def yX5_lengthOf : MethodName := ⟨RX5, "lengthOf", "(I)I"⟩
abbrev cX5_hasPlace : ByteArray := prog_7_method_5_code
def yX5_hasPlace : MethodName := ⟨RX5, "hasPlace", "(I)Z"⟩
abbrev cX5_zoneAt : ByteArray := prog_7_method_6_code
def yX5_zoneAt : MethodName := ⟨RX5, "zoneAt", "(I)I"⟩
abbrev cX5_zonesBehind : ByteArray := prog_7_method_7_code
def yX5_zonesBehind : MethodName := ⟨RX5, "zonesBehind", "(I)I"⟩
abbrev cX5_about : ByteArray := prog_7_method_8_code
def yX5_about : MethodName := ⟨RX5, "about", "(I)I"⟩
def RX6 : String := "RobotCell$Judge"
def TX6 : u_T := fun k => match k with
  | 0 => ("RobotCell$Judge", "detail", "I", false)
  | 1 => ("RobotCell$Judge", "active", "I", false)
  | 2 => ("RobotCell$Judge", "held", "[I", true)
  | _ => ("RobotCell$Judge", "inTheWay", "[I", true)
def tyX6 : Nat → FieldType := fun k => match k with
  | 0 => .int
  | 1 => .int
  | 2 => .array .int
  | _ => .array .int
abbrev wsX60 : List Cond := u_ws RX6 TX6 4
theorem nmX6 : ∀ a, a < 4 → ∀ b, b < 4 → a ≠ b → (TX6 a).2.1 ≠ (TX6 b).2.1 := by decide +kernel
theorem tyX6_ok : ∀ k, k < 4 → parseFieldDescriptor (TX6 k).2.2.1 = some (tyX6 k) := by decide +kernel
abbrev cX6_init : ByteArray := prog_8_method_1_code
def yX6_init : MethodName := ⟨RX6, "<init>", "()V"⟩
abbrev cX6_findReason : ByteArray := prog_8_method_2_code
def yX6_findReason : MethodName := ⟨RX6, "findReason", "(LRobotCell$Cell;LRobotCell$Arm;)I"⟩
abbrev cX6_canAllFinish : ByteArray := prog_8_method_3_code
def yX6_canAllFinish : MethodName := ⟨RX6, "canAllFinish", "(LRobotCell$Cell;)Z"⟩
abbrev cX6_bufferReason : ByteArray := prog_8_method_4_code
def yX6_bufferReason : MethodName := ⟨RX6, "bufferReason", "(LRobotCell$Cell;LRobotCell$Job;)I"⟩
abbrev cX6_lookAt : ByteArray := prog_8_method_5_code
def yX6_lookAt : MethodName := ⟨RX6, "lookAt", "(LRobotCell$Cell;)V"⟩
abbrev cX6_suppose : ByteArray := prog_8_method_6_code
def yX6_suppose : MethodName := ⟨RX6, "suppose", "(LRobotCell$Arm;II)V"⟩
abbrev cX6_findStuck : ByteArray := prog_8_method_7_code
def yX6_findStuck : MethodName := ⟨RX6, "findStuck", "()I"⟩
abbrev cX6_lowest : ByteArray := prog_8_method_8_code
def yX6_lowest : MethodName := ⟨RX6, "lowest", "(I)I"⟩
def RX7 : String := "RobotCell$Log"
def TX7 : u_T := fun k => match k with
  | 0 => ("RobotCell$Log", "made", "I", false)
  | _ => ("RobotCell$Log", "numbers", "[I", true)
def tyX7 : Nat → FieldType := fun k => match k with
  | 0 => .int
  | _ => .array .int
abbrev wsX70 : List Cond := u_ws RX7 TX7 2
theorem nmX7 : ∀ a, a < 2 → ∀ b, b < 2 → a ≠ b → (TX7 a).2.1 ≠ (TX7 b).2.1 := by decide +kernel
theorem tyX7_ok : ∀ k, k < 2 → parseFieldDescriptor (TX7 k).2.2.1 = some (tyX7 k) := by decide +kernel
abbrev cX7_init : ByteArray := prog_9_method_1_code
def yX7_init : MethodName := ⟨RX7, "<init>", "()V"⟩
abbrev cX7_copyFrom : ByteArray := prog_9_method_2_code
def yX7_copyFrom : MethodName := ⟨RX7, "copyFrom", "(LRobotCell$Log;)V"⟩
abbrev cX7_kept : ByteArray := prog_9_method_3_code
def yX7_kept : MethodName := ⟨RX7, "kept", "()I"⟩
abbrev cX7_add : ByteArray := prog_9_method_4_code
def yX7_add : MethodName := ⟨RX7, "add", "(IIII)V"⟩
abbrev cX7_partOf : ByteArray := prog_9_method_5_code
def yX7_partOf : MethodName := ⟨RX7, "partOf", "(II)I"⟩
def RX8 : String := "RobotCell$Scheduler"
def TX8 : u_T := fun k => match k with
  | 0 => ("RobotCell$Scheduler", "judge", "LRobotCell$Judge;", true)
  | _ => ("RobotCell$Scheduler", "order", "[I", true)
def tyX8 : Nat → FieldType := fun k => match k with
  | 0 => .object "RobotCell$Judge"
  | _ => .array .int
abbrev wsX80 : List Cond := u_ws RX8 TX8 2
theorem nmX8 : ∀ a, a < 2 → ∀ b, b < 2 → a ≠ b → (TX8 a).2.1 ≠ (TX8 b).2.1 := by decide +kernel
theorem tyX8_ok : ∀ k, k < 2 → parseFieldDescriptor (TX8 k).2.2.1 = some (tyX8 k) := by decide +kernel
abbrev cX8_init : ByteArray := prog_10_method_1_code
def yX8_init : MethodName := ⟨RX8, "<init>", "()V"⟩
abbrev cX8_makeTick : ByteArray := prog_10_method_2_code
def yX8_makeTick : MethodName := ⟨RX8, "makeTick", "(LRobotCell$Cell;)V"⟩
abbrev cX8_findOrder : ByteArray := prog_10_method_3_code
def yX8_findOrder : MethodName := ⟨RX8, "findOrder", "(LRobotCell$Cell;)V"⟩
abbrev cX8_act : ByteArray := prog_10_method_4_code
def yX8_act : MethodName := ⟨RX8, "act", "(LRobotCell$Cell;LRobotCell$Arm;)V"⟩
def RX9 : String := "RobotCell$Store"
def TX9 : u_T := fun k => match k with
  | 0 => ("RobotCell$Store", "capacity", "I", false)
  | 1 => ("RobotCell$Store", "count", "I", false)
  | 2 => ("RobotCell$Store", "promisedPlaces", "I", false)
  | 3 => ("RobotCell$Store", "promisedParts", "I", false)
  | 4 => ("RobotCell$Store", "came", "I", false)
  | 5 => ("RobotCell$Store", "left", "I", false)
  | _ => ("RobotCell$Store", "parts", "[I", true)
def tyX9 : Nat → FieldType := fun k => match k with
  | 0 => .int
  | 1 => .int
  | 2 => .int
  | 3 => .int
  | 4 => .int
  | 5 => .int
  | _ => .array .int
abbrev wsX90 : List Cond := u_ws RX9 TX9 7
theorem nmX9 : ∀ a, a < 7 → ∀ b, b < 7 → a ≠ b → (TX9 a).2.1 ≠ (TX9 b).2.1 := by decide +kernel
theorem tyX9_ok : ∀ k, k < 7 → parseFieldDescriptor (TX9 k).2.2.1 = some (tyX9 k) := by decide +kernel
abbrev cX9_init : ByteArray := prog_11_method_1_code
def yX9_init : MethodName := ⟨RX9, "<init>", "()V"⟩
abbrev cX9_copyFrom : ByteArray := prog_11_method_2_code
def yX9_copyFrom : MethodName := ⟨RX9, "copyFrom", "(LRobotCell$Store;)V"⟩
abbrev cX9_takenPlaces : ByteArray := prog_11_method_3_code
def yX9_takenPlaces : MethodName := ⟨RX9, "takenPlaces", "()I"⟩
abbrev cX9_hasRoom : ByteArray := prog_11_method_4_code
def yX9_hasRoom : MethodName := ⟨RX9, "hasRoom", "()Z"⟩
abbrev cX9_hasPartToGive : ByteArray := prog_11_method_5_code
def yX9_hasPartToGive : MethodName := ⟨RX9, "hasPartToGive", "()Z"⟩
abbrev cX9_partAt : ByteArray := prog_11_method_6_code
def yX9_partAt : MethodName := ⟨RX9, "partAt", "(I)I"⟩
abbrev cX9_putLast : ByteArray := prog_11_method_7_code
def yX9_putLast : MethodName := ⟨RX9, "putLast", "(I)V"⟩
abbrev cX9_takeFirst : ByteArray := prog_11_method_8_code
def yX9_takeFirst : MethodName := ⟨RX9, "takeFirst", "()I"⟩
abbrev cX9_about : ByteArray := prog_11_method_9_code
def yX9_about : MethodName := ⟨RX9, "about", "(I)I"⟩
def RX10 : String := "RobotCell$Zones"
def TX10 : u_T := fun k => match k with
  | 0 => ("RobotCell$Zones", "interlocks", "I", false)
  | 1 => ("RobotCell$Zones", "conflicts", "[I", true)
  | _ => ("RobotCell$Zones", "heldTicks", "[I", true)
def tyX10 : Nat → FieldType := fun k => match k with
  | 0 => .int
  | 1 => .array .int
  | _ => .array .int
abbrev wsX100 : List Cond := u_ws RX10 TX10 3
theorem nmX10 : ∀ a, a < 3 → ∀ b, b < 3 → a ≠ b → (TX10 a).2.1 ≠ (TX10 b).2.1 := by decide +kernel
theorem tyX10_ok : ∀ k, k < 3 → parseFieldDescriptor (TX10 k).2.2.1 = some (tyX10 k) := by decide +kernel
abbrev cX10_init : ByteArray := prog_12_method_1_code
def yX10_init : MethodName := ⟨RX10, "<init>", "()V"⟩
abbrev cX10_copyFrom : ByteArray := prog_12_method_2_code
def yX10_copyFrom : MethodName := ⟨RX10, "copyFrom", "(LRobotCell$Zones;)V"⟩
abbrev cX10_conflictsOf : ByteArray := prog_12_method_3_code
def yX10_conflictsOf : MethodName := ⟨RX10, "conflictsOf", "(I)I"⟩
abbrev cX10_conflictsOfSet : ByteArray := prog_12_method_4_code
def yX10_conflictsOfSet : MethodName := ⟨RX10, "conflictsOfSet", "(I)I"⟩
abbrev cX10_hasInterlock : ByteArray := prog_12_method_5_code
def yX10_hasInterlock : MethodName := ⟨RX10, "hasInterlock", "(II)Z"⟩
abbrev cX10_putInterlock : ByteArray := prog_12_method_6_code
def yX10_putInterlock : MethodName := ⟨RX10, "putInterlock", "(IIZ)Z"⟩
abbrev cX10_turn : ByteArray := prog_12_method_7_code
def yX10_turn : MethodName := ⟨RX10, "turn", "(II)V"⟩
abbrev cX10_ticksHeld : ByteArray := prog_12_method_8_code
def yX10_ticksHeld : MethodName := ⟨RX10, "ticksHeld", "(I)I"⟩
abbrev cX10_countTick : ByteArray := prog_12_method_9_code
def yX10_countTick : MethodName := ⟨RX10, "countTick", "(I)V"⟩
def RX11 : String := "RobotCell"
def TX11 : u_T := fun k => match k with
  | 0 => ("RobotCell", "now", "LRobotCell$Cell;", true)
  | 1 => ("RobotCell", "trial", "LRobotCell$Cell;", true)
  | 2 => ("RobotCell", "saved", "LRobotCell$Cell;", true)
  | 3 => ("RobotCell", "isSaved", "Z", false)
  | 4 => ("RobotCell", "history", "LRobotCell$History;", true)
  | 5 => ("RobotCell", "scheduler", "LRobotCell$Scheduler;", true)
  | _ => ("RobotCell", "commandText", "LRobotCell$CommandText;", true)
def tyX11 : Nat → FieldType := fun k => match k with
  | 0 => .object "RobotCell$Cell"
  | 1 => .object "RobotCell$Cell"
  | 2 => .object "RobotCell$Cell"
  | 3 => .boolean
  | 4 => .object "RobotCell$History"
  | 5 => .object "RobotCell$Scheduler"
  | _ => .object "RobotCell$CommandText"
abbrev wsX110 : List Cond := u_ws RX11 TX11 7
theorem nmX11 : ∀ a, a < 7 → ∀ b, b < 7 → a ≠ b → (TX11 a).2.1 ≠ (TX11 b).2.1 := by decide +kernel
theorem tyX11_ok : ∀ k, k < 7 → parseFieldDescriptor (TX11 k).2.2.1 = some (tyX11 k) := by decide +kernel
abbrev cX11_init : ByteArray := prog_1_method_1_code
def yX11_init : MethodName := ⟨RX11, "<init>", "()V"⟩
abbrev cX11_setInterlock : ByteArray := prog_1_method_2_code
def yX11_setInterlock : MethodName := ⟨RX11, "setInterlock", "(IIZ)Z"⟩
abbrev cX11_setReach : ByteArray := prog_1_method_3_code
def yX11_setReach : MethodName := ⟨RX11, "setReach", "(II)I"⟩
abbrev cX11_setCapacity : ByteArray := prog_1_method_4_code
def yX11_setCapacity : MethodName := ⟨RX11, "setCapacity", "(II)I"⟩
abbrev cX11_supply : ByteArray := prog_1_method_5_code
def yX11_supply : MethodName := ⟨RX11, "supply", "(I)I"⟩
abbrev cX11_zone : ByteArray := prog_1_method_6_code
def yX11_zone : MethodName := ⟨RX11, "zone", "(II)I"⟩
abbrev cX11_buffer : ByteArray := prog_1_method_7_code
def yX11_buffer : MethodName := ⟨RX11, "buffer", "(II)I"⟩
abbrev cX11_part : ByteArray := prog_1_method_8_code
def yX11_part : MethodName := ⟨RX11, "part", "(II)I"⟩
abbrev cX11_give : ByteArray := prog_1_method_9_code
def yX11_give : MethodName := ⟨RX11, "give", "(IIIIII)I"⟩
abbrev cX11_withdraw : ByteArray := prog_1_method_10_code
def yX11_withdraw : MethodName := ⟨RX11, "withdraw", "(I)I"⟩
abbrev cX11_job : ByteArray := prog_1_method_11_code
def yX11_job : MethodName := ⟨RX11, "job", "(II)I"⟩
abbrev cX11_arm : ByteArray := prog_1_method_12_code
def yX11_arm : MethodName := ⟨RX11, "arm", "(II)I"⟩
abbrev cX11_waiting : ByteArray := prog_1_method_13_code
def yX11_waiting : MethodName := ⟨RX11, "waiting", "(II)I"⟩
abbrev cX11_tick : ByteArray := prog_1_method_14_code
def yX11_tick : MethodName := ⟨RX11, "tick", "(I)I"⟩
abbrev cX11_reason : ByteArray := prog_1_method_15_code
def yX11_reason : MethodName := ⟨RX11, "reason", "(IZ)I"⟩
abbrev cX11_wouldBe : ByteArray := prog_1_method_16_code
def yX11_wouldBe : MethodName := ⟨RX11, "wouldBe", "(I)I"⟩
abbrev cX11_endsAfter : ByteArray := prog_1_method_17_code
def yX11_endsAfter : MethodName := ⟨RX11, "endsAfter", "(I)I"⟩
abbrev cX11_idleAfter : ByteArray := prog_1_method_18_code
def yX11_idleAfter : MethodName := ⟨RX11, "idleAfter", "()I"⟩
abbrev cX11_isSafe : ByteArray := prog_1_method_19_code
def yX11_isSafe : MethodName := ⟨RX11, "isSafe", "()Z"⟩
abbrev cX11_entry : ByteArray := prog_1_method_20_code
def yX11_entry : MethodName := ⟨RX11, "entry", "(II)I"⟩
abbrev cX11_account : ByteArray := prog_1_method_21_code
def yX11_account : MethodName := ⟨RX11, "account", "(I)I"⟩
abbrev cX11_use : ByteArray := prog_1_method_22_code
def yX11_use : MethodName := ⟨RX11, "use", "(I)F"⟩
abbrev cX11_meanDuration : ByteArray := prog_1_method_23_code
def yX11_meanDuration : MethodName := ⟨RX11, "meanDuration", "()D"⟩
abbrev cX11_feed : ByteArray := prog_1_method_24_code
def yX11_feed : MethodName := ⟨RX11, "feed", "(C)I"⟩
abbrev cX11_perform : ByteArray := prog_1_method_25_code
def yX11_perform : MethodName := ⟨RX11, "perform", "()I"⟩
abbrev cX11_undo : ByteArray := prog_1_method_26_code
def yX11_undo : MethodName := ⟨RX11, "undo", "()I"⟩
abbrev cX11_save : ByteArray := prog_1_method_27_code
def yX11_save : MethodName := ⟨RX11, "save", "()I"⟩
abbrev cX11_restore : ByteArray := prog_1_method_28_code
def yX11_restore : MethodName := ⟨RX11, "restore", "()I"⟩
abbrev cX11_carryOut : ByteArray := prog_1_method_29_code
def yX11_carryOut : MethodName := ⟨RX11, "carryOut", "(LRobotCell$Command;)Z"⟩
abbrev cX11_needJob : ByteArray := prog_1_method_30_code
def yX11_needJob : MethodName := ⟨RX11, "needJob", "(I)V"⟩
abbrev cX11_needArm : ByteArray := prog_1_method_31_code
def yX11_needArm : MethodName := ⟨RX11, "needArm", "(I)V"⟩
abbrev cX11_needBuffer : ByteArray := prog_1_method_32_code
def yX11_needBuffer : MethodName := ⟨RX11, "needBuffer", "(I)V"⟩
abbrev cX11_need : ByteArray := prog_1_method_33_code
def yX11_need : MethodName := ⟨RX11, "need", "(II)V"⟩
abbrev cX11_throwFor : ByteArray := prog_1_method_34_code
def yX11_throwFor : MethodName := ⟨RX11, "throwFor", "(I)V"⟩
abbrev cX11_isWithin : ByteArray := prog_1_method_35_code
def yX11_isWithin : MethodName := ⟨RX11, "isWithin", "(III)Z"⟩
abbrev cX11_copyNumbers : ByteArray := prog_1_method_36_code
def yX11_copyNumbers : MethodName := ⟨RX11, "copyNumbers", "([I[I)V"⟩
def RX12 : String := "RobotCellModel"
def TX12 : u_T := fun k => match k with
  | 0 => ("RobotCellModel", "thrown", "I", false)
  | 1 => ("RobotCellModel", "interlock", "[I", true)
  | 2 => ("RobotCellModel", "heldTicks", "[I", true)
  | 3 => ("RobotCellModel", "capacity", "[I", true)
  | 4 => ("RobotCellModel", "partMany", "[I", true)
  | 5 => ("RobotCellModel", "parts", "[I", true)
  | 6 => ("RobotCellModel", "promisedPlaces", "[I", true)
  | 7 => ("RobotCellModel", "promisedParts", "[I", true)
  | 8 => ("RobotCellModel", "came", "[I", true)
  | 9 => ("RobotCellModel", "gone", "[I", true)
  | 10 => ("RobotCellModel", "reach", "[I", true)
  | 11 => ("RobotCellModel", "rowMany", "[I", true)
  | 12 => ("RobotCellModel", "row", "[I", true)
  | 13 => ("RobotCellModel", "active", "[I", true)
  | 14 => ("RobotCellModel", "state", "[I", true)
  | 15 => ("RobotCellModel", "pos", "[I", true)
  | 16 => ("RobotCellModel", "toGo", "[I", true)
  | 17 => ("RobotCellModel", "patience", "[I", true)
  | 18 => ("RobotCellModel", "why", "[I", true)
  | 19 => ("RobotCellModel", "detail", "[I", true)
  | 20 => ("RobotCellModel", "refusals", "[I", true)
  | 21 => ("RobotCellModel", "busy", "[I", true)
  | 22 => ("RobotCellModel", "jobArm", "[I", true)
  | 23 => ("RobotCellModel", "jobPath", "[I", true)
  | 24 => ("RobotCellModel", "jobSize", "[I", true)
  | 25 => ("RobotCellModel", "jobWork", "[I", true)
  | 26 => ("RobotCellModel", "jobWeight", "[I", true)
  | 27 => ("RobotCellModel", "jobSource", "[I", true)
  | 28 => ("RobotCellModel", "jobTarget", "[I", true)
  | 29 => ("RobotCellModel", "jobState", "[I", true)
  | 30 => ("RobotCellModel", "startedAt", "[I", true)
  | 31 => ("RobotCellModel", "endedAt", "[I", true)
  | 32 => ("RobotCellModel", "log", "[I", true)
  | 33 => ("RobotCellModel", "time", "I", false)
  | 34 => ("RobotCellModel", "jobs", "I", false)
  | 35 => ("RobotCellModel", "newParts", "I", false)
  | 36 => ("RobotCellModel", "lostParts", "I", false)
  | 37 => ("RobotCellModel", "ended", "I", false)
  | 38 => ("RobotCellModel", "withdrawn", "I", false)
  | 39 => ("RobotCellModel", "durations", "I", false)
  | 40 => ("RobotCellModel", "logMany", "I", false)
  | 41 => ("RobotCellModel", "heldBy", "[I", true)
  | 42 => ("RobotCellModel", "jobOf", "[I", true)
  | 43 => ("RobotCellModel", "firstOf", "[I", true)
  | 44 => ("RobotCellModel", "reasonNow", "I", false)
  | 45 => ("RobotCellModel", "detailNow", "I", false)
  | 46 => ("RobotCellModel", "isRefusedNow", "Z", false)
  | 47 => ("RobotCellModel", "turn", "[I", true)
  | 48 => ("RobotCellModel", "text", "[I", true)
  | 49 => ("RobotCellModel", "kind", "[I", true)
  | 50 => ("RobotCellModel", "number", "[I", true)
  | 51 => ("RobotCellModel", "length", "I", false)
  | 52 => ("RobotCellModel", "at", "I", false)
  | 53 => ("RobotCellModel", "commands", "I", false)
  | 54 => ("RobotCellModel", "digit", "I", false)
  | 55 => ("RobotCellModel", "earlier", "[I", true)
  | 56 => ("RobotCellModel", "saved", "[I", true)
  | 57 => ("RobotCellModel", "scratch", "[I", true)
  | 58 => ("RobotCellModel", "undone", "[I", true)
  | 59 => ("RobotCellModel", "changes", "I", false)
  | 60 => ("RobotCellModel", "cursor", "I", false)
  | 61 => ("RobotCellModel", "isSaved", "Z", false)
  | _ => ("RobotCellModel", "isKeeping", "Z", false)
def tyX12 : Nat → FieldType := fun k => match k with
  | 0 => .int
  | 1 => .array .int
  | 2 => .array .int
  | 3 => .array .int
  | 4 => .array .int
  | 5 => .array .int
  | 6 => .array .int
  | 7 => .array .int
  | 8 => .array .int
  | 9 => .array .int
  | 10 => .array .int
  | 11 => .array .int
  | 12 => .array .int
  | 13 => .array .int
  | 14 => .array .int
  | 15 => .array .int
  | 16 => .array .int
  | 17 => .array .int
  | 18 => .array .int
  | 19 => .array .int
  | 20 => .array .int
  | 21 => .array .int
  | 22 => .array .int
  | 23 => .array .int
  | 24 => .array .int
  | 25 => .array .int
  | 26 => .array .int
  | 27 => .array .int
  | 28 => .array .int
  | 29 => .array .int
  | 30 => .array .int
  | 31 => .array .int
  | 32 => .array .int
  | 33 => .int
  | 34 => .int
  | 35 => .int
  | 36 => .int
  | 37 => .int
  | 38 => .int
  | 39 => .int
  | 40 => .int
  | 41 => .array .int
  | 42 => .array .int
  | 43 => .array .int
  | 44 => .int
  | 45 => .int
  | 46 => .boolean
  | 47 => .array .int
  | 48 => .array .int
  | 49 => .array .int
  | 50 => .array .int
  | 51 => .int
  | 52 => .int
  | 53 => .int
  | 54 => .int
  | 55 => .array .int
  | 56 => .array .int
  | 57 => .array .int
  | 58 => .array .int
  | 59 => .int
  | 60 => .int
  | 61 => .boolean
  | _ => .boolean
abbrev wsX120 : List Cond := u_ws RX12 TX12 63
theorem nmX12 : ∀ a, a < 63 → ∀ b, b < 63 → a ≠ b → (TX12 a).2.1 ≠ (TX12 b).2.1 := by decide +kernel
theorem tyX12_ok : ∀ k, k < 63 → parseFieldDescriptor (TX12 k).2.2.1 = some (tyX12 k) := by decide +kernel
abbrev cX12_init : ByteArray := prog_14_method_1_code
def yX12_init : MethodName := ⟨RX12, "<init>", "()V"⟩
abbrev cX12_thrown : ByteArray := prog_14_method_2_code
def yX12_thrown : MethodName := ⟨RX12, "thrown", "()I"⟩
abbrev cX12_fails : ByteArray := prog_14_method_3_code
def yX12_fails : MethodName := ⟨RX12, "fails", "(I)I"⟩
abbrev cX12_isBetween : ByteArray := prog_14_method_5_code
def yX12_isBetween : MethodName := ⟨RX12, "isBetween", "(III)Z"⟩
abbrev cX12_isZone : ByteArray := prog_14_method_6_code
def yX12_isZone : MethodName := ⟨RX12, "isZone", "(I)Z"⟩
abbrev cX12_isArm : ByteArray := prog_14_method_7_code
def yX12_isArm : MethodName := ⟨RX12, "isArm", "(I)Z"⟩
abbrev cX12_isBuffer : ByteArray := prog_14_method_8_code
def yX12_isBuffer : MethodName := ⟨RX12, "isBuffer", "(I)Z"⟩
abbrev cX12_has : ByteArray := prog_14_method_9_code
def yX12_has : MethodName := ⟨RX12, "has", "(II)Z"⟩
abbrev cX12_zoneAt : ByteArray := prog_14_method_10_code
def yX12_zoneAt : MethodName := ⟨RX12, "zoneAt", "(II)I"⟩
abbrev cX12_zoneOf : ByteArray := prog_14_method_11_code
def yX12_zoneOf : MethodName := ⟨RX12, "zoneOf", "(I)I"⟩
abbrev cX12_holds : ByteArray := prog_14_method_12_code
def yX12_holds : MethodName := ⟨RX12, "holds", "(I)I"⟩
abbrev cX12_conflicts : ByteArray := prog_14_method_13_code
def yX12_conflicts : MethodName := ⟨RX12, "conflicts", "(I)I"⟩
abbrev cX12_notes : ByteArray := prog_14_method_14_code
def yX12_notes : MethodName := ⟨RX12, "notes", "(III)V"⟩
abbrev cX12_findNow : ByteArray := prog_14_method_15_code
def yX12_findNow : MethodName := ⟨RX12, "findNow", "()V"⟩
abbrev cX12_canFinish : ByteArray := prog_14_method_16_code
def yX12_canFinish : MethodName := ⟨RX12, "canFinish", "(I)Z"⟩
abbrev cX12_findStuck : ByteArray := prog_14_method_17_code
def yX12_findStuck : MethodName := ⟨RX12, "findStuck", "()I"⟩
abbrev cX12_reasons : ByteArray := prog_14_method_18_code
def yX12_reasons : MethodName := ⟨RX12, "reasons", "(II)I"⟩
abbrev cX12_answers : ByteArray := prog_14_method_19_code
def yX12_answers : MethodName := ⟨RX12, "answers", "(IIIZ)I"⟩
abbrev cX12_isGranted : ByteArray := prog_14_method_20_code
def yX12_isGranted : MethodName := ⟨RX12, "isGranted", "(IIIZ)Z"⟩
abbrev cX12_starts : ByteArray := prog_14_method_21_code
def yX12_starts : MethodName := ⟨RX12, "starts", "(I)V"⟩
abbrev cX12_works : ByteArray := prog_14_method_22_code
def yX12_works : MethodName := ⟨RX12, "works", "(II)V"⟩
abbrev cX12_isBeside : ByteArray := prog_14_method_23_code
def yX12_isBeside : MethodName := ⟨RX12, "isBeside", "(II)Z"⟩
abbrev cX12_requestsNext : ByteArray := prog_14_method_24_code
def yX12_requestsNext : MethodName := ⟨RX12, "requestsNext", "(I)V"⟩
abbrev cX12_firstPartOf : ByteArray := prog_14_method_25_code
def yX12_firstPartOf : MethodName := ⟨RX12, "firstPartOf", "(I)I"⟩
abbrev cX12_comesPart : ByteArray := prog_14_method_26_code
def yX12_comesPart : MethodName := ⟨RX12, "comesPart", "(II)V"⟩
abbrev cX12_ends : ByteArray := prog_14_method_27_code
def yX12_ends : MethodName := ⟨RX12, "ends", "(I)V"⟩
abbrev cX12_acts : ByteArray := prog_14_method_28_code
def yX12_acts : MethodName := ⟨RX12, "acts", "(I)V"⟩
abbrev cX12_findTurns : ByteArray := prog_14_method_29_code
def yX12_findTurns : MethodName := ⟨RX12, "findTurns", "()V"⟩
abbrev cX12_ticks : ByteArray := prog_14_method_30_code
def yX12_ticks : MethodName := ⟨RX12, "ticks", "()V"⟩
abbrev cX12_holderOf : ByteArray := prog_14_method_31_code
def yX12_holderOf : MethodName := ⟨RX12, "holderOf", "(I)I"⟩
abbrev cX12_locks : ByteArray := prog_14_method_32_code
def yX12_locks : MethodName := ⟨RX12, "locks", "(IIZ)V"⟩
abbrev cX12_notLocked : ByteArray := prog_14_method_33_code
def yX12_notLocked : MethodName := ⟨RX12, "notLocked", "(IIZ)I"⟩
abbrev cX12_setInterlock : ByteArray := prog_14_method_34_code
def yX12_setInterlock : MethodName := ⟨RX12, "setInterlock", "(IIZ)Z"⟩
abbrev cX12_setReach : ByteArray := prog_14_method_35_code
def yX12_setReach : MethodName := ⟨RX12, "setReach", "(II)I"⟩
abbrev cX12_setCapacity : ByteArray := prog_14_method_36_code
def yX12_setCapacity : MethodName := ⟨RX12, "setCapacity", "(II)I"⟩
abbrev cX12_supply : ByteArray := prog_14_method_37_code
def yX12_supply : MethodName := ⟨RX12, "supply", "(I)I"⟩
abbrev cX12_zone : ByteArray := prog_14_method_38_code
def yX12_zone : MethodName := ⟨RX12, "zone", "(II)I"⟩
abbrev cX12_buffer : ByteArray := prog_14_method_39_code
def yX12_buffer : MethodName := ⟨RX12, "buffer", "(II)I"⟩
abbrev cX12_part : ByteArray := prog_14_method_40_code
def yX12_part : MethodName := ⟨RX12, "part", "(II)I"⟩
abbrev cX12_digitsOf : ByteArray := prog_14_method_41_code
def yX12_digitsOf : MethodName := ⟨RX12, "digitsOf", "(I)I"⟩
abbrev cX12_setOf : ByteArray := prog_14_method_42_code
def yX12_setOf : MethodName := ⟨RX12, "setOf", "(I)I"⟩
abbrev cX12_notGiven : ByteArray := prog_14_method_43_code
def yX12_notGiven : MethodName := ⟨RX12, "notGiven", "(IIIIII)I"⟩
abbrev cX12_gives : ByteArray := prog_14_method_44_code
def yX12_gives : MethodName := ⟨RX12, "gives", "(IIIIII)V"⟩
abbrev cX12_give : ByteArray := prog_14_method_45_code
def yX12_give : MethodName := ⟨RX12, "give", "(IIIIII)I"⟩
abbrev cX12_withdraw : ByteArray := prog_14_method_46_code
def yX12_withdraw : MethodName := ⟨RX12, "withdraw", "(I)I"⟩
abbrev cX12_isJob : ByteArray := prog_14_method_47_code
def yX12_isJob : MethodName := ⟨RX12, "isJob", "(I)Z"⟩
abbrev cX12_job : ByteArray := prog_14_method_48_code
def yX12_job : MethodName := ⟨RX12, "job", "(II)I"⟩
abbrev cX12_arm : ByteArray := prog_14_method_49_code
def yX12_arm : MethodName := ⟨RX12, "arm", "(II)I"⟩
abbrev cX12_waiting : ByteArray := prog_14_method_50_code
def yX12_waiting : MethodName := ⟨RX12, "waiting", "(II)I"⟩
abbrev cX12_tick : ByteArray := prog_14_method_51_code
def yX12_tick : MethodName := ⟨RX12, "tick", "(I)I"⟩
abbrev cX12_reason : ByteArray := prog_14_method_52_code
def yX12_reason : MethodName := ⟨RX12, "reason", "(IZ)I"⟩
abbrev cX12_wouldBe : ByteArray := prog_14_method_53_code
def yX12_wouldBe : MethodName := ⟨RX12, "wouldBe", "(I)I"⟩
abbrev cX12_isQuiet : ByteArray := prog_14_method_54_code
def yX12_isQuiet : MethodName := ⟨RX12, "isQuiet", "()Z"⟩
abbrev cX12_findsEnd : ByteArray := prog_14_method_55_code
def yX12_findsEnd : MethodName := ⟨RX12, "findsEnd", "(I)I"⟩
abbrev cX12_endsAfter : ByteArray := prog_14_method_56_code
def yX12_endsAfter : MethodName := ⟨RX12, "endsAfter", "(I)I"⟩
abbrev cX12_idleAfter : ByteArray := prog_14_method_57_code
def yX12_idleAfter : MethodName := ⟨RX12, "idleAfter", "()I"⟩
abbrev cX12_isSafe : ByteArray := prog_14_method_58_code
def yX12_isSafe : MethodName := ⟨RX12, "isSafe", "()Z"⟩
abbrev cX12_entry : ByteArray := prog_14_method_59_code
def yX12_entry : MethodName := ⟨RX12, "entry", "(II)I"⟩
abbrev cX12_sum : ByteArray := prog_14_method_60_code
def yX12_sum : MethodName := ⟨RX12, "sum", "([I)I"⟩
abbrev cX12_interlocks : ByteArray := prog_14_method_61_code
def yX12_interlocks : MethodName := ⟨RX12, "interlocks", "()I"⟩
abbrev cX12_account : ByteArray := prog_14_method_62_code
def yX12_account : MethodName := ⟨RX12, "account", "(I)I"⟩
abbrev cX12_use : ByteArray := prog_14_method_63_code
def yX12_use : MethodName := ⟨RX12, "use", "(I)F"⟩
abbrev cX12_meanDuration : ByteArray := prog_14_method_64_code
def yX12_meanDuration : MethodName := ⟨RX12, "meanDuration", "()D"⟩
abbrev cX12_feed : ByteArray := prog_14_method_65_code
def yX12_feed : MethodName := ⟨RX12, "feed", "(C)I"⟩
abbrev cX12_skips : ByteArray := prog_14_method_66_code
def yX12_skips : MethodName := ⟨RX12, "skips", "(I)Z"⟩
abbrev cX12_takes : ByteArray := prog_14_method_67_code
def yX12_takes : MethodName := ⟨RX12, "takes", "()Z"⟩
abbrev cX12_takesAt : ByteArray := prog_14_method_68_code
def yX12_takesAt : MethodName := ⟨RX12, "takesAt", "(I)Z"⟩
abbrev cX12_takesPath : ByteArray := prog_14_method_69_code
def yX12_takesPath : MethodName := ⟨RX12, "takesPath", "()Z"⟩
abbrev cX12_takesJob : ByteArray := prog_14_method_70_code
def yX12_takesJob : MethodName := ⟨RX12, "takesJob", "()Z"⟩
abbrev cX12_takesTicks : ByteArray := prog_14_method_71_code
def yX12_takesTicks : MethodName := ⟨RX12, "takesTicks", "()Z"⟩
abbrev cX12_takesCommand : ByteArray := prog_14_method_72_code
def yX12_takesCommand : MethodName := ⟨RX12, "takesCommand", "()Z"⟩
abbrev cX12_takesText : ByteArray := prog_14_method_73_code
def yX12_takesText : MethodName := ⟨RX12, "takesText", "()Z"⟩
abbrev cX12_does : ByteArray := prog_14_method_74_code
def yX12_does : MethodName := ⟨RX12, "does", "(I)Z"⟩
abbrev cX12_perform : ByteArray := prog_14_method_75_code
def yX12_perform : MethodName := ⟨RX12, "perform", "()I"⟩
abbrev cX12_passes : ByteArray := prog_14_method_76_code
def yX12_passes : MethodName := ⟨RX12, "passes", "([I[I)V"⟩
abbrev cX12_pass : ByteArray := prog_14_method_77_code
def yX12_pass : MethodName := ⟨RX12, "pass", "(I[I)I"⟩
abbrev cX12_passArms : ByteArray := prog_14_method_78_code
def yX12_passArms : MethodName := ⟨RX12, "passArms", "([I)V"⟩
abbrev cX12_passJobs : ByteArray := prog_14_method_79_code
def yX12_passJobs : MethodName := ⟨RX12, "passJobs", "([I)V"⟩
abbrev cX12_passAll : ByteArray := prog_14_method_80_code
def yX12_passAll : MethodName := ⟨RX12, "passAll", "([IIZ)V"⟩
abbrev cX12_remembers : ByteArray := prog_14_method_81_code
def yX12_remembers : MethodName := ⟨RX12, "remembers", "()V"⟩
abbrev cX12_undo : ByteArray := prog_14_method_82_code
def yX12_undo : MethodName := ⟨RX12, "undo", "()I"⟩
abbrev cX12_save : ByteArray := prog_14_method_83_code
def yX12_save : MethodName := ⟨RX12, "save", "()I"⟩
abbrev cX12_restore : ByteArray := prog_14_method_84_code
def yX12_restore : MethodName := ⟨RX12, "restore", "()I"⟩
def RJx00060 : String := "java/lang/ArrayIndexOutOfBoundsException"
def TJx00060 : u_T := fun k => match k with
  | 0 => ("java/lang/Throwable", "backtrace", "Ljava/lang/Object;", false)
  | 1 => ("java/lang/Throwable", "detailMessage", "Ljava/lang/String;", false)
  | 2 => ("java/lang/Throwable", "cause", "Ljava/lang/Throwable;", false)
  | 3 => ("java/lang/Throwable", "stackTrace", "[Ljava/lang/StackTraceElement;", false)
  | 4 => ("java/lang/Throwable", "depth", "I", false)
  | _ => ("java/lang/Throwable", "suppressedExceptions", "Ljava/util/List;", false)
def tyJx00060 : Nat → FieldType := fun k => match k with
  | 0 => .object "java/lang/Object"
  | 1 => .object "java/lang/String"
  | 2 => .object "java/lang/Throwable"
  | 3 => .array (.object "java/lang/StackTraceElement")
  | 4 => .int
  | _ => .object "java/util/List"
abbrev wsJx000600 : List Cond := u_ws RJx00060 TJx00060 6
theorem nmJx00060 : ∀ a, a < 6 → ∀ b, b < 6 → a ≠ b → (TJx00060 a).2.1 ≠ (TJx00060 b).2.1 := by decide +kernel
theorem tyJx00060_ok : ∀ k, k < 6 → parseFieldDescriptor (TJx00060 k).2.2.1 = some (tyJx00060 k) := by decide +kernel
abbrev cJx00060_init_a7421 : ByteArray := prog_16_method_2_code
def yJx00060_init_a7421 : MethodName := ⟨RJx00060, "<init>", "(Ljava/lang/String;)V"⟩
def RJ0 : String := "java/lang/String"
def TJ0 : u_T := fun k => match k with
  | 0 => ("java/lang/String", "value", "[B", true)
  | _ => ("java/lang/String", "coder", "B", true)
def tyJ0 : Nat → FieldType := fun k => match k with
  | 0 => .array .byte
  | _ => .byte
abbrev wsJ00 : List Cond := u_ws RJ0 TJ0 2
theorem nmJ0 : ∀ a, a < 2 → ∀ b, b < 2 → a ≠ b → (TJ0 a).2.1 ≠ (TJ0 b).2.1 := by decide +kernel
theorem tyJ0_ok : ∀ k, k < 2 → parseFieldDescriptor (TJ0 k).2.2.1 = some (tyJ0 k) := by decide +kernel
def RL : String := "RobotCellLaw"
abbrev cL_setInterlock : ByteArray := method_3_code
def yL_setInterlock : MethodName := ⟨RL, "setInterlock", "(LRobotCell;IIZ[J)I"⟩
abbrev cL_setReach : ByteArray := method_4_code
def yL_setReach : MethodName := ⟨RL, "setReach", "(LRobotCell;II[J)I"⟩
abbrev cL_setCapacity : ByteArray := method_5_code
def yL_setCapacity : MethodName := ⟨RL, "setCapacity", "(LRobotCell;II[J)I"⟩
abbrev cL_supply : ByteArray := method_6_code
def yL_supply : MethodName := ⟨RL, "supply", "(LRobotCell;I[J)I"⟩
abbrev cL_zone : ByteArray := method_7_code
def yL_zone : MethodName := ⟨RL, "zone", "(LRobotCell;II[J)I"⟩
abbrev cL_buffer : ByteArray := method_8_code
def yL_buffer : MethodName := ⟨RL, "buffer", "(LRobotCell;II[J)I"⟩
abbrev cL_part : ByteArray := method_9_code
def yL_part : MethodName := ⟨RL, "part", "(LRobotCell;II[J)I"⟩
abbrev cL_give : ByteArray := method_10_code
def yL_give : MethodName := ⟨RL, "give", "(LRobotCell;IIIIII[J)I"⟩
abbrev cL_withdraw : ByteArray := method_11_code
def yL_withdraw : MethodName := ⟨RL, "withdraw", "(LRobotCell;I[J)I"⟩
abbrev cL_job : ByteArray := method_12_code
def yL_job : MethodName := ⟨RL, "job", "(LRobotCell;II[J)I"⟩
abbrev cL_arm : ByteArray := method_13_code
def yL_arm : MethodName := ⟨RL, "arm", "(LRobotCell;II[J)I"⟩
abbrev cL_waiting : ByteArray := method_14_code
def yL_waiting : MethodName := ⟨RL, "waiting", "(LRobotCell;II[J)I"⟩
abbrev cL_tick : ByteArray := method_15_code
def yL_tick : MethodName := ⟨RL, "tick", "(LRobotCell;I[J)I"⟩
abbrev cL_reason : ByteArray := method_16_code
def yL_reason : MethodName := ⟨RL, "reason", "(LRobotCell;IZ[J)I"⟩
abbrev cL_wouldBe : ByteArray := method_17_code
def yL_wouldBe : MethodName := ⟨RL, "wouldBe", "(LRobotCell;I[J)I"⟩
abbrev cL_endsAfter : ByteArray := method_18_code
def yL_endsAfter : MethodName := ⟨RL, "endsAfter", "(LRobotCell;I[J)I"⟩
abbrev cL_idleAfter : ByteArray := method_19_code
def yL_idleAfter : MethodName := ⟨RL, "idleAfter", "(LRobotCell;[J)I"⟩
abbrev cL_entry : ByteArray := method_20_code
def yL_entry : MethodName := ⟨RL, "entry", "(LRobotCell;II[J)I"⟩
abbrev cL_account : ByteArray := method_21_code
def yL_account : MethodName := ⟨RL, "account", "(LRobotCell;I[J)I"⟩
abbrev cL_use : ByteArray := method_22_code
def yL_use : MethodName := ⟨RL, "use", "(LRobotCell;I[D)I"⟩
abbrev cL_meanDuration : ByteArray := method_23_code
def yL_meanDuration : MethodName := ⟨RL, "meanDuration", "(LRobotCell;[D)I"⟩
abbrev cL_feed : ByteArray := method_24_code
def yL_feed : MethodName := ⟨RL, "feed", "(LRobotCell;C[J)I"⟩
abbrev cL_perform : ByteArray := method_25_code
def yL_perform : MethodName := ⟨RL, "perform", "(LRobotCell;[J)I"⟩
abbrev cL_undo : ByteArray := method_26_code
def yL_undo : MethodName := ⟨RL, "undo", "(LRobotCell;[J)I"⟩
abbrev cL_restore : ByteArray := method_27_code
def yL_restore : MethodName := ⟨RL, "restore", "(LRobotCell;[J)I"⟩
abbrev cL_law : ByteArray := code
def yL_law : MethodName := ⟨RL, "law", "([I)Z"⟩
abbrev vwCl : List vw_C := [(RJ0, TJ0, 2), (RJx00060, TJx00060, 6), (RX0, TX0, 14), (RX1, TX1, 15), (RX2, TX2, 10), (RX3, TX3, 7), (RX4, TX4, 4), (RX5, TX5, 10), (RX6, TX6, 4), (RX7, TX7, 2), (RX8, TX8, 2), (RX9, TX9, 7), (RX10, TX10, 3), (RX11, TX11, 7), (RX12, TX12, 63)]
