section
-- ===== PART A: goes FIRST, ahead of the names: the tables' words, and 'selects' of the private methods out of them =====
/-- a private method of a class that the tables say can be made, by its rows of tables_1 -/
def lw_okq (q : MethodName × Nat) : Prop := (q.1.cls ≠ "java/lang/invoke/MethodHandle" ∧ q.1.cls ≠ "java/lang/invoke/VarHandle") ∧ Cond.instantiable q.1.cls q.2 ∈ tables_1 ∧ Cond.privateMethod q.1 ∈ tables_1 ∧ Cond.instanceMethod q.1 ∈ tables_1
theorem lw_p0 : lw_okq (⟨"BellCores$Pouring", "weighWhatIsLeft", "()V"⟩, 7) := ⟨⟨by decide +kernel, by decide +kernel⟩, List.mem_of_getElem? (i := 180) (by decide +kernel), List.mem_of_getElem? (i := 295) (by decide +kernel), List.mem_of_getElem? (i := 296) (by decide +kernel)⟩
theorem lw_p1 : lw_okq (⟨"BellCores$Pouring", "countBehind", "()V"⟩, 7) := ⟨⟨by decide +kernel, by decide +kernel⟩, List.mem_of_getElem? (i := 180) (by decide +kernel), List.mem_of_getElem? (i := 307) (by decide +kernel), List.mem_of_getElem? (i := 308) (by decide +kernel)⟩
theorem lw_p2 : lw_okq (⟨"BellCores$Pouring", "pouredWithNext", "(II)I"⟩, 7) := ⟨⟨by decide +kernel, by decide +kernel⟩, List.mem_of_getElem? (i := 180) (by decide +kernel), List.mem_of_getElem? (i := 311) (by decide +kernel), List.mem_of_getElem? (i := 312) (by decide +kernel)⟩
theorem lw_p3 : lw_okq (⟨"BellCores$Pouring", "hottestBut", "(I)I"⟩, 7) := ⟨⟨by decide +kernel, by decide +kernel⟩, List.mem_of_getElem? (i := 180) (by decide +kernel), List.mem_of_getElem? (i := 326) (by decide +kernel), List.mem_of_getElem? (i := 327) (by decide +kernel)⟩
theorem lw_p4 : lw_okq (⟨"BellCores", "arePealsAlike", "()Z"⟩, 10) := ⟨⟨by decide +kernel, by decide +kernel⟩, List.mem_of_getElem? (i := 36) (by decide +kernel), List.mem_of_getElem? (i := 351) (by decide +kernel), List.mem_of_getElem? (i := 352) (by decide +kernel)⟩
theorem lw_p5 : lw_okq (⟨"BellCores$Foundry", "isHeard", "(I)Z"⟩, 10) := ⟨⟨by decide +kernel, by decide +kernel⟩, List.mem_of_getElem? (i := 44) (by decide +kernel), List.mem_of_getElem? (i := 373) (by decide +kernel), List.mem_of_getElem? (i := 374) (by decide +kernel)⟩
theorem lw_p6 : lw_okq (⟨"java/lang/Throwable", "fillInStackTrace", "(I)Ljava/lang/Throwable;"⟩, 6) := ⟨⟨by decide +kernel, by decide +kernel⟩, List.mem_of_getElem? (i := 466) (by decide +kernel), List.mem_of_getElem? (i := 464) (by decide +kernel), List.mem_of_getElem? (i := 465) (by decide +kernel)⟩
theorem lw_p7 : lw_okq (⟨"BellCores$Foundry", "lossOf", "(I)I"⟩, 10) := ⟨⟨by decide +kernel, by decide +kernel⟩, List.mem_of_getElem? (i := 44) (by decide +kernel), List.mem_of_getElem? (i := 726) (by decide +kernel), List.mem_of_getElem? (i := 727) (by decide +kernel)⟩
theorem lw_p8 : lw_okq (⟨"BellCores$Foundry", "cracksToCome", "(III)I"⟩, 10) := ⟨⟨by decide +kernel, by decide +kernel⟩, List.mem_of_getElem? (i := 44) (by decide +kernel), List.mem_of_getElem? (i := 731) (by decide +kernel), List.mem_of_getElem? (i := 732) (by decide +kernel)⟩
theorem lw_p9 : lw_okq (⟨"BellCores$Foundry", "addCracks", "(II)V"⟩, 10) := ⟨⟨by decide +kernel, by decide +kernel⟩, List.mem_of_getElem? (i := 44) (by decide +kernel), List.mem_of_getElem? (i := 738) (by decide +kernel), List.mem_of_getElem? (i := 739) (by decide +kernel)⟩
theorem lw_p10 : lw_okq (⟨"BellCores$Foundry", "backByRecast", "(I)I"⟩, 10) := ⟨⟨by decide +kernel, by decide +kernel⟩, List.mem_of_getElem? (i := 44) (by decide +kernel), List.mem_of_getElem? (i := 805) (by decide +kernel), List.mem_of_getElem? (i := 806) (by decide +kernel)⟩
theorem lw_p11 : lw_okq (⟨"BellCores$Foundry", "bellsAheadOf", "(I)I"⟩, 10) := ⟨⟨by decide +kernel, by decide +kernel⟩, List.mem_of_getElem? (i := 44) (by decide +kernel), List.mem_of_getElem? (i := 902) (by decide +kernel), List.mem_of_getElem? (i := 903) (by decide +kernel)⟩
theorem lw_p12 : lw_okq (⟨"BellCores", "writeBell", "(I)V"⟩, 10) := ⟨⟨by decide +kernel, by decide +kernel⟩, List.mem_of_getElem? (i := 36) (by decide +kernel), List.mem_of_getElem? (i := 926) (by decide +kernel), List.mem_of_getElem? (i := 927) (by decide +kernel)⟩
theorem lw_p13 : lw_okq (⟨"BellCores", "writeRack", "(I)V"⟩, 10) := ⟨⟨by decide +kernel, by decide +kernel⟩, List.mem_of_getElem? (i := 36) (by decide +kernel), List.mem_of_getElem? (i := 1214) (by decide +kernel), List.mem_of_getElem? (i := 1215) (by decide +kernel)⟩
theorem lw_p14 : lw_okq (⟨"BellCores$Text", "readOrder", "()Z"⟩, 4) := ⟨⟨by decide +kernel, by decide +kernel⟩, List.mem_of_getElem? (i := 146) (by decide +kernel), List.mem_of_getElem? (i := 1288) (by decide +kernel), List.mem_of_getElem? (i := 1289) (by decide +kernel)⟩
theorem lw_p15 : lw_okq (⟨"BellCores$Text", "next", "()I"⟩, 4) := ⟨⟨by decide +kernel, by decide +kernel⟩, List.mem_of_getElem? (i := 146) (by decide +kernel), List.mem_of_getElem? (i := 1292) (by decide +kernel), List.mem_of_getElem? (i := 1293) (by decide +kernel)⟩
def lw_privs_1 : List (MethodName × Nat) := [(⟨"BellCores$Pouring", "weighWhatIsLeft", "()V"⟩, 7), (⟨"BellCores$Pouring", "countBehind", "()V"⟩, 7), (⟨"BellCores$Pouring", "pouredWithNext", "(II)I"⟩, 7), (⟨"BellCores$Pouring", "hottestBut", "(I)I"⟩, 7), (⟨"BellCores", "arePealsAlike", "()Z"⟩, 10), (⟨"BellCores$Foundry", "isHeard", "(I)Z"⟩, 10), (⟨"java/lang/Throwable", "fillInStackTrace", "(I)Ljava/lang/Throwable;"⟩, 6), (⟨"BellCores$Foundry", "lossOf", "(I)I"⟩, 10), (⟨"BellCores$Foundry", "cracksToCome", "(III)I"⟩, 10), (⟨"BellCores$Foundry", "addCracks", "(II)V"⟩, 10), (⟨"BellCores$Foundry", "backByRecast", "(I)I"⟩, 10), (⟨"BellCores$Foundry", "bellsAheadOf", "(I)I"⟩, 10), (⟨"BellCores", "writeBell", "(I)V"⟩, 10), (⟨"BellCores", "writeRack", "(I)V"⟩, 10), (⟨"BellCores$Text", "readOrder", "()Z"⟩, 4), (⟨"BellCores$Text", "next", "()I"⟩, 4)]
theorem lw_r1 : ∀ q ∈ lw_privs_1, lw_okq q := List.forall_mem_cons.mpr ⟨lw_p0, List.forall_mem_cons.mpr ⟨lw_p1, List.forall_mem_cons.mpr ⟨lw_p2, List.forall_mem_cons.mpr ⟨lw_p3, List.forall_mem_cons.mpr ⟨lw_p4, List.forall_mem_cons.mpr ⟨lw_p5, List.forall_mem_cons.mpr ⟨lw_p6, List.forall_mem_cons.mpr ⟨lw_p7, List.forall_mem_cons.mpr ⟨lw_p8, List.forall_mem_cons.mpr ⟨lw_p9, List.forall_mem_cons.mpr ⟨lw_p10, List.forall_mem_cons.mpr ⟨lw_p11, List.forall_mem_cons.mpr ⟨lw_p12, List.forall_mem_cons.mpr ⟨lw_p13, List.forall_mem_cons.mpr ⟨lw_p14, List.forall_mem_cons.mpr ⟨lw_p15, fun _ h => absurd h List.not_mem_nil⟩⟩⟩⟩⟩⟩⟩⟩⟩⟩⟩⟩⟩⟩⟩⟩
theorem lw_p16 : lw_okq (⟨"BellCores$Text", "readNumber", "(I)I"⟩, 4) := ⟨⟨by decide +kernel, by decide +kernel⟩, List.mem_of_getElem? (i := 146) (by decide +kernel), List.mem_of_getElem? (i := 1296) (by decide +kernel), List.mem_of_getElem? (i := 1297) (by decide +kernel)⟩
theorem lw_p17 : lw_okq (⟨"BellCores$Text", "keep", "(III)Z"⟩, 4) := ⟨⟨by decide +kernel, by decide +kernel⟩, List.mem_of_getElem? (i := 146) (by decide +kernel), List.mem_of_getElem? (i := 1300) (by decide +kernel), List.mem_of_getElem? (i := 1301) (by decide +kernel)⟩
theorem lw_p18 : lw_okq (⟨"BellCores$Text", "readPair", "(IIC)Z"⟩, 4) := ⟨⟨by decide +kernel, by decide +kernel⟩, List.mem_of_getElem? (i := 146) (by decide +kernel), List.mem_of_getElem? (i := 1306) (by decide +kernel), List.mem_of_getElem? (i := 1307) (by decide +kernel)⟩
theorem lw_p19 : lw_okq (⟨"BellCores$Text", "skip", "(C)Z"⟩, 4) := ⟨⟨by decide +kernel, by decide +kernel⟩, List.mem_of_getElem? (i := 146) (by decide +kernel), List.mem_of_getElem? (i := 1310) (by decide +kernel), List.mem_of_getElem? (i := 1311) (by decide +kernel)⟩
theorem lw_p20 : lw_okq (⟨"BellCores", "tryOrders", "()LBellCores$Outcome;"⟩, 10) := ⟨⟨by decide +kernel, by decide +kernel⟩, List.mem_of_getElem? (i := 36) (by decide +kernel), List.mem_of_getElem? (i := 1319) (by decide +kernel), List.mem_of_getElem? (i := 1320) (by decide +kernel)⟩
theorem lw_p21 : lw_okq (⟨"BellCores", "judge", "(III)LBellCores$Outcome;"⟩, 10) := ⟨⟨by decide +kernel, by decide +kernel⟩, List.mem_of_getElem? (i := 36) (by decide +kernel), List.mem_of_getElem? (i := 1323) (by decide +kernel), List.mem_of_getElem? (i := 1324) (by decide +kernel)⟩
theorem lw_p22 : lw_okq (⟨"BellCores", "isPossible", "(III)Z"⟩, 10) := ⟨⟨by decide +kernel, by decide +kernel⟩, List.mem_of_getElem? (i := 36) (by decide +kernel), List.mem_of_getElem? (i := 1327) (by decide +kernel), List.mem_of_getElem? (i := 1328) (by decide +kernel)⟩
theorem lw_p23 : lw_okq (⟨"BellCores", "isRefused", "(III)Z"⟩, 10) := ⟨⟨by decide +kernel, by decide +kernel⟩, List.mem_of_getElem? (i := 36) (by decide +kernel), List.mem_of_getElem? (i := 1333) (by decide +kernel), List.mem_of_getElem? (i := 1334) (by decide +kernel)⟩
theorem lw_p24 : lw_okq (⟨"BellCores", "carryOut", "(III)V"⟩, 10) := ⟨⟨by decide +kernel, by decide +kernel⟩, List.mem_of_getElem? (i := 36) (by decide +kernel), List.mem_of_getElem? (i := 1341) (by decide +kernel), List.mem_of_getElem? (i := 1342) (by decide +kernel)⟩
theorem lw_p25 : lw_okq (⟨"BellCores$Foundry", "soundInHall", "()I"⟩, 10) := ⟨⟨by decide +kernel, by decide +kernel⟩, List.mem_of_getElem? (i := 44) (by decide +kernel), List.mem_of_getElem? (i := 1371) (by decide +kernel), List.mem_of_getElem? (i := 1372) (by decide +kernel)⟩
theorem lw_p26 : lw_okq (⟨"BellCoresModel", "fails", "(I)Z"⟩, 19) := ⟨⟨by decide +kernel, by decide +kernel⟩, List.mem_of_getElem? (i := 1435) (by decide +kernel), List.mem_of_getElem? (i := 1510) (by decide +kernel), List.mem_of_getElem? (i := 1511) (by decide +kernel)⟩
theorem lw_p27 : lw_okq (⟨"BellCoresModel", "keeps", "([I)V"⟩, 19) := ⟨⟨by decide +kernel, by decide +kernel⟩, List.mem_of_getElem? (i := 1435) (by decide +kernel), List.mem_of_getElem? (i := 1514) (by decide +kernel), List.mem_of_getElem? (i := 1515) (by decide +kernel)⟩
theorem lw_p28 : lw_okq (⟨"BellCoresModel", "refuses", "(II)I"⟩, 19) := ⟨⟨by decide +kernel, by decide +kernel⟩, List.mem_of_getElem? (i := 1435) (by decide +kernel), List.mem_of_getElem? (i := 1525) (by decide +kernel), List.mem_of_getElem? (i := 1526) (by decide +kernel)⟩
theorem lw_p29 : lw_okq (⟨"BellCoresModel", "isMould", "(I)Z"⟩, 19) := ⟨⟨by decide +kernel, by decide +kernel⟩, List.mem_of_getElem? (i := 1435) (by decide +kernel), List.mem_of_getElem? (i := 1537) (by decide +kernel), List.mem_of_getElem? (i := 1538) (by decide +kernel)⟩
theorem lw_p30 : lw_okq (⟨"BellCoresModel", "breaks", "(I)V"⟩, 19) := ⟨⟨by decide +kernel, by decide +kernel⟩, List.mem_of_getElem? (i := 1435) (by decide +kernel), List.mem_of_getElem? (i := 1541) (by decide +kernel), List.mem_of_getElem? (i := 1542) (by decide +kernel)⟩
theorem lw_p31 : lw_okq (⟨"BellCoresModel", "goes", "(IIII)V"⟩, 19) := ⟨⟨by decide +kernel, by decide +kernel⟩, List.mem_of_getElem? (i := 1435) (by decide +kernel), List.mem_of_getElem? (i := 1545) (by decide +kernel), List.mem_of_getElem? (i := 1546) (by decide +kernel)⟩
def lw_privs_2 : List (MethodName × Nat) := [(⟨"BellCores$Text", "readNumber", "(I)I"⟩, 4), (⟨"BellCores$Text", "keep", "(III)Z"⟩, 4), (⟨"BellCores$Text", "readPair", "(IIC)Z"⟩, 4), (⟨"BellCores$Text", "skip", "(C)Z"⟩, 4), (⟨"BellCores", "tryOrders", "()LBellCores$Outcome;"⟩, 10), (⟨"BellCores", "judge", "(III)LBellCores$Outcome;"⟩, 10), (⟨"BellCores", "isPossible", "(III)Z"⟩, 10), (⟨"BellCores", "isRefused", "(III)Z"⟩, 10), (⟨"BellCores", "carryOut", "(III)V"⟩, 10), (⟨"BellCores$Foundry", "soundInHall", "()I"⟩, 10), (⟨"BellCoresModel", "fails", "(I)Z"⟩, 19), (⟨"BellCoresModel", "keeps", "([I)V"⟩, 19), (⟨"BellCoresModel", "refuses", "(II)I"⟩, 19), (⟨"BellCoresModel", "isMould", "(I)Z"⟩, 19), (⟨"BellCoresModel", "breaks", "(I)V"⟩, 19), (⟨"BellCoresModel", "goes", "(IIII)V"⟩, 19)]
theorem lw_r2 : ∀ q ∈ lw_privs_2, lw_okq q := List.forall_mem_cons.mpr ⟨lw_p16, List.forall_mem_cons.mpr ⟨lw_p17, List.forall_mem_cons.mpr ⟨lw_p18, List.forall_mem_cons.mpr ⟨lw_p19, List.forall_mem_cons.mpr ⟨lw_p20, List.forall_mem_cons.mpr ⟨lw_p21, List.forall_mem_cons.mpr ⟨lw_p22, List.forall_mem_cons.mpr ⟨lw_p23, List.forall_mem_cons.mpr ⟨lw_p24, List.forall_mem_cons.mpr ⟨lw_p25, List.forall_mem_cons.mpr ⟨lw_p26, List.forall_mem_cons.mpr ⟨lw_p27, List.forall_mem_cons.mpr ⟨lw_p28, List.forall_mem_cons.mpr ⟨lw_p29, List.forall_mem_cons.mpr ⟨lw_p30, List.forall_mem_cons.mpr ⟨lw_p31, fun _ h => absurd h List.not_mem_nil⟩⟩⟩⟩⟩⟩⟩⟩⟩⟩⟩⟩⟩⟩⟩⟩
theorem lw_p32 : lw_okq (⟨"BellCoresModel", "core", "(I)I"⟩, 19) := ⟨⟨by decide +kernel, by decide +kernel⟩, List.mem_of_getElem? (i := 1435) (by decide +kernel), List.mem_of_getElem? (i := 1553) (by decide +kernel), List.mem_of_getElem? (i := 1554) (by decide +kernel)⟩
theorem lw_p33 : lw_okq (⟨"BellCoresModel", "takes", "(I)I"⟩, 19) := ⟨⟨by decide +kernel, by decide +kernel⟩, List.mem_of_getElem? (i := 1435) (by decide +kernel), List.mem_of_getElem? (i := 1557) (by decide +kernel), List.mem_of_getElem? (i := 1558) (by decide +kernel)⟩
theorem lw_p34 : lw_okq (⟨"BellCoresModel", "needs", "(I)I"⟩, 19) := ⟨⟨by decide +kernel, by decide +kernel⟩, List.mem_of_getElem? (i := 1435) (by decide +kernel), List.mem_of_getElem? (i := 1561) (by decide +kernel), List.mem_of_getElem? (i := 1562) (by decide +kernel)⟩
theorem lw_p35 : lw_okq (⟨"BellCoresModel", "isRack", "(I)Z"⟩, 19) := ⟨⟨by decide +kernel, by decide +kernel⟩, List.mem_of_getElem? (i := 1435) (by decide +kernel), List.mem_of_getElem? (i := 1573) (by decide +kernel), List.mem_of_getElem? (i := 1574) (by decide +kernel)⟩
theorem lw_p36 : lw_okq (⟨"BellCoresModel", "bellsOn", "(I)I"⟩, 19) := ⟨⟨by decide +kernel, by decide +kernel⟩, List.mem_of_getElem? (i := 1435) (by decide +kernel), List.mem_of_getElem? (i := 1577) (by decide +kernel), List.mem_of_getElem? (i := 1578) (by decide +kernel)⟩
theorem lw_p37 : lw_okq (⟨"BellCoresModel", "of", "(II)I"⟩, 19) := ⟨⟨by decide +kernel, by decide +kernel⟩, List.mem_of_getElem? (i := 1435) (by decide +kernel), List.mem_of_getElem? (i := 1581) (by decide +kernel), List.mem_of_getElem? (i := 1582) (by decide +kernel)⟩
theorem lw_p38 : lw_okq (⟨"BellCoresModel", "lays", "(III)V"⟩, 19) := ⟨⟨by decide +kernel, by decide +kernel⟩, List.mem_of_getElem? (i := 1435) (by decide +kernel), List.mem_of_getElem? (i := 1585) (by decide +kernel), List.mem_of_getElem? (i := 1586) (by decide +kernel)⟩
theorem lw_p39 : lw_okq (⟨"BellCoresModel", "losing", "(I)I"⟩, 19) := ⟨⟨by decide +kernel, by decide +kernel⟩, List.mem_of_getElem? (i := 1435) (by decide +kernel), List.mem_of_getElem? (i := 1593) (by decide +kernel), List.mem_of_getElem? (i := 1594) (by decide +kernel)⟩
theorem lw_p40 : lw_okq (⟨"BellCoresModel", "hour", "()I"⟩, 19) := ⟨⟨by decide +kernel, by decide +kernel⟩, List.mem_of_getElem? (i := 1435) (by decide +kernel), List.mem_of_getElem? (i := 1608) (by decide +kernel), List.mem_of_getElem? (i := 1609) (by decide +kernel)⟩
theorem lw_p41 : lw_okq (⟨"BellCoresModel", "cools", "(I)Z"⟩, 19) := ⟨⟨by decide +kernel, by decide +kernel⟩, List.mem_of_getElem? (i := 1435) (by decide +kernel), List.mem_of_getElem? (i := 1612) (by decide +kernel), List.mem_of_getElem? (i := 1613) (by decide +kernel)⟩
theorem lw_p42 : lw_okq (⟨"BellCoresModel", "isBell", "(I)Z"⟩, 19) := ⟨⟨by decide +kernel, by decide +kernel⟩, List.mem_of_getElem? (i := 1435) (by decide +kernel), List.mem_of_getElem? (i := 1620) (by decide +kernel), List.mem_of_getElem? (i := 1621) (by decide +kernel)⟩
theorem lw_p43 : lw_okq (⟨"BellCoresModel", "noteOf", "(I)I"⟩, 19) := ⟨⟨by decide +kernel, by decide +kernel⟩, List.mem_of_getElem? (i := 1435) (by decide +kernel), List.mem_of_getElem? (i := 1628) (by decide +kernel), List.mem_of_getElem? (i := 1629) (by decide +kernel)⟩
theorem lw_p44 : lw_okq (⟨"BellCoresModel", "refuses3", "(II)I"⟩, 19) := ⟨⟨by decide +kernel, by decide +kernel⟩, List.mem_of_getElem? (i := 1435) (by decide +kernel), List.mem_of_getElem? (i := 1636) (by decide +kernel), List.mem_of_getElem? (i := 1637) (by decide +kernel)⟩
theorem lw_p45 : lw_okq (⟨"BellCoresModel", "hoursOf", "(I)I"⟩, 19) := ⟨⟨by decide +kernel, by decide +kernel⟩, List.mem_of_getElem? (i := 1435) (by decide +kernel), List.mem_of_getElem? (i := 1656) (by decide +kernel), List.mem_of_getElem? (i := 1657) (by decide +kernel)⟩
theorem lw_p46 : lw_okq (⟨"BellCoresModel", "pealFrom", "(I)I"⟩, 19) := ⟨⟨by decide +kernel, by decide +kernel⟩, List.mem_of_getElem? (i := 1435) (by decide +kernel), List.mem_of_getElem? (i := 1668) (by decide +kernel), List.mem_of_getElem? (i := 1669) (by decide +kernel)⟩
theorem lw_p47 : lw_okq (⟨"BellCoresModel", "isHeard", "(I)Z"⟩, 19) := ⟨⟨by decide +kernel, by decide +kernel⟩, List.mem_of_getElem? (i := 1435) (by decide +kernel), List.mem_of_getElem? (i := 1675) (by decide +kernel), List.mem_of_getElem? (i := 1676) (by decide +kernel)⟩
def lw_privs_3 : List (MethodName × Nat) := [(⟨"BellCoresModel", "core", "(I)I"⟩, 19), (⟨"BellCoresModel", "takes", "(I)I"⟩, 19), (⟨"BellCoresModel", "needs", "(I)I"⟩, 19), (⟨"BellCoresModel", "isRack", "(I)Z"⟩, 19), (⟨"BellCoresModel", "bellsOn", "(I)I"⟩, 19), (⟨"BellCoresModel", "of", "(II)I"⟩, 19), (⟨"BellCoresModel", "lays", "(III)V"⟩, 19), (⟨"BellCoresModel", "losing", "(I)I"⟩, 19), (⟨"BellCoresModel", "hour", "()I"⟩, 19), (⟨"BellCoresModel", "cools", "(I)Z"⟩, 19), (⟨"BellCoresModel", "isBell", "(I)Z"⟩, 19), (⟨"BellCoresModel", "noteOf", "(I)I"⟩, 19), (⟨"BellCoresModel", "refuses3", "(II)I"⟩, 19), (⟨"BellCoresModel", "hoursOf", "(I)I"⟩, 19), (⟨"BellCoresModel", "pealFrom", "(I)I"⟩, 19), (⟨"BellCoresModel", "isHeard", "(I)Z"⟩, 19)]
theorem lw_r3 : ∀ q ∈ lw_privs_3, lw_okq q := List.forall_mem_cons.mpr ⟨lw_p32, List.forall_mem_cons.mpr ⟨lw_p33, List.forall_mem_cons.mpr ⟨lw_p34, List.forall_mem_cons.mpr ⟨lw_p35, List.forall_mem_cons.mpr ⟨lw_p36, List.forall_mem_cons.mpr ⟨lw_p37, List.forall_mem_cons.mpr ⟨lw_p38, List.forall_mem_cons.mpr ⟨lw_p39, List.forall_mem_cons.mpr ⟨lw_p40, List.forall_mem_cons.mpr ⟨lw_p41, List.forall_mem_cons.mpr ⟨lw_p42, List.forall_mem_cons.mpr ⟨lw_p43, List.forall_mem_cons.mpr ⟨lw_p44, List.forall_mem_cons.mpr ⟨lw_p45, List.forall_mem_cons.mpr ⟨lw_p46, List.forall_mem_cons.mpr ⟨lw_p47, fun _ h => absurd h List.not_mem_nil⟩⟩⟩⟩⟩⟩⟩⟩⟩⟩⟩⟩⟩⟩⟩⟩
theorem lw_p48 : lw_okq (⟨"BellCoresModel", "inHall", "()I"⟩, 19) := ⟨⟨by decide +kernel, by decide +kernel⟩, List.mem_of_getElem? (i := 1435) (by decide +kernel), List.mem_of_getElem? (i := 1683) (by decide +kernel), List.mem_of_getElem? (i := 1684) (by decide +kernel)⟩
theorem lw_p49 : lw_okq (⟨"BellCoresModel", "mostPoured", "(I)I"⟩, 19) := ⟨⟨by decide +kernel, by decide +kernel⟩, List.mem_of_getElem? (i := 1435) (by decide +kernel), List.mem_of_getElem? (i := 1695) (by decide +kernel), List.mem_of_getElem? (i := 1696) (by decide +kernel)⟩
theorem lw_p50 : lw_okq (⟨"BellCoresModel", "pours", "(II)Z"⟩, 19) := ⟨⟨by decide +kernel, by decide +kernel⟩, List.mem_of_getElem? (i := 1435) (by decide +kernel), List.mem_of_getElem? (i := 1699) (by decide +kernel), List.mem_of_getElem? (i := 1700) (by decide +kernel)⟩
theorem lw_p51 : lw_okq (⟨"BellCoresModel", "byHottest", "()I"⟩, 19) := ⟨⟨by decide +kernel, by decide +kernel⟩, List.mem_of_getElem? (i := 1435) (by decide +kernel), List.mem_of_getElem? (i := 1706) (by decide +kernel), List.mem_of_getElem? (i := 1707) (by decide +kernel)⟩
theorem lw_p52 : lw_okq (⟨"BellCoresModel", "hottest", "(I)I"⟩, 19) := ⟨⟨by decide +kernel, by decide +kernel⟩, List.mem_of_getElem? (i := 1435) (by decide +kernel), List.mem_of_getElem? (i := 1710) (by decide +kernel), List.mem_of_getElem? (i := 1711) (by decide +kernel)⟩
theorem lw_p53 : lw_okq (⟨"BellCoresModel", "writesNumber", "(I)V"⟩, 19) := ⟨⟨by decide +kernel, by decide +kernel⟩, List.mem_of_getElem? (i := 1435) (by decide +kernel), List.mem_of_getElem? (i := 1722) (by decide +kernel), List.mem_of_getElem? (i := 1723) (by decide +kernel)⟩
theorem lw_p54 : lw_okq (⟨"BellCoresModel", "writes", "(I)V"⟩, 19) := ⟨⟨by decide +kernel, by decide +kernel⟩, List.mem_of_getElem? (i := 1435) (by decide +kernel), List.mem_of_getElem? (i := 1726) (by decide +kernel), List.mem_of_getElem? (i := 1727) (by decide +kernel)⟩
theorem lw_p55 : lw_okq (⟨"BellCoresModel", "isText", "()Z"⟩, 19) := ⟨⟨by decide +kernel, by decide +kernel⟩, List.mem_of_getElem? (i := 1435) (by decide +kernel), List.mem_of_getElem? (i := 1746) (by decide +kernel), List.mem_of_getElem? (i := 1747) (by decide +kernel)⟩
theorem lw_p56 : lw_okq (⟨"BellCoresModel", "orderHere", "()Z"⟩, 19) := ⟨⟨by decide +kernel, by decide +kernel⟩, List.mem_of_getElem? (i := 1435) (by decide +kernel), List.mem_of_getElem? (i := 1750) (by decide +kernel), List.mem_of_getElem? (i := 1751) (by decide +kernel)⟩
theorem lw_p57 : lw_okq (⟨"BellCoresModel", "here", "()I"⟩, 19) := ⟨⟨by decide +kernel, by decide +kernel⟩, List.mem_of_getElem? (i := 1435) (by decide +kernel), List.mem_of_getElem? (i := 1754) (by decide +kernel), List.mem_of_getElem? (i := 1755) (by decide +kernel)⟩
theorem lw_p58 : lw_okq (⟨"BellCoresModel", "skips", "(I)Z"⟩, 19) := ⟨⟨by decide +kernel, by decide +kernel⟩, List.mem_of_getElem? (i := 1435) (by decide +kernel), List.mem_of_getElem? (i := 1758) (by decide +kernel), List.mem_of_getElem? (i := 1759) (by decide +kernel)⟩
theorem lw_p59 : lw_okq (⟨"BellCoresModel", "figures", "(II)Z"⟩, 19) := ⟨⟨by decide +kernel, by decide +kernel⟩, List.mem_of_getElem? (i := 1435) (by decide +kernel), List.mem_of_getElem? (i := 1762) (by decide +kernel), List.mem_of_getElem? (i := 1763) (by decide +kernel)⟩
theorem lw_p60 : lw_okq (⟨"BellCoresModel", "carries", "(I)I"⟩, 19) := ⟨⟨by decide +kernel, by decide +kernel⟩, List.mem_of_getElem? (i := 1435) (by decide +kernel), List.mem_of_getElem? (i := 1766) (by decide +kernel), List.mem_of_getElem? (i := 1767) (by decide +kernel)⟩
theorem lw_p61 : lw_okq (⟨"BellCoresModel", "allOf", "(I)I"⟩, 19) := ⟨⟨by decide +kernel, by decide +kernel⟩, List.mem_of_getElem? (i := 1435) (by decide +kernel), List.mem_of_getElem? (i := 1790) (by decide +kernel), List.mem_of_getElem? (i := 1791) (by decide +kernel)⟩
theorem lw_p62 : lw_okq (⟨"BellCoresModel", "sound", "(Z)I"⟩, 19) := ⟨⟨by decide +kernel, by decide +kernel⟩, List.mem_of_getElem? (i := 1435) (by decide +kernel), List.mem_of_getElem? (i := 1794) (by decide +kernel), List.mem_of_getElem? (i := 1795) (by decide +kernel)⟩
def lw_privs_4 : List (MethodName × Nat) := [(⟨"BellCoresModel", "inHall", "()I"⟩, 19), (⟨"BellCoresModel", "mostPoured", "(I)I"⟩, 19), (⟨"BellCoresModel", "pours", "(II)Z"⟩, 19), (⟨"BellCoresModel", "byHottest", "()I"⟩, 19), (⟨"BellCoresModel", "hottest", "(I)I"⟩, 19), (⟨"BellCoresModel", "writesNumber", "(I)V"⟩, 19), (⟨"BellCoresModel", "writes", "(I)V"⟩, 19), (⟨"BellCoresModel", "isText", "()Z"⟩, 19), (⟨"BellCoresModel", "orderHere", "()Z"⟩, 19), (⟨"BellCoresModel", "here", "()I"⟩, 19), (⟨"BellCoresModel", "skips", "(I)Z"⟩, 19), (⟨"BellCoresModel", "figures", "(II)Z"⟩, 19), (⟨"BellCoresModel", "carries", "(I)I"⟩, 19), (⟨"BellCoresModel", "allOf", "(I)I"⟩, 19), (⟨"BellCoresModel", "sound", "(Z)I"⟩, 19)]
theorem lw_r4 : ∀ q ∈ lw_privs_4, lw_okq q := List.forall_mem_cons.mpr ⟨lw_p48, List.forall_mem_cons.mpr ⟨lw_p49, List.forall_mem_cons.mpr ⟨lw_p50, List.forall_mem_cons.mpr ⟨lw_p51, List.forall_mem_cons.mpr ⟨lw_p52, List.forall_mem_cons.mpr ⟨lw_p53, List.forall_mem_cons.mpr ⟨lw_p54, List.forall_mem_cons.mpr ⟨lw_p55, List.forall_mem_cons.mpr ⟨lw_p56, List.forall_mem_cons.mpr ⟨lw_p57, List.forall_mem_cons.mpr ⟨lw_p58, List.forall_mem_cons.mpr ⟨lw_p59, List.forall_mem_cons.mpr ⟨lw_p60, List.forall_mem_cons.mpr ⟨lw_p61, List.forall_mem_cons.mpr ⟨lw_p62, fun _ h => absurd h List.not_mem_nil⟩⟩⟩⟩⟩⟩⟩⟩⟩⟩⟩⟩⟩⟩⟩
def lw_privs : List (MethodName × Nat) := lw_privs_1 ++ (lw_privs_2 ++ (lw_privs_3 ++ (lw_privs_4)))
def lw_tbl : List Cond := k2_sels lw_privs ++ tables_1
theorem lw_privs_ok : ∀ q ∈ lw_privs, lw_okq q := by
  show ∀ q ∈ lw_privs_1 ++ (lw_privs_2 ++ (lw_privs_3 ++ (lw_privs_4))), lw_okq q
  exact List.forall_mem_append.mpr ⟨lw_r1, List.forall_mem_append.mpr ⟨lw_r2, List.forall_mem_append.mpr ⟨lw_r3, lw_r4⟩⟩⟩
/-- the streams that the claim lets the run draw from -/
abbrev lw_cs : List Choice := [Jvm.Choice.named "NaN.bits"]
theorem lw_bits : nanBits ∈ lw_cs := by first | decide | exact List.mem_cons_self | simp [lw_cs, nanBits]
end
section
/-! ===== BEGIN words of one list among another's, by their places ===== -/
theorem goodIn_r {big : List Cond} (ws : List Cond) (ps : List Nat) (hp : ws = ps.filterMap (fun i => big[i]?)) (h : ws.all goodWord = true) : GoodIn big ws := by
  intro w hw
  have h1 := List.all_eq_true.mp h w hw
  rw [hp] at hw
  obtain ⟨i, -, hi⟩ := List.mem_filterMap.mp hw
  have hm : w ∈ big := by first | exact List.mem_of_getElem? hi | exact List.getElem?_mem hi
  exact ⟨hm, good_of_word h1⟩
theorem goodIn_app {big a b : List Cond} (ha : GoodIn big a) (hb : GoodIn big b) : GoodIn big (a ++ b) := fun w h => (List.mem_append.mp h).elim (ha w) (hb w)
theorem goodIn_ca {big a b : List Cond} {c : Cond} (ha : GoodIn big (c :: a)) (hb : GoodIn big b) : GoodIn big (c :: (a ++ b)) := fun w h => (List.mem_cons.mp h).elim (fun e => ha w (List.mem_cons.mpr (Or.inl e))) (fun h => (List.mem_append.mp h).elim (fun h => ha w (List.mem_cons.mpr (Or.inr h))) (hb w))
theorem goodIn_sub {big ws : List Cond} (hm : ∀ w ∈ ws, w ∈ big) (h : ws.all goodWord = true) : GoodIn big ws := fun w hw => ⟨hm w hw, good_of_word (List.all_eq_true.mp h w hw)⟩
/-! ===== END ===== -/

/-! ===== BEGIN exceptions that leave a method, and their catching by the caller (launches without stack traces) ===== -/
section VXA
/-! The laws vx_back, vx_callV, vx_callS, vx_callSW, vx_throw0, vx_throwS follow proofs of the library, with one case more: JvmDerived/Free/Laws.lean (Back.of_free), Shelf42/LK1.lean (callV, callS), Shelf/KitTraced.lean (throwNew0V, throwNewS). -/
/-- where a method has thrown q: the class by its name, the cell, what was written, the world -/
def vx_T (XC : String → State → State → Prop) (st : State) (q : Addr) (t : State) (mc ms : Nat) (free : Addr → Prop) : Prop :=
  ∃ (E : String) (ce : Cell) (L : List Loc), XC E st t ∧ t.heap[q]? = some ce ∧ ce.vm = .none ∧ st.vm.findClass E = some ce.cls ∧ st.WarmedH t.vm ∧ st.sameButNew ({ t with vm := st.vm } : State) L mc ms ∧ ∀ z ∈ L, free z.base
def vx_Q (Qc : Array Value → State → Outcome → State → Prop) (XC : String → State → State → Prop) (mc ms : Nat) (free : Addr → Prop) : Array Value → State → Outcome → State → Prop := fun a st o t =>
  (Qc a st o t ∧ ∃ L, FrameEnd st o t L mc ms ∧ ∀ q ∈ L, free q.base) ∨ ∃ q, o = .threw q ∧ vx_T XC st q t mc ms free
/-- a callee that returns or throws -/
def vx_Met (l : Launch) (y : MethodName) (ws : List Cond) (rm : Room) (Pc : Array Value → State → Prop) (Qc : Array Value → State → Outcome → State → Prop) (XC : String → State → State → Prop) (mc ms : Nat) (free : Addr → Prop) : Prop :=
  MetFree l y (headSpec ws rm) Pc (fun _ _ _ _ _ => True) (vx_Q Qc XC mc ms free)
def vx_Post (XC : String → State → State → Prop) (mc ms : Nat) (free : Addr → Prop) : Pt → Array Value → Addr → Pt → Prop := fun A a q B =>
  ∃ (g : JFrame) (mk : MethodId) (t : State) (L : List Loc) (E : String) (ce : Cell), B.U.heap = t.heap ∧ B.U.vm = t.vm ∧ XC E (A.U.calling g mk a) t ∧ t.heap[q]? = some ce ∧ ce.vm = .none ∧ A.U.vm.findClass E = some ce.cls ∧ B.locs = A.locs ++ L ∧ (∀ z ∈ L, free z.base) ∧ B.cells = A.cells + mc ∧ B.slots = A.slots + ms
def vx_Back (l : Launch) (R : Room) (p : Program) (e : Env) (below : List Frame) (s : State) (sargs : Array Value) (y : MethodName) (len W9 : Nat)
    (Pre : Pt → Array Value → Prop) (Post : Pt → Array Value → Option Value → Pt → Prop) (PostX : Pt → Array Value → Addr → Pt → Prop) : Prop :=
  ∀ (m : MethodId) (meth : Method) (c : Code) (A : Pt) (g : JFrame) (ig : Instr) (mk : MethodId) (a : Array Value),
    Stand p l e R s m sargs below meth c A.U A.locs A.cells A.slots → g.method = m → g.locals.size = c.maxLocals → decode c.code g.pc = .ok (ig, len) →
    2 * g.monitorRoom + (g.stack.map fun v => v.category).sum ≤ W9 → A.U.methodNamed? y = some mk → Pre A a →
    (∃ (v : Option Value) (B : Pt), Stand p l e R s m sargs below meth c B.U B.locs B.cells B.slots ∧ Post A a v B ∧
      Steps p.tables e below (doInvoke e (A.U.setTop g) [] mk a).1 (B.U.setTop { g with pc := g.pc + len, stack := v.toList ++ g.stack })) ∨
    (∃ (q : Addr) (B : Pt), Stand p l e R s m sargs below meth c B.U B.locs B.cells B.slots ∧ PostX A a q B ∧
      Steps p.tables e below (doInvoke e (A.U.setTop g) [] mk a).1 ((B.U.setTop g).pushFrame (.throwing q)))
section Payer
variable {l : Launch} {R : Room} {p : Program} {e : Env} {below : List Frame} {s : State} {sargs : Array Value} {y : MethodName} {len W9 : Nat}
theorem vx_back {ws : List Cond} {rm : Room} {Pc : Array Value → State → Prop} {Qc : Array Value → State → Outcome → State → Prop} {XC : String → State → State → Prop} {mc ms : Nat} {free : Addr → Prop} {bytes : ByteArray} {maxL : Nat} {ret : Option FieldType}
    (hM : vx_Met l y ws rm Pc Qc XC mc ms free) (hblind : FrameBlind Pc) (hrc : rm.cells = mc) (hrs : rm.slots = ms)
    (hframes : rm.frames + 1 ≤ R.frames) (hlocals : W9 + (maxL + 11) + rm.locals ≤ R.locals)
    (hws : ∀ w ∈ ws, ∀ a' U, s.WarmedH U.vm → w.before a' U = true) (hcode : Cond.code y bytes maxL ret ∈ ws) (hinit : ∀ a' U, s.WarmedH U.vm → (Cond.initialized y.cls).before a' U = true) :
    vx_Back l R p e below s sargs y len W9 (PreOf R mc ms Pc) (PostOf Qc mc ms free) (vx_Post XC mc ms free) := by
  intro m meth c A g ig mk a X hg hsize hdg hW hn hp
  have h1 : (headSpec ws rm).pre.before a A.U = true := atoms_intro fun w hw => hws w hw _ _ X.warmed
  have h2 : (Cond.code y bytes maxL ret).before a A.U = true := hws _ hcode _ _ X.warmed
  have h3 : (Cond.initialized y.cls).before a A.U = true := hinit _ _ X.warmed
  have h4 : A.cells + (headSpec ws rm).room.cells ≤ R.cells := by rw [show (headSpec ws rm).room.cells = mc from hrc]; exact hp.1
  have h5 : A.slots + (headSpec ws rm).room.slots ≤ R.slots := by rw [show (headSpec ws rm).room.slots = ms from hrs]; exact hp.2.1
  have hPc : Pc a (A.U.calling g mk a) := hblind _ _ _ _ hp.2.2
  obtain ⟨U, Ls, c0, s0⟩ := A
  dsimp only [Pt.U, Pt.locs, Pt.cells, Pt.slots] at h1 h2 h3 h4 h5 X hn hPc ⊢
  obtain ⟨methY, cY, hmY, hcY, -, hlY, -, -, -, -⟩ := Cond.code_spec hn h2
  obtain ⟨kY, hkY, -⟩ := className_of_methodNamed hn
  have hinitY : kY.init = .initialized := Cond.initialized_spec (findClass_of_methodNamed hn) hkY h3
  have h : At U g.method c below := by rw [hg]; exact X.here
  have hlocals9 : W9 + (maxL + 11) + (headSpec ws rm).room.locals ≤ R.locals := hlocals
  have happ : (headSpec ws rm).appliesLoose y e.platform (U.calling g mk a) = true :=
    Spec.appliesLoose_calling (g := g) h hdg hn hkY hinitY
      (X.room_calling (g := g) (R' := (headSpec ws rm).room) hsize hmY hcY hframes (by rw [hlY]; omega) h4 h5) h1
  obtain ⟨mid, hmid⟩ := h.above
  have hfr : (U.setTop g).frames = (.java g :: mid) ++ below := by rw [State.frames_setTop' g h.top, hmid]; rfl
  obtain ⟨o, s₂, hsteps, -, hend, hq⟩ := Steps.callFree hM p X.admits X.cas X.clock (acts := []) hfr happ hPc trivial
  have hq' : vx_Q Qc XC mc ms free a (U.calling g mk a) o s₂ := hq
  rw [State.frames_setTop' g h.top] at hend
  obtain ⟨g₀, hg0⟩ := Option.isSome_iff_exists.mp h.top
  obtain ⟨r, hr⟩ := State.topJava?_eq_some.mp hg0
  have hr' : (({ U with heap := s₂.heap, slotsUsed := s₂.slotsUsed } : State).setVm s₂.vm).frames = .java g₀ :: r := hr
  rcases hq' with ⟨hqc, L, hfe, hL⟩ | ⟨q, rfl, E, ce, L, hx, hce, hcv, hcl, hW₂, hsm, hL⟩
  · obtain ⟨⟨v, rfl⟩, hW₂, e2, q2, q3, q4, q5, q6⟩ := id hfe
    have e3 : s₂ = ({ (U.calling g mk a).setFrames s₂.frames with heap := s₂.heap, slotsUsed := s₂.slotsUsed } : State).setVm s₂.vm := by
      have : s₂ = ({ s₂ with vm := (U.calling g mk a).vm } : State).setVm s₂.vm := rfl
      rw [e2] at this
      exact this
    obtain ⟨c₂, i₂, len₂, hc₂, hd₂, hf₂⟩ := hend
    have hW' : U.WarmedH s₂.vm := hW₂
    have hcc : c₂ = c := by
      have h1 : s₂.code? g.method = U.code? g.method := by
        rw [State.code?_eq, State.code?_eq, hW'.alike.method?]
      exact Option.some.inj (hc₂.symm.trans (h1.trans h.code))
    subst hcc
    have hlen : len₂ = len := by rw [hdg] at hd₂; cases hd₂; rfl
    subst hlen
    have hs₂ : s₂ = (({ U with heap := s₂.heap, slotsUsed := s₂.slotsUsed } : State).setVm s₂.vm).setTop { g with pc := g.pc + len₂, stack := v.toList ++ g.stack } := by
      refine e3.trans ?_
      rw [hf₂, State.calling_eq h.top, State.setFrames_setFrames, State.setTop_of_frames _ hr', hr]
      rfl
    have hsame : U.sameButNew ({ U with heap := s₂.heap, slotsUsed := s₂.slotsUsed } : State) L mc ms := by
      refine ⟨?_, q2, q3, q4, q5, q6⟩
      obtain ⟨t, ht, -⟩ := State.frames_cons hr
      show ({ U with heap := s₂.heap, slotsUsed := s₂.slotsUsed } : State) = { U.setFrames U.frames with heap := s₂.heap, slotsUsed := s₂.slotsUsed }
      rw [State.setFrames_self ht]
    subst hg
    refine Or.inl ⟨v, ⟨(({ U with heap := s₂.heap, slotsUsed := s₂.slotsUsed } : State).setVm s₂.vm), Ls ++ L, c0 + mc, s0 + ms⟩,
      ⟨X.admits, X.cas, X.clock, X.frames, X.room, X.hears, X.method, X.code, (X.here.setHeapUsed s₂.heap s₂.slotsUsed).setVm hW'.alike, X.tail, State.WarmedH.trans X.warmed hW', X.limits, X.bytes, X.same.trans (hsame.setVm s.vm)⟩,
      ⟨g, mk, s₂, L, rfl, rfl, hqc, rfl, hL, rfl, rfl⟩, ?_⟩
    show Steps p.tables e below _ ((({ U with heap := s₂.heap, slotsUsed := s₂.slotsUsed } : State).setVm s₂.vm).setTop { g with pc := g.pc + len₂, stack := v.toList ++ g.stack })
    rw [← hs₂]
    exact hsteps
  · obtain ⟨e2, q2, q3, q4, q5, q6⟩ := id hsm
    have e3 : s₂ = ({ (U.calling g mk a).setFrames s₂.frames with heap := s₂.heap, slotsUsed := s₂.slotsUsed } : State).setVm s₂.vm := by
      have : s₂ = ({ s₂ with vm := (U.calling g mk a).vm } : State).setVm s₂.vm := rfl
      rw [e2] at this
      exact this
    have hf₂ : s₂.frames = .throwing q :: .java g :: U.frames.tail := hend
    have hW' : U.WarmedH s₂.vm := hW₂
    have hs₂ : s₂ = ((({ U with heap := s₂.heap, slotsUsed := s₂.slotsUsed } : State).setVm s₂.vm).setTop g).pushFrame (.throwing q) := by
      refine e3.trans ?_
      rw [hf₂, State.calling_eq h.top, State.setFrames_setFrames, State.pushFrame, State.frames_setTop _ hr', State.setTop_of_frames _ hr', State.setFrames_setFrames, hr]
      rfl
    have hsame : U.sameButNew ({ U with heap := s₂.heap, slotsUsed := s₂.slotsUsed } : State) L mc ms := by
      refine ⟨?_, q2, q3, q4, q5, q6⟩
      obtain ⟨t, ht, -⟩ := State.frames_cons hr
      show ({ U with heap := s₂.heap, slotsUsed := s₂.slotsUsed } : State) = { U.setFrames U.frames with heap := s₂.heap, slotsUsed := s₂.slotsUsed }
      rw [State.setFrames_self ht]
    subst hg
    refine Or.inr ⟨q, ⟨(({ U with heap := s₂.heap, slotsUsed := s₂.slotsUsed } : State).setVm s₂.vm), Ls ++ L, c0 + mc, s0 + ms⟩,
      ⟨X.admits, X.cas, X.clock, X.frames, X.room, X.hears, X.method, X.code, (X.here.setHeapUsed s₂.heap s₂.slotsUsed).setVm hW'.alike, X.tail, State.WarmedH.trans X.warmed hW', X.limits, X.bytes, X.same.trans (hsame.setVm s.vm)⟩,
      ⟨g, mk, s₂, L, E, ce, rfl, rfl, hx, hce, hcv, hcl, rfl, hL, rfl, rfl⟩, ?_⟩
    show Steps p.tables e below _ (((({ U with heap := s₂.heap, slotsUsed := s₂.slotsUsed } : State).setVm s₂.vm).setTop g).pushFrame (.throwing q))
    rw [← hs₂]
    exact hsteps
end Payer
section Calls
variable {p : Program} {l : Launch} {e : Env} {R : Room} {s : State} {m : MethodId} {args : Array Value} {below : List Frame} {meth : Method} {c : Code} {T : State} {locs : List Loc} {cells slots : Nat}
theorem vx_callV (X : Stand p l e R s m args below meth c T locs cells slots) (hexec : p.tables.exec = Jvm.exec) {own C : String} {index : Nat} {y : MethodName} {bytes : ByteArray} {maxL : Nat} {ret : Option FieldType}
    (hown : s.vm.findClass own = some m.cls) (hlink : (Cond.methodLink own index y).before args s = true) (hinst : (Cond.instanceMethod y).before args s = true) (hsel : (Cond.selects C y y).before args s = true)
    (hcode : (Cond.code y bytes maxL ret).before args s = true) (hy : y.cls ≠ "java/lang/invoke/MethodHandle" ∧ y.cls ≠ "java/lang/invoke/VarHandle")
    {W9 : Nat} {Pre : Pt → Array Value → Prop} {Post : Pt → Array Value → Option Value → Pt → Prop} {PostX : Pt → Array Value → Addr → Pt → Prop} (hK : vx_Back l R p e below s args y 3 W9 Pre Post PostX)
    {b : Addr} {cellB : Cell} (hcell : T.heap[b]? = some cellB) (hobj : cellB.vm.isStatics = false) (hcls : s.vm.findClass C = some cellB.cls)
    {g : JFrame} (hg : g.method = m) (hsize : g.locals.size = c.maxLocals) {argsL rest : List Value} (hlen : ∀ sig, parseMethodDescriptor y.desc = some sig → argsL.length = sig.parameters.length)
    (hstack : g.stack = argsL.reverse ++ .ref b :: rest) (hW : 2 * g.monitorRoom + (rest.map fun v => v.category).sum ≤ W9) (hdg : decode c.code g.pc = .ok (.invokevirtual index, 3))
    (hpre : ∀ vm₁, s.WarmedH vm₁ → Pre ⟨T.setVm vm₁, locs, cells, slots⟩ (Value.ref b :: argsL).toArray) :
    (∃ (v : Option Value) (vm₁ : Vm) (B : Pt), s.WarmedH vm₁ ∧ Stand p l e R s m args below meth c B.U B.locs B.cells B.slots ∧ Post ⟨T.setVm vm₁, locs, cells, slots⟩ (Value.ref b :: argsL).toArray v B ∧
      ∀ target, Steps p.tables e below (B.U.setTop { g with pc := g.pc + 3, stack := v.toList ++ rest }) target → Steps p.tables e below (T.setTop g) target) ∨
    (∃ (q : Addr) (vm₁ : Vm) (B : Pt), s.WarmedH vm₁ ∧ Stand p l e R s m args below meth c B.U B.locs B.cells B.slots ∧ PostX ⟨T.setVm vm₁, locs, cells, slots⟩ (Value.ref b :: argsL).toArray q B ∧
      Steps p.tables e below (T.setTop g) ((B.U.setTop { g with stack := rest }).pushFrame (.throwing q))) := by
  obtain ⟨mk, methM, hnamed, hmethM, hstM, habM⟩ := Cond.instanceMethod_spec hinst
  obtain ⟨methM', cM, hmethM', -, -, -, -, -, -, hsigM⟩ := Cond.code_spec hnamed hcode
  cases hmethM.symm.trans hmethM'
  obtain ⟨c2, r2, m2, q1, q2, q3, q4, kP, hkP, hkPi⟩ := Cond.selects_spec hsel
  cases hcls.symm.trans q1
  cases (State.methodFound?_of_named hnamed hy).symm.trans q2
  cases hnamed.symm.trans q3
  have hselP : selectMethod e.platform s.vm cellB.cls mk = .method mk := by rw [Launch.admits_selectMethod X.admits]; exact q4
  obtain ⟨vm₁, X₁, hstep₁⟩ := X.invokevirtual hexec hown hlink hnamed hmethM hstM hkP hkPi hy (a := b) (cell := cellB) hcell
    (fun z h => by rw [h] at hobj; cases hobj) hselP hmethM habM hkP hkPi (g := g) hg (argsL := argsL) (rest := rest) (hlen _ hsigM) hstack hdg
  rcases hK m meth c ⟨T.setVm vm₁, locs, cells, slots⟩ { g with stack := rest } (.invokevirtual index) mk (Value.ref b :: argsL).toArray X₁ hg hsize hdg hW (X₁.named hnamed) (hpre vm₁ X₁.warmed) with ⟨v, B, X', hpost, hsteps⟩ | ⟨q, B, X', hpost, hsteps⟩
  · exact Or.inl ⟨v, vm₁, B, X₁.warmed, X', hpost, fun target h => hstep₁ _ fun acts => by rw [doInvoke_state]; exact hsteps.trans h⟩
  · exact Or.inr ⟨q, vm₁, B, X₁.warmed, X', hpost, hstep₁ _ fun acts => by rw [doInvoke_state]; exact hsteps⟩
theorem vx_callS (X : Stand p l e R s m args below meth c T locs cells slots) (hexec : p.tables.exec = Jvm.exec) {own : String} {index : Nat} {y : MethodName} {bytes : ByteArray} {maxL : Nat} {ret : Option FieldType}
    (hown : s.vm.findClass own = some m.cls) (hlink : (Cond.methodLink own index y).before args s = true) (hstat : (Cond.static y).before args s = true) (hinit : (Cond.initialized y.cls).before args s = true)
    (hcode : (Cond.code y bytes maxL ret).before args s = true) (hy : y.cls ≠ "java/lang/invoke/MethodHandle" ∧ y.cls ≠ "java/lang/invoke/VarHandle")
    {W9 : Nat} {Pre : Pt → Array Value → Prop} {Post : Pt → Array Value → Option Value → Pt → Prop} {PostX : Pt → Array Value → Addr → Pt → Prop} (hK : vx_Back l R p e below s args y 3 W9 Pre Post PostX)
    {g : JFrame} (hg : g.method = m) (hsize : g.locals.size = c.maxLocals) {argsL rest : List Value} (hlen : ∀ sig, parseMethodDescriptor y.desc = some sig → argsL.length = sig.parameters.length)
    (hstack : g.stack = argsL.reverse ++ rest) (hW : 2 * g.monitorRoom + (rest.map fun v => v.category).sum ≤ W9) (hdg : decode c.code g.pc = .ok (.invokestatic index, 3))
    (hpre : ∀ vm₁, s.WarmedH vm₁ → Pre ⟨T.setVm vm₁, locs, cells, slots⟩ argsL.toArray) :
    (∃ (v : Option Value) (vm₁ : Vm) (B : Pt), s.WarmedH vm₁ ∧ Stand p l e R s m args below meth c B.U B.locs B.cells B.slots ∧ Post ⟨T.setVm vm₁, locs, cells, slots⟩ argsL.toArray v B ∧
      ∀ target, Steps p.tables e below (B.U.setTop { g with pc := g.pc + 3, stack := v.toList ++ rest }) target → Steps p.tables e below (T.setTop g) target) ∨
    (∃ (q : Addr) (vm₁ : Vm) (B : Pt), s.WarmedH vm₁ ∧ Stand p l e R s m args below meth c B.U B.locs B.cells B.slots ∧ PostX ⟨T.setVm vm₁, locs, cells, slots⟩ argsL.toArray q B ∧
      Steps p.tables e below (T.setTop g) ((B.U.setTop { g with stack := rest }).pushFrame (.throwing q))) := by
  obtain ⟨mk, hnamed⟩ := Cond.code_named hcode
  obtain ⟨methM, cM, hmethM, -, -, -, -, -, -, hsigM⟩ := Cond.code_spec hnamed hcode
  have hstatic : methM.isStatic = true := Cond.static_spec hnamed hmethM hstat
  obtain ⟨kP, hkP, -⟩ := className_of_methodNamed hnamed
  have hinitP : kP.init = .initialized := Cond.initialized_spec (findClass_of_methodNamed hnamed) hkP hinit
  obtain ⟨vm₁, X₁, hstep₁⟩ := X.invokestatic hexec hown hlink hnamed hmethM hstatic hkP hinitP hy (g := g) hg (argsL := argsL) (rest := rest) (hlen _ hsigM) hstack hdg
  rcases hK m meth c ⟨T.setVm vm₁, locs, cells, slots⟩ { g with stack := rest } (.invokestatic index) mk argsL.toArray X₁ hg hsize hdg hW (X₁.named hnamed) (hpre vm₁ X₁.warmed) with ⟨v, B, X', hpost, hsteps⟩ | ⟨q, B, X', hpost, hsteps⟩
  · exact Or.inl ⟨v, vm₁, B, X₁.warmed, X', hpost, fun target h => hstep₁ _ fun acts => by rw [doInvoke_state]; exact hsteps.trans h⟩
  · exact Or.inr ⟨q, vm₁, B, X₁.warmed, X', hpost, hstep₁ _ fun acts => by rw [doInvoke_state]; exact hsteps⟩
end Calls
theorem vx_cls {s : State} {T : State} {vm₁ : Vm} {E : String} {k : ClassId} (hW : s.WarmedH vm₁) (h : (T.setVm vm₁).vm.findClass E = some k) : s.vm.findClass E = some k := by
  have h1 : vm₁.findClass E = some k := h
  rw [hW.alike.findClass] at h1
  exact h1
/-- the method's frame g, with q thrown over it -/
def vx_W (p : Program) (l : Launch) (e : Env) (R : Room) (s : State) (m : MethodId) (args : Array Value) (below : List Frame) (meth : Method) (c : Code) (H : Heap) (locs : List Loc) (cells slots : Nat) (Q : State → Prop) (g : JFrame) (q : Addr) : Prop :=
  ∀ T : State, T.heap = H → Stand p l e R s m args below meth c T locs cells slots → ∃ t, Steps p.tables e below ((T.setTop g).pushFrame (.throwing q)) t ∧ Q t
def vx_Run (p : Program) (l : Launch) (e : Env) (R : Room) (s : State) (m : MethodId) (args : Array Value) (below : List Frame) (meth : Method) (c : Code) (H : Heap) (locs : List Loc) (cells slots mc ms : Nat) (g : JFrame) (rest : List Value) (Qa : State → Outcome → State → Prop) (XC : String → State → State → Prop) (free : Addr → Prop) : Prop :=
  ∀ T : State, T.heap = H → Stand p l e R s m args below meth c T locs cells slots →
    (∃ (v : Option Value) (st₀ t T' : State) (L : List Loc), st₀.heap = H ∧ Stand p l e R s m args below meth c T' (locs ++ L) (cells + mc) (slots + ms) ∧ (∀ q ∈ L, free q.base) ∧ T'.heap = t.heap ∧ T'.vm = t.vm ∧ Qa st₀ (.returned v) t ∧
      Goes p e below T g T' { g with pc := g.pc + 3, stack := v.toList ++ rest }) ∨
    (∃ (q : Addr) (st₀ t T' : State) (L : List Loc) (E : String) (ce : Cell), st₀.heap = H ∧ Stand p l e R s m args below meth c T' (locs ++ L) (cells + mc) (slots + ms) ∧ (∀ z ∈ L, free z.base) ∧ T'.heap = t.heap ∧ T'.vm = t.vm ∧ XC E st₀ t ∧ t.heap[q]? = some ce ∧ ce.vm = .none ∧ s.vm.findClass E = some ce.cls ∧
      Steps p.tables e below (T.setTop g) ((T'.setTop { g with stack := rest }).pushFrame (.throwing q)))
def vx_X {S : Type} (px : S → Prop) (B : String → S → State → Prop) (A : Nat → Prop) : String → State → State → Prop := fun E st t => ∃ u : S, px u ∧ B E u t ∧ va_F A st t
section Runs
variable {p : Program} {l : Launch} {e : Env} {R : Room} {s : State} {m : MethodId} {args : Array Value} {below : List Frame} {meth : Method} {c : Code} {H : Heap} {locs : List Loc} {cells slots : Nat}
variable {y : MethodName} {bytes cc : ByteArray} {maxL nL mc ms n index : Nat} {ret : Option FieldType} {ws : List Cond} {rm : Room} {Pc : Array Value → State → Prop} {Qc : Array Value → State → Outcome → State → Prop} {XC : String → State → State → Prop} {free : Addr → Prop} {Ts : List Cond} {own C : String} {b : Addr} {As rest : List Value} {g : JFrame}
theorem vx_callBack (cb : CallB R s args own index y bytes maxL ret ws rm mc ms n) (hM : vx_Met l y ws rm Pc Qc XC mc ms free) (hbl : FrameBlind Pc) : vx_Back l R p e below s args y 3 8 (PreOf R mc ms Pc) (PostOf Qc mc ms free) (vx_Post XC mc ms free) := by
  obtain ⟨hrc, hrs, hfr, hlo, hws, hcw, -, hini, -⟩ := cb
  exact vx_back (bytes := bytes) (maxL := maxL) (ret := ret) hM hbl hrc hrs hfr hlo hws hcw (fun a' U hW => word_at hW (Or.inl (by first | rfl | simp [Cond.onTables, Cond.keeps, Cond.steady])) hini)
theorem vx_runV (S : CallFix p m c cc nL s args Ts own) (hM : vx_Met l y ws rm Pc Qc XC mc ms free) (cw : CallW R s args own C index y bytes maxL ret ws rm mc ms n) (hp : PreV s H C b Pc As)
    (hg : g.method = m) (hn : As.length = n) (hsize : g.locals.size = nL) (hstack : g.stack = As.reverse ++ .ref b :: rest) (hW : 2 * g.monitorRoom + (rest.map fun v => v.category).sum ≤ 8) (hdg : decode cc g.pc = .ok (.invokevirtual index, 3)) (hf : cells + mc ≤ R.cells ∧ slots + ms ≤ R.slots) :
    vx_Run p l e R s m args below meth c H locs cells slots mc ms g rest (Qc (Value.ref b :: As).toArray) XC free := by
  have hK : vx_Back l R p e below s args y 3 8 (PreOf R mc ms Pc) (PostOf Qc mc ms free) (vx_Post XC mc ms free) := vx_callBack cw.1 hM hp.1
  obtain ⟨⟨-, -, -, -, -, -, hcode, -, hy, hlen, hl⟩, hin, hse⟩ := cw
  obtain ⟨hx, hb, hml, ho, -⟩ := S
  obtain ⟨-, ⟨cellB, hcB, hoB, hclB⟩, hPc⟩ := hp
  intro T hT X
  rcases vx_callV X hx (C := C) (bytes := bytes) (maxL := maxL) (ret := ret) ho hl hin hse hcode hy hK (by rw [hT]; exact hcB) hoB hclB hg (hsize.trans hml.symm) (argsL := As) (rest := rest) (fun sig h => hn.trans (hlen sig h)) hstack hW (by rw [hb]; exact hdg)
    (fun vm₁ hW₁ => ⟨hf.1, hf.2, hPc (T.setVm vm₁) hT hW₁⟩) with ⟨v, vm₁, ⟨U', l2, c2, s2⟩, hW₁, X', ⟨g', mk, t, L, e1, e2, hq, h1, hL, h2, h3⟩, st⟩ | ⟨q, vm₁, ⟨U', l2, c2, s2⟩, hW₁, X', ⟨g', mk, t, L, E, ce, e1, e2, hq, hce, hcv, hcl, h1, hL, h2, h3⟩, st⟩
  · dsimp only [Pt.U, Pt.locs, Pt.cells, Pt.slots] at X' e1 e2 h1 h2 h3 st
    subst h1; subst h2; subst h3
    exact Or.inl ⟨v, (T.setVm vm₁).calling g' mk (Value.ref b :: As).toArray, t, U', L, hT, X', hL, e1, e2, hq, st⟩
  · dsimp only [Pt.U, Pt.locs, Pt.cells, Pt.slots] at X' e1 e2 h1 h2 h3 st hcl
    subst h1; subst h2; subst h3
    exact Or.inr ⟨q, (T.setVm vm₁).calling g' mk (Value.ref b :: As).toArray, t, U', L, E, ce, hT, X', hL, e1, e2, hq, hce, hcv, vx_cls hW₁ hcl, st⟩
theorem vx_runS (S : CallFix p m c cc nL s args Ts own) (hM : vx_Met l y ws rm Pc Qc XC mc ms free) (cw : CallB R s args own index y bytes maxL ret ws rm mc ms n ∧ (Cond.static y).before args s = true) (hp : PreS s H Pc As)
    (hg : g.method = m) (hn : As.length = n) (hsize : g.locals.size = nL) (hstack : g.stack = As.reverse ++ rest) (hW : 2 * g.monitorRoom + (rest.map fun v => v.category).sum ≤ 8) (hdg : decode cc g.pc = .ok (.invokestatic index, 3)) (hf : cells + mc ≤ R.cells ∧ slots + ms ≤ R.slots) :
    vx_Run p l e R s m args below meth c H locs cells slots mc ms g rest (Qc As.toArray) XC free := by
  have hK : vx_Back l R p e below s args y 3 8 (PreOf R mc ms Pc) (PostOf Qc mc ms free) (vx_Post XC mc ms free) := vx_callBack cw.1 hM hp.1
  obtain ⟨⟨-, -, -, -, -, -, hcode, hini, hy, hlen, hl⟩, hstt⟩ := cw
  obtain ⟨hx, hb, hml, ho, -⟩ := S
  intro T hT X
  rcases vx_callS X hx (bytes := bytes) (maxL := maxL) (ret := ret) ho hl hstt hini hcode hy hK hg (hsize.trans hml.symm) (argsL := As) (rest := rest) (fun sig h => hn.trans (hlen sig h)) hstack hW (by rw [hb]; exact hdg)
    (fun vm₁ hW₁ => ⟨hf.1, hf.2, hp.2 (T.setVm vm₁) hT hW₁⟩) with ⟨v, vm₁, ⟨U', l2, c2, s2⟩, hW₁, X', ⟨g', mk, t, L, e1, e2, hq, h1, hL, h2, h3⟩, st⟩ | ⟨q, vm₁, ⟨U', l2, c2, s2⟩, hW₁, X', ⟨g', mk, t, L, E, ce, e1, e2, hq, hce, hcv, hcl, h1, hL, h2, h3⟩, st⟩
  · dsimp only [Pt.U, Pt.locs, Pt.cells, Pt.slots] at X' e1 e2 h1 h2 h3 st
    subst h1; subst h2; subst h3
    exact Or.inl ⟨v, (T.setVm vm₁).calling g' mk As.toArray, t, U', L, hT, X', hL, e1, e2, hq, st⟩
  · dsimp only [Pt.U, Pt.locs, Pt.cells, Pt.slots] at X' e1 e2 h1 h2 h3 st hcl
    subst h1; subst h2; subst h3
    exact Or.inr ⟨q, (T.setVm vm₁).calling g' mk As.toArray, t, U', L, E, ce, hT, X', hL, e1, e2, hq, hce, hcv, vx_cls hW₁ hcl, st⟩
end Runs
section Rows
variable {p : Program} {l : Launch} {e : Env} {R : Room} {s : State} {m : MethodId} {args : Array Value} {below : List Frame} {meth : Method} {c : Code} {H : Heap} {locs : List Loc} {cells slots : Nat} {Q : State → Prop}
variable {mc ms : Nat} {free : Addr → Prop} {A0 A1 : Nat → Prop} {H0 : Heap} {a : Array Value} {pc : Nat} {ls : Array Slot} {st0 rest : List Value}
theorem vx_keep {st₀ t T' : State} {L : List Loc} (h0 : st₀.heap = H) (e1 : T'.heap = t.heap) (hS : va_S A0 H0 H locs) (hA : ∀ q, q < H.size → A1 q → A0 q) (hf : ∀ q, free q → A0 q) (hL : ∀ q ∈ L, free q.base) (hF : va_F A1 st₀ t) :
    H.size ≤ T'.heap.size ∧ (∀ q : Nat, q < H.size → ¬ A1 q → T'.heap[q]? = H[q]?) ∧ va_S A0 H0 T'.heap (locs ++ L) := by
  obtain ⟨hz, hk⟩ := hF
  rw [h0] at hz hk
  exact ⟨by rw [e1]; exact hz, fun q h1 h2 => by rw [e1]; exact hk q h1 h2,
    ⟨Nat.le_trans hS.1 (by rw [e1]; exact hz), fun q h1 h2 => by rw [e1, hk q (Nat.lt_of_lt_of_le h1 hS.1) (fun z => h2 (hA q (Nat.lt_of_lt_of_le h1 hS.1) z))]; exact hS.2.1 q h1 h2, fun q hq => by
      rcases List.mem_append.mp hq with h | h
      · exact hS.2.2 q h
      · exact hf _ (hL q h)⟩⟩
theorem vx_calli {S SX : Type} {post : Int32 → S → Prop} {px : SX → Prop} {B : S → State → Prop} {BX : String → SX → State → Prop} {AX : Nat → Prop} (hr : vx_Run p l e R s m args below meth c H locs cells slots mc ms (F0 m pc ls st0) rest (va_Qi post B A1 a) (vx_X px BX AX) free) (hS : va_S A0 H0 H locs) (hA : ∀ q, q < H.size → A1 q → A0 q) (hf : ∀ q, free q → A0 q) (hAX : ∀ q, q < H.size → AX q → A0 q)
    (kx : ∀ (E : String) (ce : Cell) (q9 : Addr) (u : SX) (t : State) (H1 : Heap) (locs1 : List Loc), t.heap = H1 → s.vm.Alike t.vm → px u → BX E u t → H.size ≤ H1.size → (∀ q : Nat, q < H.size → ¬ AX q → H1[q]? = H[q]?) → va_S A0 H0 H1 locs1 → H1[q9]? = some ce → ce.vm = .none → s.vm.findClass E = some ce.cls → vx_W p l e R s m args below meth c H1 locs1 (cells + mc) (slots + ms) Q (F0 m pc ls rest) q9)
    (kk : ∀ (r : Int32) (u : S) (t : State) (H1 : Heap) (locs1 : List Loc), t.heap = H1 → s.vm.Alike t.vm → post r u → B u t → H.size ≤ H1.size → (∀ q : Nat, q < H.size → ¬ A1 q → H1[q]? = H[q]?) → va_S A0 H0 H1 locs1 → W p l e R s m args below meth c H1 locs1 (cells + mc) (slots + ms) Q (F0 m (pc + 3) ls (.int r :: rest))) : W p l e R s m args below meth c H locs cells slots Q (F0 m pc ls st0) := by
  intro T hT X
  rcases hr T hT X with ⟨v, st₀, t, T', L, h0, X', hL, e1, e2, ⟨⟨r, u, hv, hp, hb⟩, hF⟩, st⟩ | ⟨q, st₀, t, T', L, E, ce, h0, X', hL, e1, e2, ⟨u, hp, hb, hF⟩, hce, hcv, hcl, st⟩
  · cases hv
    obtain ⟨k1, k2, k3⟩ := vx_keep h0 e1 hS hA hf hL hF
    obtain ⟨t2, a1, b1⟩ := kk r u t T'.heap (locs ++ L) e1.symm (by rw [← e2]; exact X'.warmed.alike) hp hb k1 k2 k3 T' rfl X'
    exact ⟨t2, st t2 a1, b1⟩
  · obtain ⟨k1, k2, k3⟩ := vx_keep h0 e1 hS hAX hf hL hF
    obtain ⟨t2, a1, b1⟩ := kx E ce q u t T'.heap (locs ++ L) e1.symm (by rw [← e2]; exact X'.warmed.alike) hp hb k1 k2 k3 (by rw [e1]; exact hce) hcv hcl T' rfl X'
    exact ⟨t2, st.trans a1, b1⟩
theorem vx_calll {S SX : Type} {post : Int64 → S → Prop} {px : SX → Prop} {B : S → State → Prop} {BX : String → SX → State → Prop} {AX : Nat → Prop} (hr : vx_Run p l e R s m args below meth c H locs cells slots mc ms (F0 m pc ls st0) rest (va_Ql post B A1 a) (vx_X px BX AX) free) (hS : va_S A0 H0 H locs) (hA : ∀ q, q < H.size → A1 q → A0 q) (hf : ∀ q, free q → A0 q) (hAX : ∀ q, q < H.size → AX q → A0 q)
    (kx : ∀ (E : String) (ce : Cell) (q9 : Addr) (u : SX) (t : State) (H1 : Heap) (locs1 : List Loc), t.heap = H1 → s.vm.Alike t.vm → px u → BX E u t → H.size ≤ H1.size → (∀ q : Nat, q < H.size → ¬ AX q → H1[q]? = H[q]?) → va_S A0 H0 H1 locs1 → H1[q9]? = some ce → ce.vm = .none → s.vm.findClass E = some ce.cls → vx_W p l e R s m args below meth c H1 locs1 (cells + mc) (slots + ms) Q (F0 m pc ls rest) q9)
    (kk : ∀ (r : Int64) (u : S) (t : State) (H1 : Heap) (locs1 : List Loc), t.heap = H1 → s.vm.Alike t.vm → post r u → B u t → H.size ≤ H1.size → (∀ q : Nat, q < H.size → ¬ A1 q → H1[q]? = H[q]?) → va_S A0 H0 H1 locs1 → W p l e R s m args below meth c H1 locs1 (cells + mc) (slots + ms) Q (F0 m (pc + 3) ls (.long r :: rest))) : W p l e R s m args below meth c H locs cells slots Q (F0 m pc ls st0) := by
  intro T hT X
  rcases hr T hT X with ⟨v, st₀, t, T', L, h0, X', hL, e1, e2, ⟨⟨r, u, hv, hp, hb⟩, hF⟩, st⟩ | ⟨q, st₀, t, T', L, E, ce, h0, X', hL, e1, e2, ⟨u, hp, hb, hF⟩, hce, hcv, hcl, st⟩
  · cases hv
    obtain ⟨k1, k2, k3⟩ := vx_keep h0 e1 hS hA hf hL hF
    obtain ⟨t2, a1, b1⟩ := kk r u t T'.heap (locs ++ L) e1.symm (by rw [← e2]; exact X'.warmed.alike) hp hb k1 k2 k3 T' rfl X'
    exact ⟨t2, st t2 a1, b1⟩
  · obtain ⟨k1, k2, k3⟩ := vx_keep h0 e1 hS hAX hf hL hF
    obtain ⟨t2, a1, b1⟩ := kx E ce q u t T'.heap (locs ++ L) e1.symm (by rw [← e2]; exact X'.warmed.alike) hp hb k1 k2 k3 (by rw [e1]; exact hce) hcv hcl T' rfl X'
    exact ⟨t2, st.trans a1, b1⟩
theorem vx_callf {S SX : Type} {post : UInt32 → S → Prop} {px : SX → Prop} {B : S → State → Prop} {BX : String → SX → State → Prop} {AX : Nat → Prop} (hr : vx_Run p l e R s m args below meth c H locs cells slots mc ms (F0 m pc ls st0) rest (va_Qf post B A1 a) (vx_X px BX AX) free) (hS : va_S A0 H0 H locs) (hA : ∀ q, q < H.size → A1 q → A0 q) (hf : ∀ q, free q → A0 q) (hAX : ∀ q, q < H.size → AX q → A0 q)
    (kx : ∀ (E : String) (ce : Cell) (q9 : Addr) (u : SX) (t : State) (H1 : Heap) (locs1 : List Loc), t.heap = H1 → s.vm.Alike t.vm → px u → BX E u t → H.size ≤ H1.size → (∀ q : Nat, q < H.size → ¬ AX q → H1[q]? = H[q]?) → va_S A0 H0 H1 locs1 → H1[q9]? = some ce → ce.vm = .none → s.vm.findClass E = some ce.cls → vx_W p l e R s m args below meth c H1 locs1 (cells + mc) (slots + ms) Q (F0 m pc ls rest) q9)
    (kk : ∀ (r : UInt32) (u : S) (t : State) (H1 : Heap) (locs1 : List Loc), t.heap = H1 → s.vm.Alike t.vm → post r u → B u t → H.size ≤ H1.size → (∀ q : Nat, q < H.size → ¬ A1 q → H1[q]? = H[q]?) → va_S A0 H0 H1 locs1 → W p l e R s m args below meth c H1 locs1 (cells + mc) (slots + ms) Q (F0 m (pc + 3) ls (.float r :: rest))) : W p l e R s m args below meth c H locs cells slots Q (F0 m pc ls st0) := by
  intro T hT X
  rcases hr T hT X with ⟨v, st₀, t, T', L, h0, X', hL, e1, e2, ⟨⟨r, u, hv, hp, hb⟩, hF⟩, st⟩ | ⟨q, st₀, t, T', L, E, ce, h0, X', hL, e1, e2, ⟨u, hp, hb, hF⟩, hce, hcv, hcl, st⟩
  · cases hv
    obtain ⟨k1, k2, k3⟩ := vx_keep h0 e1 hS hA hf hL hF
    obtain ⟨t2, a1, b1⟩ := kk r u t T'.heap (locs ++ L) e1.symm (by rw [← e2]; exact X'.warmed.alike) hp hb k1 k2 k3 T' rfl X'
    exact ⟨t2, st t2 a1, b1⟩
  · obtain ⟨k1, k2, k3⟩ := vx_keep h0 e1 hS hAX hf hL hF
    obtain ⟨t2, a1, b1⟩ := kx E ce q u t T'.heap (locs ++ L) e1.symm (by rw [← e2]; exact X'.warmed.alike) hp hb k1 k2 k3 (by rw [e1]; exact hce) hcv hcl T' rfl X'
    exact ⟨t2, st.trans a1, b1⟩
theorem vx_calld {S SX : Type} {post : UInt64 → S → Prop} {px : SX → Prop} {B : S → State → Prop} {BX : String → SX → State → Prop} {AX : Nat → Prop} (hr : vx_Run p l e R s m args below meth c H locs cells slots mc ms (F0 m pc ls st0) rest (va_Qd post B A1 a) (vx_X px BX AX) free) (hS : va_S A0 H0 H locs) (hA : ∀ q, q < H.size → A1 q → A0 q) (hf : ∀ q, free q → A0 q) (hAX : ∀ q, q < H.size → AX q → A0 q)
    (kx : ∀ (E : String) (ce : Cell) (q9 : Addr) (u : SX) (t : State) (H1 : Heap) (locs1 : List Loc), t.heap = H1 → s.vm.Alike t.vm → px u → BX E u t → H.size ≤ H1.size → (∀ q : Nat, q < H.size → ¬ AX q → H1[q]? = H[q]?) → va_S A0 H0 H1 locs1 → H1[q9]? = some ce → ce.vm = .none → s.vm.findClass E = some ce.cls → vx_W p l e R s m args below meth c H1 locs1 (cells + mc) (slots + ms) Q (F0 m pc ls rest) q9)
    (kk : ∀ (r : UInt64) (u : S) (t : State) (H1 : Heap) (locs1 : List Loc), t.heap = H1 → s.vm.Alike t.vm → post r u → B u t → H.size ≤ H1.size → (∀ q : Nat, q < H.size → ¬ A1 q → H1[q]? = H[q]?) → va_S A0 H0 H1 locs1 → W p l e R s m args below meth c H1 locs1 (cells + mc) (slots + ms) Q (F0 m (pc + 3) ls (.double r :: rest))) : W p l e R s m args below meth c H locs cells slots Q (F0 m pc ls st0) := by
  intro T hT X
  rcases hr T hT X with ⟨v, st₀, t, T', L, h0, X', hL, e1, e2, ⟨⟨r, u, hv, hp, hb⟩, hF⟩, st⟩ | ⟨q, st₀, t, T', L, E, ce, h0, X', hL, e1, e2, ⟨u, hp, hb, hF⟩, hce, hcv, hcl, st⟩
  · cases hv
    obtain ⟨k1, k2, k3⟩ := vx_keep h0 e1 hS hA hf hL hF
    obtain ⟨t2, a1, b1⟩ := kk r u t T'.heap (locs ++ L) e1.symm (by rw [← e2]; exact X'.warmed.alike) hp hb k1 k2 k3 T' rfl X'
    exact ⟨t2, st t2 a1, b1⟩
  · obtain ⟨k1, k2, k3⟩ := vx_keep h0 e1 hS hAX hf hL hF
    obtain ⟨t2, a1, b1⟩ := kx E ce q u t T'.heap (locs ++ L) e1.symm (by rw [← e2]; exact X'.warmed.alike) hp hb k1 k2 k3 (by rw [e1]; exact hce) hcv hcl T' rfl X'
    exact ⟨t2, st.trans a1, b1⟩
theorem vx_callv {S SX : Type} {post : S → Prop} {px : SX → Prop} {B : S → State → Prop} {BX : String → SX → State → Prop} {AX : Nat → Prop} (hr : vx_Run p l e R s m args below meth c H locs cells slots mc ms (F0 m pc ls st0) rest (va_Qv post B A1 a) (vx_X px BX AX) free) (hS : va_S A0 H0 H locs) (hA : ∀ q, q < H.size → A1 q → A0 q) (hf : ∀ q, free q → A0 q) (hAX : ∀ q, q < H.size → AX q → A0 q)
    (kx : ∀ (E : String) (ce : Cell) (q9 : Addr) (u : SX) (t : State) (H1 : Heap) (locs1 : List Loc), t.heap = H1 → s.vm.Alike t.vm → px u → BX E u t → H.size ≤ H1.size → (∀ q : Nat, q < H.size → ¬ AX q → H1[q]? = H[q]?) → va_S A0 H0 H1 locs1 → H1[q9]? = some ce → ce.vm = .none → s.vm.findClass E = some ce.cls → vx_W p l e R s m args below meth c H1 locs1 (cells + mc) (slots + ms) Q (F0 m pc ls rest) q9)
    (kk : ∀ (u : S) (t : State) (H1 : Heap) (locs1 : List Loc), t.heap = H1 → s.vm.Alike t.vm → post u → B u t → H.size ≤ H1.size → (∀ q : Nat, q < H.size → ¬ A1 q → H1[q]? = H[q]?) → va_S A0 H0 H1 locs1 → W p l e R s m args below meth c H1 locs1 (cells + mc) (slots + ms) Q (F0 m (pc + 3) ls (rest))) : W p l e R s m args below meth c H locs cells slots Q (F0 m pc ls st0) := by
  intro T hT X
  rcases hr T hT X with ⟨v, st₀, t, T', L, h0, X', hL, e1, e2, ⟨⟨u, hv, hp, hb⟩, hF⟩, st⟩ | ⟨q, st₀, t, T', L, E, ce, h0, X', hL, e1, e2, ⟨u, hp, hb, hF⟩, hce, hcv, hcl, st⟩
  · cases hv
    obtain ⟨k1, k2, k3⟩ := vx_keep h0 e1 hS hA hf hL hF
    obtain ⟨t2, a1, b1⟩ := kk u t T'.heap (locs ++ L) e1.symm (by rw [← e2]; exact X'.warmed.alike) hp hb k1 k2 k3 T' rfl X'
    exact ⟨t2, st t2 a1, b1⟩
  · obtain ⟨k1, k2, k3⟩ := vx_keep h0 e1 hS hAX hf hL hF
    obtain ⟨t2, a1, b1⟩ := kx E ce q u t T'.heap (locs ++ L) e1.symm (by rw [← e2]; exact X'.warmed.alike) hp hb k1 k2 k3 (by rw [e1]; exact hce) hcv hcl T' rfl X'
    exact ⟨t2, st.trans a1, b1⟩
/-- caught by the row x of this method's table; the rows ahead don't take it -/
theorem vx_catch {own name : String} {E : String} {ce : Cell} {q : Addr} (hown : s.vm.findClass own = some m.cls) (pre : List ExceptionTableEntry) (x : ExceptionTableEntry) (suf : List ExceptionTableEntry) (hsplit : c.exceptionTable.toList = pre ++ x :: suf)
    (hpass : ∀ z ∈ pre, covers z pc = false ∨ (z.catchType ≠ 0 ∧ ∃ nm : String, (Cond.classLink own z.catchType nm).before args s = true ∧ va_Nc E nm s)) (hx : covers x pc = true) (h0 : x.catchType ≠ 0)
    (hlink : (Cond.classLink own x.catchType name).before args s = true) (hcast : (Cond.castable E name).before args s = true) (hcell : H[q]? = some ce) (hv : ce.vm = .none) (hcl : s.vm.findClass E = some ce.cls)
    (kk : W p l e R s m args below meth c H locs cells slots Q (F0 m x.handlerPc ls [.ref q])) : vx_W p l e R s m args below meth c H locs cells slots Q (F0 m pc ls rest) q := by
  intro T hT X
  have hpl : e.platform.magicAccessors = ({} : Platform).magicAccessors := by rw [X.admits.platform]
  obtain ⟨c3, c4, hc3, hc4, hasg⟩ := Cond.castable_spec hcast
  cases Option.some.inj (hc3.symm.trans hcl)
  obtain ⟨c5, hc5, hcl5⟩ := Cond.classLink_spec hown hlink e.platform hpl
  cases Option.some.inj (hc4.symm.trans hc5)
  obtain ⟨vm', X', st⟩ := X.thenCaughtThrough q (g := F0 m pc ls rest) rfl (Steps.refl _) (by rw [hT]; exact hcell) (by rw [hv]; rfl) (by obtain ⟨k9, h9, -⟩ := Vm.findClass_spec hcl; exact ⟨k9, h9⟩) pre x suf hsplit
    (fun z hz => by
      rcases hpass z hz with h | ⟨hz0, nm, hl1, hn1⟩
      · exact Or.inl h
      · obtain ⟨c6, hc6, hcl6⟩ := Cond.classLink_spec hown hl1 e.platform hpl
        obtain ⟨a8, b8, h1, h2, h3⟩ := hn1
        cases Option.some.inj (h1.symm.trans hcl)
        cases Option.some.inj (h2.symm.trans hc6)
        exact Or.inr ⟨hz0, _, hcl6, h3⟩) hx (Or.inr ⟨h0, c4, hcl5, hasg⟩)
  obtain ⟨t, a1, b1⟩ := kk (T.setVm vm') hT X'
  exact ⟨t, st.trans a1, b1⟩
end Rows
section Ends
variable {p : Program} {l : Launch} {e : Env} {R : Room} {s : State} {m : MethodId} {args : Array Value} {below : List Frame} {meth : Method} {c : Code} {H : Heap} {locs : List Loc} {cells slots : Nat} {Q : State → Prop}
variable {mc ms : Nat} {free : Addr → Prop} {A0 A1 : Nat → Prop} {H0 : Heap} {a : Array Value} {ls : Array Slot} {st0 rest : List Value}
variable {Qc : Array Value → State → Outcome → State → Prop} {XC : String → State → State → Prop}
/-- what a body that may throw owes at its end -/
def vx_MQ (below : List Frame) (Qc : Array Value → State → Outcome → State → Prop) (XC : String → State → State → Prop) (a : Array Value) (s : State) (mc ms : Nat) (free : Addr → Prop) : State → Prop := fun t =>
  ∃ o, t.status = .running ∧ Ended t below o ∧ vx_Q Qc XC mc ms free a s o t
theorem vx_ret {g : JFrame} {mc ms : Nat} (k : W p l e R s m args below meth c H locs cells slots (MQ below Qc args s mc ms free) g) : W p l e R s m args below meth c H locs cells slots (vx_MQ below Qc XC args s mc ms free) g := by
  intro T hT X
  obtain ⟨t, a1, o, b1, b2, b3, b4⟩ := k T hT X
  exact ⟨t, a1, o, b1, b2, Or.inl ⟨b3, b4⟩⟩
/-- not caught here: it goes on to the caller -/
theorem vx_widen {g : JFrame} {q : Addr} {k n : Nat} (h1 : cells ≤ k) (h2 : slots ≤ n) (kk : vx_W p l e R s m args below meth c H locs k n Q g q) : vx_W p l e R s m args below meth c H locs cells slots Q g q := fun T hT X => kk T hT (stand_widen X h1 h2)
theorem vx_out {pc : Nat} {E : String} {ce : Cell} {q : Addr} {mc ms : Nat} (hout : ∀ x ∈ c.exceptionTable.toList, covers x pc = false) (hlocks : meth.locks = false) (hcell : H[q]? = some ce) (hv : ce.vm = .none) (hcl : s.vm.findClass E = some ce.cls)
    (hx : ∀ t : State, t.heap = H → s.vm.Alike t.vm → XC E s t) (hf : ∀ z ∈ locs, free z.base) (hc : cells ≤ mc) (hs : slots ≤ ms) :
    vx_W p l e R s m args below meth c H locs cells slots (vx_MQ below Qc XC args s mc ms free) (F0 m pc ls rest) q := by
  intro T hT X
  obtain ⟨st1, hrun, hend, hW, hsm⟩ := X.leaveThrown q (g := F0 m pc ls rest) rfl rfl rfl hout hlocks
  have hcell9 : (T.setFrames (.throwing q :: below)).heap[q]? = some ce := by
    show T.heap[q]? = some ce
    rw [hT]; exact hcell
  exact ⟨_, st1, .threw q, hrun, hend, Or.inr ⟨q, rfl, E, ce, locs, hx _ hT hW.alike, hcell9, hv, hcl, hW, hsm.mono hc hs, hf⟩⟩
theorem vx_frame {U : State} {k n : Nat} (h : s.sameButNew ({ U with vm := s.vm } : State) locs k n) : s.heap.size ≤ U.heap.size ∧ ∀ q : Nat, q < s.heap.size → (∀ z ∈ locs, z.base ≠ q) → U.heap[q]? = s.heap[q]? := by
  obtain ⟨-, h2, -, -, -, h6⟩ := h
  refine ⟨h2, fun q hq hz => ?_⟩
  obtain ⟨c9, e1, e2, e3, e4⟩ := h6 q _ (Array.getElem?_eq_getElem hq)
  have hs : c9.slots = (s.heap[q]).slots := Array.ext_getElem? fun i => e4 i fun hm => hz _ hm rfl
  have h9 : c9 = s.heap[q] := by
    rw [hs] at e2
    exact e2
  have e5 : U.heap[q]? = some c9 := e1
  rw [e5, h9, Array.getElem?_eq_getElem hq]
/-- the words of a throw but the four that speak of the heap -/
def vx_no (w : Cond) : Bool := decide (w ≠ .isRef (.static Bundle.tN "UNASSIGNED_STACK" Bundle.steD)) && decide (w ≠ .isRef (.static Bundle.tN "SUPPRESSED_SENTINEL" Bundle.listD)) && decide (w ≠ .laysStatic Bundle.tN "UNASSIGNED_STACK" Bundle.steD) && decide (w ≠ .laysStatic Bundle.tN "SUPPRESSED_SENTINEL" Bundle.listD)
def vx_at0 (own : String) (ic : Nat) (X : String) (names : List String) : List Cond := (Bundle.ownAtoms0 own ic X names).filter vx_no
def vx_atS (own : String) (ic : Nat) (X : String) (names : List String) : List Cond := (Bundle.ownAtoms own ic X names).filter vx_no
/-- a word that the tables alone decide, or a good one -/
def vx_ot (w : Cond) : Bool := w.onTables || goodWord w
theorem vx_ot_at {args a' : Array Value} {s U : State} {w : Cond} (hW : s.WarmedH U.vm) (hvm : s.vm = U.vm) (hg : vx_ot w = true) (h : w.before args s = true) : w.before a' U = true := by
  simp only [vx_ot, Bool.or_eq_true] at hg
  rcases hg with hg | hg
  · exact va_tabs hg hvm h
  · exact word_at hW (good_of_word hg) h
/-- a list's words: the good ones out of the method's own list, the others by premises of their own -/
theorem vx_hat {args : Array Value} {s : State} {L B : List Cond} (h1 : ∀ w ∈ L.filter goodWord, w.before args s = true) (h2 : ∀ w ∈ L.filter (fun w => !goodWord w), w ∈ B) (h3 : ∀ w ∈ B, w.before args s = true) : ∀ w ∈ L, w.before args s = true := by
  intro w hw
  by_cases g : goodWord w = true
  · exact h1 w (List.mem_filter.mpr ⟨hw, g⟩)
  · refine h3 w (h2 w (List.mem_filter.mpr ⟨hw, ?_⟩))
    show (!goodWord w) = true
    cases hgw : goodWord w
    · rfl
    · exact absurd hgw g
theorem vx_c {args : Array Value} {s : State} {w : Cond} {B : List Cond} (h : w.before args s = true) (t : ∀ w ∈ B, w.before args s = true) : ∀ w' ∈ w :: B, w'.before args s = true := fun w' h' => (List.mem_cons.mp h').elim (fun e => by rw [e]; exact h) (t w')
theorem vx_n {args : Array Value} {s : State} : ∀ w ∈ ([] : List Cond), w.before args s = true := fun _ h => nomatch h
theorem vx_own {args : Array Value} {s : State} {L : List Cond} (h1 : ∀ w ∈ L.filter vx_no, w.before args s = true)
    (hU : (Cond.isRef (.static Bundle.tN "UNASSIGNED_STACK" Bundle.steD)).before args s = true) (hN : (Cond.isRef (.static Bundle.tN "SUPPRESSED_SENTINEL" Bundle.listD)).before args s = true)
    (lU : (Cond.laysStatic Bundle.tN "UNASSIGNED_STACK" Bundle.steD).before args s = true) (lN : (Cond.laysStatic Bundle.tN "SUPPRESSED_SENTINEL" Bundle.listD).before args s = true) : ∀ w ∈ L, w.before args s = true := by
  intro w hw
  by_cases e1 : w = .isRef (.static Bundle.tN "UNASSIGNED_STACK" Bundle.steD)
  · rw [e1]; exact hU
  · by_cases e2 : w = .isRef (.static Bundle.tN "SUPPRESSED_SENTINEL" Bundle.listD)
    · rw [e2]; exact hN
    · by_cases e3 : w = .laysStatic Bundle.tN "UNASSIGNED_STACK" Bundle.steD
      · rw [e3]; exact lU
      · by_cases e4 : w = .laysStatic Bundle.tN "SUPPRESSED_SENTINEL" Bundle.listD
        · rw [e4]; exact lN
        · exact h1 w (List.mem_filter.mpr ⟨hw, by unfold vx_no; rw [decide_eq_true e1, decide_eq_true e2, decide_eq_true e3, decide_eq_true e4]; rfl⟩)
/-- where a static field lies, its class's statics cell in H -/
def vx_L (C n d : String) (A : Nat → Prop) (U : State) (H : Heap) : Prop := ∃ (c : ClassId) (k : Class) (i : Nat) (f : Field) (a : Nat) (cell : Cell), U.vm.findClass C = some c ∧ U.fieldFound? C n d = some (c, k, i, f) ∧ f.isStatic = true ∧ k.statics = some a ∧ H[a]? = some cell ∧ cell.vm.isStatics = true ∧ cell.cls = c ∧ f.slot < cell.slots.size ∧ k.staticTypes[f.slot]? = some f.type ∧ ¬ A a
theorem vx_L.moved {C n d : String} {A : Nat → Prop} {u U : State} {H : Heap} (hvm : u.vm.Alike U.vm) (h : vx_L C n d A u H) : vx_L C n d A U H := by
  obtain ⟨c, k, i, f, a, cell, h1, h2, h3, h4, h5, h6, h7, h8, h9, h10⟩ := h
  obtain ⟨k', hi', he⟩ := State.fieldFound?_setVm hvm h2
  exact ⟨c, k', i, f, a, cell, by rw [hvm.findClass]; exact h1, hi', h3, by rw [he]; exact h4, h5, h6, h7, h8, by rw [he]; exact h9, h10⟩
theorem vx_L.kept {C n d : String} {A : Nat → Prop} {U : State} {H H1 : Heap} (h : vx_L C n d A U H) (hq : ∀ a : Nat, a < H.size → ¬ A a → H1[a]? = H[a]?) : vx_L C n d A U H1 := by
  obtain ⟨c, k, i, f, a, cell, h1, h2, h3, h4, h5, h6, h7, h8, h9, h10⟩ := h
  exact ⟨c, k, i, f, a, cell, h1, h2, h3, h4, by rw [hq a (Array.getElem?_eq_some_iff.mp h5).1 h10]; exact h5, h6, h7, h8, h9, h10⟩
theorem vx_L.narrow {C n d : String} {A B : Nat → Prop} {U : State} {H : Heap} (h : vx_L C n d A U H) (hAB : ∀ q, B q → A q) : vx_L C n d B U H := by
  obtain ⟨c, k, i, f, a, cell, h1, h2, h3, h4, h5, h6, h7, h8, h9, h10⟩ := h
  exact ⟨c, k, i, f, a, cell, h1, h2, h3, h4, h5, h6, h7, h8, h9, fun z => h10 (hAB _ z)⟩
theorem vx_L.word {C n d : String} {A : Nat → Prop} {s : State} {args : Array Value} (h : vx_L C n d A s s.heap) : (Cond.laysStatic C n d).before args s = true := by
  obtain ⟨c, k, i, f, a, cell, h1, h2, h3, h4, h5, h6, h7, h8, h9, -⟩ := h
  show (Cond.laysStatic C n d).holds args s none s [] = true
  exact Cond.laysStatic_of h1 h2 h3 h4 h5 h6 h7 h8 h9
/-- .. and what it holds: null or some reference -/
def vx_Zq (C n d : String) (A : Nat → Prop) (U : State) (H : Heap) : Prop := va_Zq C n d A U H ∧ vx_L C n d A U H
theorem vx_Zq.moved {C n d : String} {A : Nat → Prop} {u U : State} {H : Heap} (hvm : u.vm.Alike U.vm) (h : vx_Zq C n d A u H) : vx_Zq C n d A U H := ⟨va_Zq.moved hvm h.1, vx_L.moved hvm h.2⟩
theorem vx_Zq.kept {C n d : String} {A : Nat → Prop} {U : State} {H H1 : Heap} (h : vx_Zq C n d A U H) (hq : ∀ a : Nat, a < H.size → ¬ A a → H1[a]? = H[a]?) : vx_Zq C n d A U H1 := ⟨va_Zq.kept h.1 hq, vx_L.kept h.2 hq⟩
theorem vx_Zq.narrow {C n d : String} {A B : Nat → Prop} {U : State} {H : Heap} (h : vx_Zq C n d A U H) (hAB : ∀ q, B q → A q) : vx_Zq C n d B U H := ⟨va_Zq.narrow h.1 hAB, vx_L.narrow h.2 hAB⟩
theorem vx_Zqof {args : Array Value} {s : State} {C n d : String} {A : Nat → Prop} (hl : (Cond.laysStatic C n d).before args s = true) (hini : (Cond.initialized C).before args s = true) (h : (Cond.isRef (.static C n d)).before args s = true) (hA : ∀ a : Nat, a < s.heap.size → ¬ A a) : vx_Zq C n d A s s.heap := by
  refine ⟨va_Zqof hl hini h hA, ?_⟩
  obtain ⟨c, k, i, f, a, cell, h1, h2, h3, h4, h5, h6, h7, h8, h9⟩ := Cond.laysStatic_spec hl
  exact ⟨c, k, i, f, a, cell, h1, h2, h3, h4, h5, h6, h7, h8, h9, hA a (Array.getElem?_eq_some_iff.mp h5).1⟩
theorem vx_isRef {C n d : String} {v : Value} {A : Nat → Prop} {s : State} {args : Array Value} (h : va_Z C n d v A s s.heap) (hv : v.isRef = true) : (Cond.isRef (.static C n d)).before args s = true := by
  obtain ⟨cf, kf, fi, f, a, cell, h1, h2, h3, h4, h5, h6, h7, -⟩ := h
  have he : (Term.static C n d).eval args s none [] s = some v := by
    simp [Term.eval, State.fieldNamed?, h1, h2, h4, h5, h6, h7]
  simp only [Cond.before, Cond.holds, Cond.value, he]
  cases v <;> simp_all [Value.isRef]
theorem vx_isRefq {C n d : String} {A : Nat → Prop} {s : State} {args : Array Value} (h : va_Zq C n d A s s.heap) : (Cond.isRef (.static C n d)).before args s = true := by
  rcases h with h | ⟨t, h⟩
  · exact vx_isRef h rfl
  · exact vx_isRef h rfl
/-- the same frame, seen from here: as if the method were called anew in this heap -/
theorem vx_rebase {T : State} (X : Stand p l e R s m args below meth c T locs cells slots) {R' : Room} (hf : R'.frames ≤ R.frames) (hl : R'.locals ≤ R.locals) (hc : cells + R'.cells ≤ R.cells) (hs : slots + R'.slots ≤ R.slots) :
    Stand p l e R' ((T.setVm s.vm).setFrames (.invoking m args :: below)) m args below meth c T [] 0 0 := by
  have htop : (T.setVm s.vm).topJava?.isSome := X.here.top
  have hF : ((T.setVm s.vm).setFrames (.invoking m args :: below)).frames = .invoking m args :: below := State.frames_setFrames _ (State.cur_lt_of_top htop)
  obtain ⟨g₀, hg0⟩ := Option.isSome_iff_exists.mp htop
  obtain ⟨r, hr⟩ := State.topJava?_eq_some.mp hg0
  have hl9 : e.platform.stackLimits (T.setVm s.vm).me = e.platform.stackLimits s.me := X.limits
  have hb9 : (T.setVm s.vm).me.stackBytes = s.me.stackBytes := X.bytes
  refine ⟨X.admits, X.cas, X.clock, hF, ?_, X.hears, X.method, X.code, X.here, X.tail, X.warmed, ?_, ?_, ?_⟩
  · have h := X.room
    have hU : ((T.setVm s.vm).setFrames (.invoking m args :: below)).localsInUse = s.localsInUse := by
      rw [State.localsInUse_invoking hF (meth := meth) (c := c) X.method X.code, State.localsInUse_invoking X.frames X.method X.code]
    simp only [State.hasRoom, Bool.and_eq_true, decide_eq_true_eq] at h ⊢
    obtain ⟨⟨⟨⟨h1, h2, h3, h4, h5, h6⟩, h7⟩, h8⟩, h9⟩ := h
    rw [X.frames, List.length_cons] at h2 h3
    have q1 := X.heapSize
    have q2 := X.used
    simp only [hF, hU, List.length_cons, State.stackLimits_setFrames, State.stackBytes_setFrames, hl9, hb9]
    refine ⟨⟨⟨⟨by omega, by omega, by omega, by omega, by omega, h6⟩, ?_⟩, ?_⟩, X.book⟩
    · show T.heap.size + R'.cells ≤ e.platform.maxCells
      omega
    · show T.slotsUsed + R'.slots ≤ e.platform.maxSlots
      omega
  · rw [State.stackLimits_setFrames]; rfl
  · rw [State.stackBytes_setFrames]; rfl
  · refine ⟨?_, Nat.le_refl _, Nat.le_refl _, ?_, ?_, fun a c9 h9 => ⟨c9, h9, rfl, rfl, fun _ _ => rfl⟩⟩
    · obtain ⟨t, ht, -⟩ := State.frames_cons hr
      show T.setVm s.vm = { ((T.setVm s.vm).setFrames (.invoking m args :: below)).setFrames (T.setVm s.vm).frames with heap := T.heap, slotsUsed := T.slotsUsed }
      rw [State.setFrames_setFrames, State.setFrames_self ht]
      rfl
    · show T.slotsUsed = T.slotsUsed + ((T.heap.toList.drop T.heap.size).map (·.slots.size)).sum
      rw [List.drop_eq_nil_of_le (Nat.le_of_eq Array.length_toList)]
      rfl
    · show ((T.heap.toList.drop T.heap.size).map (·.slots.size)).sum ≤ 0
      rw [List.drop_eq_nil_of_le (Nat.le_of_eq Array.length_toList)]
      exact Nat.le_refl _
/-- 'throw new E()': new; dup; invokespecial; athrow -/
theorem vx_throw0 {cc : ByteArray} {pc : Nat} (hexec : p.tables.exec = Jvm.exec) (hb : c.code = cc) (hl : l.stackTraces = false) {own cls : String} {names : List String} {ik ic mc ms : Nat} {A : Nat → Prop}
    (hown : s.vm.findClass own = some m.cls) (hcls : Bundle.fit cls = true) (hnames : ∀ n ∈ names, Bundle.fit n = true)
    (hk : (Cond.classLink own ik cls).before args s = true) (hini : (Cond.initialized cls).before args s = true) (hat : ∀ w ∈ vx_at0 own ic cls names, w.before args s = true)
    (hgood : ∀ w ∈ Cond.classLink own ik cls :: Cond.initialized cls :: vx_at0 own ic cls names, vx_ot w = true)
    (hU : vx_Zq Bundle.tN "UNASSIGNED_STACK" Bundle.steD A s s.heap) (hN : vx_Zq Bundle.tN "SUPPRESSED_SENTINEL" Bundle.listD A s s.heap) (hS : va_S A s.heap H locs) (hsize : ls.size = c.maxLocals)
    (d0 : decode cc pc = .ok (.new ik, 3)) (d3 : decode cc (pc + 3) = .ok (.dup, 1)) (d4 : decode cc (pc + 4) = .ok (.invokespecial ic, 3)) (d7 : decode cc (pc + 7) = .ok (.athrow, 1))
    (hout : ∀ x ∈ c.exceptionTable.toList, covers x (pc + 7) = false)
    (hRframes : names.length + 3 < R.frames) (hRlocals : (rest.map fun v => v.category).sum + (13 * (names.length + 1) + 42) ≤ R.locals) (hRcells : cells + 1 ≤ R.cells) (hRslots : slots + 6 ≤ R.slots) (hlocks : meth.locks = false)
    (hx : ∀ t : State, s.vm.Alike t.vm → H.size ≤ t.heap.size → (∀ q : Nat, q < H.size → t.heap[q]? = H[q]?) → XC cls s t)
    (hf : ∀ z ∈ locs, free z.base) (hc : cells + 1 ≤ mc) (hs : slots + 6 ≤ ms) :
    W p l e R s m args below meth c H locs cells slots (vx_MQ below Qc XC args s mc ms free) (F0 m pc ls rest) := by
  intro T hT X
  have htr : e.platform.stackTraces = false := (show e.platform.stackTraces = l.stackTraces by rw [X.admits.platform]).trans hl
  have Y := vx_rebase X (R' := { frames := R.frames, locals := R.locals, cells := 1, slots := 6 }) (Nat.le_refl _) (Nat.le_refl _) hRcells hRslots
  obtain ⟨s', hA⟩ : ∃ z, z = (T.setVm s.vm).setFrames (.invoking m args :: below) := ⟨_, rfl⟩
  rw [← hA] at Y
  have hvm : s'.vm = s.vm := by rw [hA]; rfl
  have hhp : s'.heap = H := by rw [hA]; exact hT
  have hW0 : s.WarmedH s'.vm := by rw [hvm]; exact State.WarmedH.refl s
  have hat' : ∀ w ∈ vx_at0 own ic cls names, w.before args s' = true := fun w hw => vx_ot_at hW0 hvm.symm (hgood w (List.mem_cons_of_mem _ (List.mem_cons_of_mem _ hw))) (hat w hw)
  have hk' : (Cond.classLink own ik cls).before args s' = true := vx_ot_at hW0 hvm.symm (hgood _ List.mem_cons_self) hk
  have hini' : (Cond.initialized cls).before args s' = true := vx_ot_at hW0 hvm.symm (hgood _ (List.mem_cons_of_mem _ List.mem_cons_self)) hini
  have hU' : vx_Zq Bundle.tN "UNASSIGNED_STACK" Bundle.steD A s' s'.heap := by rw [hhp]; exact vx_Zq.moved hW0.alike (hU.kept hS.2.1)
  have hN' : vx_Zq Bundle.tN "SUPPRESSED_SENTINEL" Bundle.listD A s' s'.heap := by rw [hhp]; exact vx_Zq.moved hW0.alike (hN.kept hS.2.1)
  have h : ∀ w ∈ Bundle.ownAtoms0 own ic cls names, w.before args s' = true := vx_own hat' (vx_isRefq hU'.1) (vx_isRefq hN'.1) hU'.2.word hN'.2.word
  have hown' : s'.vm.findClass own = some m.cls := by rw [hvm]; exact hown
  have hins : (Cond.instantiable cls 6).before args s' = true := h _ (by simp [Bundle.ownAtoms0])
  obtain ⟨vm₁, cX, kX, hfX, hkX, -, -, X₁, st1⟩ := Y.newCold hexec (own := own) (C := cls) (index := ik) (n := 6) hown' hk' hins hini'
    (g := F0 m pc ls rest) rfl (by rw [hb]; exact d0) (Nat.le_refl _) (Nat.le_refl _)
  generalize hT1 : (T.setVm vm₁).pushCell { cls := cX, slots := kX.instanceTypes.map defaultValue, vm := .none } = T1 at X₁ st1
  have hcat : (Value.ref T.heap.size).category = 1 := rfl
  have hcellA : T1.heap[T.heap.size]? = some (freshCell cX kX) := by rw [← hT1]; exact State.heap_pushCell_size _ _
  have d3' : decode c.code (pc + 3) = .ok (.dup, 1) := by rw [hb]; exact d3
  obtain ⟨U, hsteps, hrun, hend, hW, hsame, ce, hce, hO⟩ := X₁.ctorThrow0 hexec htr (own := own) (cls := cls) (names := names) (ic := ic) hown' hcls hnames h (fun x hx => nomatch hx) hfX hkX hcellA (by rw [hhp, hT]; exact Nat.le_refl _)
    (g := { method := m, pc := pc + 4, locals := ls, stack := .ref T.heap.size :: .ref T.heap.size :: rest, locked := none }) rfl hsize rfl rfl (rest := rest) rfl
    (by rw [hb]; exact d4) (by rw [hb]; exact d7) hout hRframes (by simp only [List.map_cons, List.sum_cons, hcat]; omega) hlocks
  obtain ⟨f1, f2⟩ := vx_frame hsame
  rw [hhp] at f1 f2
  have hWs : s.WarmedH U.vm := State.WarmedH.trans hW0 hW
  have hcl : s.vm.findClass cls = some ce.cls := by
    have h9 := hO.cls
    rw [hvm] at h9
    exact h9
  have hall : s.sameButNew ({ U with vm := s.vm } : State) locs mc ms := by
    subst hA
    obtain ⟨e1, e2⟩ := hsame
    rw [State.setFrames_setFrames] at e1
    have h2 : (T.setVm s.vm).sameButNew ({ U with vm := s.vm } : State) [] (0 + 1) (0 + 6) := ⟨e1, e2⟩
    have h3 := X.same.trans h2
    rw [List.append_nil] at h3
    exact h3.mono hc hs
  refine ⟨U, ?_, .threw T.heap.size, hrun, hend, Or.inr ⟨T.heap.size, rfl, cls, ce, locs, hx U hWs.alike f1 (fun q hq => f2 q hq (fun z hz => nomatch hz)), hce, hO.vm, hcl, hWs, hall, hf⟩⟩
  refine st1 _ ?_
  show Steps p.tables e below (T1.setTop { method := m, pc := pc + 3, locals := ls, stack := .ref T.heap.size :: rest, locked := none }) _
  jvm_step X₁.here [X₁.here.top, hexec, d3', Value.category]
  exact hsteps
/-- 'throw new E("text")': new; dup; ldc; invokespecial; athrow -/
theorem vx_throwS {cc : ByteArray} {pc : Nat} (hexec : p.tables.exec = Jvm.exec) (hb : c.code = cc) (hl : l.stackTraces = false) {own cls text : String} {names : List String} {ik is ic mc ms sa : Nat} {A : Nat → Prop}
    (hown : s.vm.findClass own = some m.cls) (hcls : Bundle.fit cls = true) (hnames : ∀ n ∈ names, Bundle.fit n = true)
    (hk : (Cond.classLink own ik cls).before args s = true) (hini : (Cond.initialized cls).before args s = true) (hstr : vk_R own is text sa s) (hat : ∀ w ∈ vx_atS own ic cls names, w.before args s = true)
    (hgood : ∀ w ∈ Cond.classLink own ik cls :: Cond.initialized cls :: vx_atS own ic cls names, vx_ot w = true)
    (hU : vx_Zq Bundle.tN "UNASSIGNED_STACK" Bundle.steD A s s.heap) (hN : vx_Zq Bundle.tN "SUPPRESSED_SENTINEL" Bundle.listD A s s.heap) (hS : va_S A s.heap H locs) (hsize : ls.size = c.maxLocals)
    (d0 : decode cc pc = .ok (.new ik, 3)) (d3 : decode cc (pc + 3) = .ok (.dup, 1)) (d4 : decode cc (pc + 4) = .ok (.ldc is, 2)) (d6 : decode cc (pc + 6) = .ok (.invokespecial ic, 3)) (d9 : decode cc (pc + 9) = .ok (.athrow, 1))
    (hout : ∀ x ∈ c.exceptionTable.toList, covers x (pc + 9) = false)
    (hRframes : names.length + 3 < R.frames) (hRlocals : (rest.map fun v => v.category).sum + (13 * (names.length + 1) + 43) ≤ R.locals) (hRcells : cells + 1 ≤ R.cells) (hRslots : slots + 6 ≤ R.slots) (hlocks : meth.locks = false)
    (hx : ∀ t : State, s.vm.Alike t.vm → H.size ≤ t.heap.size → (∀ q : Nat, q < H.size → t.heap[q]? = H[q]?) → XC cls s t)
    (hf : ∀ z ∈ locs, free z.base) (hc : cells + 1 ≤ mc) (hs : slots + 6 ≤ ms) :
    W p l e R s m args below meth c H locs cells slots (vx_MQ below Qc XC args s mc ms free) (F0 m pc ls rest) := by
  intro T hT X
  have htr : e.platform.stackTraces = false := (show e.platform.stackTraces = l.stackTraces by rw [X.admits.platform]).trans hl
  have Y := vx_rebase X (R' := { frames := R.frames, locals := R.locals, cells := 1, slots := 6 }) (Nat.le_refl _) (Nat.le_refl _) hRcells hRslots
  obtain ⟨s', hA⟩ : ∃ z, z = (T.setVm s.vm).setFrames (.invoking m args :: below) := ⟨_, rfl⟩
  rw [← hA] at Y
  have hvm : s'.vm = s.vm := by rw [hA]; rfl
  have hhp : s'.heap = H := by rw [hA]; exact hT
  have hW0 : s.WarmedH s'.vm := by rw [hvm]; exact State.WarmedH.refl s
  have hat' : ∀ w ∈ vx_atS own ic cls names, w.before args s' = true := fun w hw => vx_ot_at hW0 hvm.symm (hgood w (List.mem_cons_of_mem _ (List.mem_cons_of_mem _ hw))) (hat w hw)
  have hk' : (Cond.classLink own ik cls).before args s' = true := vx_ot_at hW0 hvm.symm (hgood _ List.mem_cons_self) hk
  have hini' : (Cond.initialized cls).before args s' = true := vx_ot_at hW0 hvm.symm (hgood _ (List.mem_cons_of_mem _ List.mem_cons_self)) hini
  have hU' : vx_Zq Bundle.tN "UNASSIGNED_STACK" Bundle.steD A s' s'.heap := by rw [hhp]; exact vx_Zq.moved hW0.alike (hU.kept hS.2.1)
  have hN' : vx_Zq Bundle.tN "SUPPRESSED_SENTINEL" Bundle.listD A s' s'.heap := by rw [hhp]; exact vx_Zq.moved hW0.alike (hN.kept hS.2.1)
  have h : ∀ w ∈ Bundle.ownAtoms own ic cls names, w.before args s' = true := vx_own hat' (vx_isRefq hU'.1) (vx_isRefq hN'.1) hU'.2.word hN'.2.word
  have hown' : s'.vm.findClass own = some m.cls := by rw [hvm]; exact hown
  have hins : (Cond.instantiable cls 6).before args s' = true := h _ (by simp [Bundle.ownAtoms])
  obtain ⟨vm₁, cX, kX, hfX, hkX, -, -, X₁, st1⟩ := Y.newCold hexec (own := own) (C := cls) (index := ik) (n := 6) hown' hk' hins hini'
    (g := F0 m pc ls rest) rfl (by rw [hb]; exact d0) (Nat.le_refl _) (Nat.le_refl _)
  generalize hT1 : (T.setVm vm₁).pushCell { cls := cX, slots := kX.instanceTypes.map defaultValue, vm := .none } = T1 at X₁ st1
  have hcat : (Value.ref T.heap.size).category = 1 := rfl
  have hcellA : T1.heap[T.heap.size]? = some (freshCell cX kX) := by rw [← hT1]; exact State.heap_pushCell_size _ _
  have d3' : decode c.code (pc + 3) = .ok (.dup, 1) := by rw [hb]; exact d3
  have d4' : decode c.code (pc + 4) = .ok (.ldc is, 2) := by rw [hb]; exact d4
  have hstr' : vk_R own is text sa s' := vk_R.warm hW0 hstr
  obtain ⟨U, hsteps, hrun, hend, hW, hsame, ce, hce, hO⟩ := X₁.ctorThrowS hexec htr (own := own) (cls := cls) (names := names) (ic := ic) hown' hcls hnames h (fun x hx => nomatch hx) hfX hkX hcellA (by rw [hhp, hT]; exact Nat.le_refl _) (msg := .ref sa) rfl
    (g := { method := m, pc := pc + 6, locals := ls, stack := .ref sa :: .ref T.heap.size :: .ref T.heap.size :: rest, locked := none }) rfl hsize rfl rfl (rest := rest) rfl
    (by rw [hb]; exact d6) (by rw [hb]; exact d9) hout hRframes (by simp only [List.map_cons, List.sum_cons, hcat]; omega) hlocks
  obtain ⟨f1, f2⟩ := vx_frame hsame
  rw [hhp] at f1 f2
  have hWs : s.WarmedH U.vm := State.WarmedH.trans hW0 hW
  have hcl : s.vm.findClass cls = some ce.cls := by
    have h9 := hO.cls
    rw [hvm] at h9
    exact h9
  have hall : s.sameButNew ({ U with vm := s.vm } : State) locs mc ms := by
    subst hA
    obtain ⟨e1, e2⟩ := hsame
    rw [State.setFrames_setFrames] at e1
    have h2 : (T.setVm s.vm).sameButNew ({ U with vm := s.vm } : State) [] (0 + 1) (0 + 6) := ⟨e1, e2⟩
    have h3 := X.same.trans h2
    rw [List.append_nil] at h3
    exact h3.mono hc hs
  refine ⟨U, ?_, .threw T.heap.size, hrun, hend, Or.inr ⟨T.heap.size, rfl, cls, ce, locs, hx U hWs.alike f1 (fun q hq => f2 q hq (fun z hz => nomatch hz)), hce, hO.vm, hcl, hWs, hall, hf⟩⟩
  refine st1 _ ?_
  show Steps p.tables e below (T1.setTop { method := m, pc := pc + 3, locals := ls, stack := .ref T.heap.size :: rest, locked := none }) _
  jvm_step X₁.here [X₁.here.top, hexec, d3', Value.category]
  exact X₁.ldcString hexec (own := own) (text := text) (index := is) (a := sa) hown' hstr'.1 hstr'.2
    (g := { method := m, pc := pc + 4, locals := ls, stack := .ref T.heap.size :: .ref T.heap.size :: rest, locked := none }) rfl d4' _ hsteps
/-- 'throw new E("text")', the text by a wide index -/
theorem vx_throwSW {cc : ByteArray} {pc : Nat} (hexec : p.tables.exec = Jvm.exec) (hb : c.code = cc) (hl : l.stackTraces = false) {own cls text : String} {names : List String} {ik is ic mc ms sa : Nat} {A : Nat → Prop}
    (hown : s.vm.findClass own = some m.cls) (hcls : Bundle.fit cls = true) (hnames : ∀ n ∈ names, Bundle.fit n = true)
    (hk : (Cond.classLink own ik cls).before args s = true) (hini : (Cond.initialized cls).before args s = true) (hstr : vk_R own is text sa s) (hat : ∀ w ∈ vx_atS own ic cls names, w.before args s = true)
    (hgood : ∀ w ∈ Cond.classLink own ik cls :: Cond.initialized cls :: vx_atS own ic cls names, vx_ot w = true)
    (hU : vx_Zq Bundle.tN "UNASSIGNED_STACK" Bundle.steD A s s.heap) (hN : vx_Zq Bundle.tN "SUPPRESSED_SENTINEL" Bundle.listD A s s.heap) (hS : va_S A s.heap H locs) (hsize : ls.size = c.maxLocals)
    (d0 : decode cc pc = .ok (.new ik, 3)) (d3 : decode cc (pc + 3) = .ok (.dup, 1)) (d4 : decode cc (pc + 4) = .ok (.ldc_w is, 3)) (d7 : decode cc (pc + 7) = .ok (.invokespecial ic, 3)) (d10 : decode cc (pc + 10) = .ok (.athrow, 1))
    (hout : ∀ x ∈ c.exceptionTable.toList, covers x (pc + 10) = false)
    (hRframes : names.length + 3 < R.frames) (hRlocals : (rest.map fun v => v.category).sum + (13 * (names.length + 1) + 43) ≤ R.locals) (hRcells : cells + 1 ≤ R.cells) (hRslots : slots + 6 ≤ R.slots) (hlocks : meth.locks = false)
    (hx : ∀ t : State, s.vm.Alike t.vm → H.size ≤ t.heap.size → (∀ q : Nat, q < H.size → t.heap[q]? = H[q]?) → XC cls s t)
    (hf : ∀ z ∈ locs, free z.base) (hc : cells + 1 ≤ mc) (hs : slots + 6 ≤ ms) :
    W p l e R s m args below meth c H locs cells slots (vx_MQ below Qc XC args s mc ms free) (F0 m pc ls rest) := by
  intro T hT X
  have htr : e.platform.stackTraces = false := (show e.platform.stackTraces = l.stackTraces by rw [X.admits.platform]).trans hl
  have Y := vx_rebase X (R' := { frames := R.frames, locals := R.locals, cells := 1, slots := 6 }) (Nat.le_refl _) (Nat.le_refl _) hRcells hRslots
  obtain ⟨s', hA⟩ : ∃ z, z = (T.setVm s.vm).setFrames (.invoking m args :: below) := ⟨_, rfl⟩
  rw [← hA] at Y
  have hvm : s'.vm = s.vm := by rw [hA]; rfl
  have hhp : s'.heap = H := by rw [hA]; exact hT
  have hW0 : s.WarmedH s'.vm := by rw [hvm]; exact State.WarmedH.refl s
  have hat' : ∀ w ∈ vx_atS own ic cls names, w.before args s' = true := fun w hw => vx_ot_at hW0 hvm.symm (hgood w (List.mem_cons_of_mem _ (List.mem_cons_of_mem _ hw))) (hat w hw)
  have hk' : (Cond.classLink own ik cls).before args s' = true := vx_ot_at hW0 hvm.symm (hgood _ List.mem_cons_self) hk
  have hini' : (Cond.initialized cls).before args s' = true := vx_ot_at hW0 hvm.symm (hgood _ (List.mem_cons_of_mem _ List.mem_cons_self)) hini
  have hU' : vx_Zq Bundle.tN "UNASSIGNED_STACK" Bundle.steD A s' s'.heap := by rw [hhp]; exact vx_Zq.moved hW0.alike (hU.kept hS.2.1)
  have hN' : vx_Zq Bundle.tN "SUPPRESSED_SENTINEL" Bundle.listD A s' s'.heap := by rw [hhp]; exact vx_Zq.moved hW0.alike (hN.kept hS.2.1)
  have h : ∀ w ∈ Bundle.ownAtoms own ic cls names, w.before args s' = true := vx_own hat' (vx_isRefq hU'.1) (vx_isRefq hN'.1) hU'.2.word hN'.2.word
  have hown' : s'.vm.findClass own = some m.cls := by rw [hvm]; exact hown
  have hins : (Cond.instantiable cls 6).before args s' = true := h _ (by simp [Bundle.ownAtoms])
  obtain ⟨vm₁, cX, kX, hfX, hkX, -, -, X₁, st1⟩ := Y.newCold hexec (own := own) (C := cls) (index := ik) (n := 6) hown' hk' hins hini'
    (g := F0 m pc ls rest) rfl (by rw [hb]; exact d0) (Nat.le_refl _) (Nat.le_refl _)
  generalize hT1 : (T.setVm vm₁).pushCell { cls := cX, slots := kX.instanceTypes.map defaultValue, vm := .none } = T1 at X₁ st1
  have hcat : (Value.ref T.heap.size).category = 1 := rfl
  have hcellA : T1.heap[T.heap.size]? = some (freshCell cX kX) := by rw [← hT1]; exact State.heap_pushCell_size _ _
  have d3' : decode c.code (pc + 3) = .ok (.dup, 1) := by rw [hb]; exact d3
  have d4' : decode c.code (pc + 4) = .ok (.ldc_w is, 3) := by rw [hb]; exact d4
  have hstr' : vk_R own is text sa s' := vk_R.warm hW0 hstr
  obtain ⟨U, hsteps, hrun, hend, hW, hsame, ce, hce, hO⟩ := X₁.ctorThrowS hexec htr (own := own) (cls := cls) (names := names) (ic := ic) hown' hcls hnames h (fun x hx => nomatch hx) hfX hkX hcellA (by rw [hhp, hT]; exact Nat.le_refl _) (msg := .ref sa) rfl
    (g := { method := m, pc := pc + 7, locals := ls, stack := .ref sa :: .ref T.heap.size :: .ref T.heap.size :: rest, locked := none }) rfl hsize rfl rfl (rest := rest) rfl
    (by rw [hb]; exact d7) (by rw [hb]; exact d10) hout hRframes (by simp only [List.map_cons, List.sum_cons, hcat]; omega) hlocks
  obtain ⟨f1, f2⟩ := vx_frame hsame
  rw [hhp] at f1 f2
  have hWs : s.WarmedH U.vm := State.WarmedH.trans hW0 hW
  have hcl : s.vm.findClass cls = some ce.cls := by
    have h9 := hO.cls
    rw [hvm] at h9
    exact h9
  have hall : s.sameButNew ({ U with vm := s.vm } : State) locs mc ms := by
    subst hA
    obtain ⟨e1, e2⟩ := hsame
    rw [State.setFrames_setFrames] at e1
    have h2 : (T.setVm s.vm).sameButNew ({ U with vm := s.vm } : State) [] (0 + 1) (0 + 6) := ⟨e1, e2⟩
    have h3 := X.same.trans h2
    rw [List.append_nil] at h3
    exact h3.mono hc hs
  refine ⟨U, ?_, .threw T.heap.size, hrun, hend, Or.inr ⟨T.heap.size, rfl, cls, ce, locs, hx U hWs.alike f1 (fun q hq => f2 q hq (fun z hz => nomatch hz)), hce, hO.vm, hcl, hWs, hall, hf⟩⟩
  refine st1 _ ?_
  show Steps p.tables e below (T1.setTop { method := m, pc := pc + 3, locals := ls, stack := .ref T.heap.size :: rest, locked := none }) _
  jvm_step X₁.here [X₁.here.top, hexec, d3', Value.category]
  exact X₁.ldcStringW hexec (own := own) (text := text) (index := is) (a := sa) hown' hstr'.1 hstr'.2
    (g := { method := m, pc := pc + 4, locals := ls, stack := .ref T.heap.size :: .ref T.heap.size :: rest, locked := none }) rfl d4' _ hsteps
end Ends
section Bodies
variable {l : Launch}
theorem vx_ofW {y : MethodName} {ws ws' : List Cond} {rm : Room} {Pc : Array Value → State → Prop} {Qc : Array Value → State → Outcome → State → Prop} {XC : String → State → State → Prop} {mc ms : Nat} {free : Addr → Prop} {cc : ByteArray} {maxL : Nat} {ret : Option FieldType}
    (hy : plainName y.cls = true) (hw : ws = Cond.code y cc maxL ret :: ws')
    (body : ∀ p e s m args below meth c s₁, BodyLoose p l y (headSpec ws rm) cc maxL ret e s m args below meth c s₁ → c.maxLocals = maxL → (∀ x ∈ c.exceptionTable.toList, False) → Pc args s →
      W p l e (headSpec ws rm).room s m args below meth c s.heap [] 0 0 (vx_MQ below Qc XC args s mc ms free) (entryFrame m args maxL)) : vx_Met l y ws rm Pc Qc XC mc ms free := by
  refine MetFree.of_bodyS (code := cc) (maxLocals := maxL) (ret := ret) hy ?_ ?_
  · intro args s m h hn
    obtain ⟨meth, c, h1, h2, h3, h4, h5, h6, -, -⟩ := Cond.code_spec hn (atoms_spec (ws := ws) h _ (by rw [hw]; exact List.mem_cons_self))
    exact ⟨meth, c, h1, h2, h3, h4, h5, h6⟩
  · intro p e s m args below meth c s₁ B hml hP _
    have hh0 : s₁.heap = s.heap := by rw [B.state]; rfl
    have ht : ∀ x ∈ c.exceptionTable.toList, False := by
      obtain ⟨meth9, c9, h1, h2, -, -, -, -, h7, -⟩ := Cond.code_spec B.named (atoms_spec (ws := ws) B.pre _ (by rw [hw]; exact List.mem_cons_self))
      cases Option.some.inj (h1.symm.trans B.method)
      cases Option.some.inj (h2.symm.trans (Stand.of_body B).code)
      intro x hx
      rw [Array.isEmpty_iff.mp h7] at hx
      cases hx
    obtain ⟨t, a1, o, b1, b2, b3⟩ := body p e s m args below meth c s₁ B hml ht hP s₁ hh0 (Stand.of_body B)
    exact ⟨t, o, a1, b1, b2, b3⟩
/-- the table of a body with handlers -/
theorem vx_table {p : Program} {x y : MethodName} {S : Spec} {cc bytes : ByteArray} {maxL maxL' : Nat} {ret ret' : Option FieldType} {e : Env} {s s₁ : State} {m : MethodId} {args : Array Value} {below : List Frame} {meth : Method} {c : Code} {hh : List (Nat × Nat × Nat × Nat)}
    (B : BodyLoose p l y S cc maxL ret e s m args below meth c s₁) (h : (Cond.codeWith y bytes maxL' ret' hh).before args s = true) : c.exceptionTable.toList = tableOf hh := by
  obtain ⟨m9, meth9, c9, hn9, h1, h2, -, -, h6, -⟩ := Cond.codeWith_spec h
  cases Option.some.inj (hn9.symm.trans B.named)
  cases Option.some.inj (h1.symm.trans B.method)
  cases Option.some.inj (h2.symm.trans (Stand.of_body B).code)
  rw [← h6, table_eq]
end Bodies
end VXA
/-! ===== END ===== -/
/-! ===== BEGIN a static call of a method with an exception table ===== -/
section VXS
variable {p : Program} {l : Launch} {e : Env} {R : Room} {s : State} {m : MethodId} {args : Array Value} {below : List Frame} {meth : Method} {c : Code} {T : State} {H : Heap} {locs : List Loc} {cells slots : Nat}
abbrev vx_CSW (R : Room) (s : State) (args : Array Value) (own : String) (index : Nat) (y : MethodName) (bytes : ByteArray) (maxL : Nat) (ret : Option FieldType) (hh : List (Nat × Nat × Nat × Nat)) (ws : List Cond) (rm : Room) (mc ms n : Nat) : Prop :=
  (rm.cells = mc ∧ rm.slots = ms ∧ rm.frames + 1 ≤ R.frames ∧ 8 + (maxL + 11) + rm.locals ≤ R.locals ∧ (∀ w ∈ ws, ∀ (a' : Array Value) (U : State), s.WarmedH U.vm → w.before a' U = true) ∧ Cond.codeWith y bytes maxL ret hh ∈ ws) ∧
  (Cond.codeWith y bytes maxL ret hh).before args s = true ∧ (Cond.initialized y.cls).before args s = true ∧ (y.cls ≠ "java/lang/invoke/MethodHandle" ∧ y.cls ≠ "java/lang/invoke/VarHandle") ∧
  (∀ sig, parseMethodDescriptor y.desc = some sig → n = sig.parameters.length) ∧ (Cond.methodLink own index y).before args s = true ∧ (Cond.static y).before args s = true
theorem vx_cwSW {own : String} {index maxL mc ms : Nat} {y : MethodName} {bytes : ByteArray} {ret : Option FieldType} {hh : List (Nat × Nat × Nat × Nat)} {Ts ws ws' : List Cond} {rm : Room} (n : Nat) (ht : ∀ w ∈ Ts, w.before args s = true) (hT : GoodIn Ts (va_wsS own index y ws)) (hw : ws = Cond.codeWith y bytes maxL ret hh :: ws') (hrc : rm.cells = mc) (hrs : rm.slots = ms)
    (hd : y.cls ≠ "java/lang/invoke/MethodHandle" ∧ y.cls ≠ "java/lang/invoke/VarHandle" ∧ (parseMethodDescriptor y.desc).map (fun d => d.parameters.length) = some n) (hR : rm.frames + 1 ≤ R.frames ∧ 8 + (maxL + 11) + rm.locals ≤ R.locals) :
    vx_CSW R s args own index y bytes maxL ret hh ws rm mc ms n := by
  have ok : ∀ w ∈ va_wsS own index y ws, w.before args s = true := fun w h => ht w (hT w h).1
  have hG : GoodIn Ts ws := fun w h => hT w (by unfold va_wsS; exact List.mem_append_right _ h)
  have hc : Cond.codeWith y bytes maxL ret hh ∈ ws := by rw [hw]; exact List.mem_cons_self
  refine ⟨⟨hrc, hrs, hR.1, hR.2, pay_in ht hG, hc⟩, ht _ (hG _ hc).1, ok _ (by simp [va_wsS]), ⟨hd.1, hd.2.1⟩, fun sig h => ?_, ok _ (by simp [va_wsS]), ok _ (by simp [va_wsS])⟩
  have h2 := hd.2.2
  rw [h] at h2
  exact (Option.some.inj h2).symm
theorem vx_callSW (X : Stand p l e R s m args below meth c T locs cells slots) (hexec : p.tables.exec = Jvm.exec) {own : String} {index : Nat} {y : MethodName} {bytes : ByteArray} {maxL : Nat} {ret : Option FieldType} {hh : List (Nat × Nat × Nat × Nat)}
    (hown : s.vm.findClass own = some m.cls) (hlink : (Cond.methodLink own index y).before args s = true) (hstat : (Cond.static y).before args s = true) (hinit : (Cond.initialized y.cls).before args s = true)
    (hcode : (Cond.codeWith y bytes maxL ret hh).before args s = true) (hy : y.cls ≠ "java/lang/invoke/MethodHandle" ∧ y.cls ≠ "java/lang/invoke/VarHandle")
    {W9 : Nat} {Pre : Pt → Array Value → Prop} {Post : Pt → Array Value → Option Value → Pt → Prop} (hK : Back l R p e below s args y 3 W9 Pre Post)
    {g : JFrame} (hg : g.method = m) (hsize : g.locals.size = c.maxLocals) {argsL rest : List Value} (hlen : ∀ sig, parseMethodDescriptor y.desc = some sig → argsL.length = sig.parameters.length)
    (hstack : g.stack = argsL.reverse ++ rest) (hW : 2 * g.monitorRoom + (rest.map fun v => v.category).sum ≤ W9) (hdg : decode c.code g.pc = .ok (.invokestatic index, 3))
    (hpre : ∀ vm₁, s.WarmedH vm₁ → Pre ⟨T.setVm vm₁, locs, cells, slots⟩ argsL.toArray) :
    ∃ (v : Option Value) (vm₁ : Vm) (B : Pt), s.WarmedH vm₁ ∧ Stand p l e R s m args below meth c B.U B.locs B.cells B.slots ∧ Post ⟨T.setVm vm₁, locs, cells, slots⟩ argsL.toArray v B ∧
      ∀ target, Steps p.tables e below (B.U.setTop { g with pc := g.pc + 3, stack := v.toList ++ rest }) target → Steps p.tables e below (T.setTop g) target := by
  obtain ⟨mk, methM, cM, hnamed, hmethM, -, -, -, -, -, -, hsigM⟩ := Cond.codeWith_spec hcode
  have hstatic : methM.isStatic = true := Cond.static_spec hnamed hmethM hstat
  obtain ⟨kP, hkP, -⟩ := className_of_methodNamed hnamed
  have hinitP : kP.init = .initialized := Cond.initialized_spec (findClass_of_methodNamed hnamed) hkP hinit
  obtain ⟨vm₁, X₁, hstep₁⟩ := X.invokestatic hexec hown hlink hnamed hmethM hstatic hkP hinitP hy (g := g) hg (argsL := argsL) (rest := rest) (hlen _ hsigM) hstack hdg
  obtain ⟨v, B, X', hpost, hsteps⟩ := hK m meth c ⟨T.setVm vm₁, locs, cells, slots⟩ { g with stack := rest } (.invokestatic index) mk argsL.toArray X₁ hg hsize hdg hW (X₁.named hnamed) (hpre vm₁ X₁.warmed)
  exact ⟨v, vm₁, B, X₁.warmed, X', hpost, fun target h => hstep₁ _ fun acts => by rw [doInvoke_state]; exact hsteps.trans h⟩
theorem vx_runSW {y : MethodName} {bytes cc : ByteArray} {maxL nL mc ms n index : Nat} {ret : Option FieldType} {hh : List (Nat × Nat × Nat × Nat)} {ws : List Cond} {rm : Room} {Pc : Array Value → State → Prop} {Qc : Array Value → State → Outcome → State → Prop} {free : Addr → Prop} {Ts : List Cond} {own : String} {As rest : List Value} {g : JFrame}
    (S : CallFix p m c cc nL s args Ts own) (hM : Met l y ws rm Pc Qc mc ms free) (cw : vx_CSW R s args own index y bytes maxL ret hh ws rm mc ms n) (hp : PreS s H Pc As)
    (hg : g.method = m) (hn : As.length = n) (hsize : g.locals.size = nL) (hstack : g.stack = As.reverse ++ rest) (hW : 2 * g.monitorRoom + (rest.map fun v => v.category).sum ≤ 8) (hdg : decode cc g.pc = .ok (.invokestatic index, 3)) (hf : cells + mc ≤ R.cells ∧ slots + ms ≤ R.slots) :
    va_Run p l e R s m args below meth c H locs cells slots mc ms g rest (Qc As.toArray) (free) := by
  obtain ⟨⟨hrc, hrs, hfr, hlo, hws, hcw⟩, hcode, hini, hy, hlen, hl, hstt⟩ := cw
  have hK : Back l R p e below s args y 3 8 (PreOf R mc ms Pc) (PostOf Qc mc ms free) := va_backW (hh := hh) (bytes := bytes) (maxL := maxL) (ret := ret) hM hp.1 hrc hrs hfr hlo hws hcw (fun a' U hW => word_at hW (Or.inl (by first | rfl | simp [Cond.onTables, Cond.keeps, Cond.steady])) hini)
  obtain ⟨hx, hb, hml, ho, -⟩ := S
  intro T hT X
  obtain ⟨v, vm₁, ⟨U', l2, c2, s2⟩, hW₁, X', ⟨g', mk, t, L, e1, e2, hq, h1, hL, h2, h3⟩, st⟩ := vx_callSW X hx (hh := hh) (bytes := bytes) (maxL := maxL) (ret := ret) ho hl hstt hini hcode hy hK hg (hsize.trans hml.symm) (argsL := As) (rest := rest) (fun sig h => hn.trans (hlen sig h)) hstack hW (by rw [hb]; exact hdg)
    (fun vm₁ hW₁ => ⟨hf.1, hf.2, hp.2 (T.setVm vm₁) hT hW₁⟩)
  dsimp only [Pt.U, Pt.locs, Pt.cells, Pt.slots] at X' e1 e2 h1 h2 h3 st
  subst h1; subst h2; subst h3
  exact ⟨v, (T.setVm vm₁).calling g' mk As.toArray, t, U', L, hT, X', hL, e1, e2, hq, st⟩
/-- not caught here, past rows that name other classes: it goes on to the caller -/
theorem vx_outP {p : Program} {l : Launch} {e : Env} {R : Room} {s : State} {m : MethodId} {args : Array Value} {below : List Frame} {meth : Method} {c : Code} {H : Heap} {locs : List Loc} {cells slots : Nat} {free : Addr → Prop} {ls : Array Slot} {rest : List Value} {Qc : Array Value → State → Outcome → State → Prop} {XC : String → State → State → Prop}
    {pc : Nat} {own E : String} {ce : Cell} {q : Addr} {mc ms : Nat} (hown : s.vm.findClass own = some m.cls) (hlocks : meth.locks = false)
    (hpass : ∀ z ∈ c.exceptionTable.toList, covers z pc = false ∨ (z.catchType ≠ 0 ∧ ∃ nm : String, (Cond.classLink own z.catchType nm).before args s = true ∧ va_Nc E nm s)) (hcell : H[q]? = some ce) (hv : ce.vm = .none) (hcl : s.vm.findClass E = some ce.cls)
    (hx : ∀ t : State, t.heap = H → s.vm.Alike t.vm → XC E s t) (hf : ∀ z ∈ locs, free z.base) (hc : cells ≤ mc) (hs : slots ≤ ms) :
    vx_W p l e R s m args below meth c H locs cells slots (vx_MQ below Qc XC args s mc ms free) (F0 m pc ls rest) q := by
  intro T hT X
  have hpl : e.platform.magicAccessors = ({} : Platform).magicAccessors := by rw [X.admits.platform]
  obtain ⟨vm', hW', X', st⟩ := X.outThrough hlocks q (g := F0 m pc ls rest) rfl rfl rfl (cell := ce) (by rw [hT]; exact hcell) (by rw [hv]; rfl)
    (by obtain ⟨k9, h9, -⟩ := Vm.findClass_spec hcl; exact ⟨k9, h9⟩) (fun z hz => by
      rcases hpass z hz with h | ⟨hz0, nm, hl1, hn1⟩
      · exact Or.inl h
      · obtain ⟨c6, hc6, hcl6⟩ := Cond.classLink_spec hown hl1 e.platform hpl
        obtain ⟨a8, b8, h1, h2, h3⟩ := hn1
        cases Option.some.inj (h1.symm.trans hcl)
        cases Option.some.inj (h2.symm.trans hc6)
        exact Or.inr ⟨hz0, _, hcl6, h3⟩)
  obtain ⟨g₀, hfr⟩ := X'.frames_eq
  have hcell9 : ((T.setVm vm').setFrames (.throwing q :: below)).heap[q]? = some ce := by
    show T.heap[q]? = some ce
    rw [hT]; exact hcell
  have hend : Ended ((T.setVm vm').setFrames (.throwing q :: below)) below (.threw q) := State.frames_setFrames _ (State.cur_lt_of_frames hfr)
  refine ⟨(T.setVm vm').setFrames (.throwing q :: below), ?_, .threw q, X'.here.running, hend, Or.inr ⟨q, rfl, E, ce, locs, hx _ hT (X'.ends _).1.alike, hcell9, hv, hcl, (X'.ends _).1, (X'.ends _).2.mono hc hs, hf⟩⟩
  rw [X.pushThrowing_eq]
  exact st
/-- a thing of a world lies in the heap -/
theorem vx_lt {D : va_G} {cl : List vw_C} {ws : va_W} {H1 : Heap} (h : va_P D cl ws H1) {k : Nat} {q : Nat × va_E} (hk : ws[k]? = some q) : q.1 < H1.size := (h k q hk).lt
end VXS
/-! ===== END ===== -/
/-! ===== BEGIN methods with a table of their own: called by a name, returning or throwing ===== -/
section VXH
/-! vx_backW, vx_callVX, vx_callSX, vx_callVW, vx_runVW, vx_runVX, vx_runSX, vx_ofWH follow the same proofs as their sisters above (Free/Laws.lean, Shelf42/LK1.lean); vx_outP calls Shelf42/NT130.lean (outThrough). -/
section
variable {l : Launch} {R : Room} {p : Program} {e : Env} {below : List Frame} {s : State} {sargs : Array Value} {y : MethodName} {len W9 : Nat}
theorem vx_backW {ws : List Cond} {rm : Room} {Pc : Array Value → State → Prop} {Qc : Array Value → State → Outcome → State → Prop} {XC : String → State → State → Prop} {mc ms : Nat} {free : Addr → Prop} {bytes : ByteArray} {maxL : Nat} {ret : Option FieldType} {hh : List (Nat × Nat × Nat × Nat)}
    (hM : vx_Met l y ws rm Pc Qc XC mc ms free) (hblind : FrameBlind Pc) (hrc : rm.cells = mc) (hrs : rm.slots = ms)
    (hframes : rm.frames + 1 ≤ R.frames) (hlocals : W9 + (maxL + 11) + rm.locals ≤ R.locals)
    (hws : ∀ w ∈ ws, ∀ a' U, s.WarmedH U.vm → w.before a' U = true) (hcode : Cond.codeWith y bytes maxL ret hh ∈ ws) (hinit : ∀ a' U, s.WarmedH U.vm → (Cond.initialized y.cls).before a' U = true) :
    vx_Back l R p e below s sargs y len W9 (PreOf R mc ms Pc) (PostOf Qc mc ms free) (vx_Post XC mc ms free) := by
  intro m meth c A g ig mk a X hg hsize hdg hW hn hp
  have h1 : (headSpec ws rm).pre.before a A.U = true := atoms_intro fun w hw => hws w hw _ _ X.warmed
  have h2 : (Cond.codeWith y bytes maxL ret hh).before a A.U = true := hws _ hcode _ _ X.warmed
  have h3 : (Cond.initialized y.cls).before a A.U = true := hinit _ _ X.warmed
  have h4 : A.cells + (headSpec ws rm).room.cells ≤ R.cells := by rw [show (headSpec ws rm).room.cells = mc from hrc]; exact hp.1
  have h5 : A.slots + (headSpec ws rm).room.slots ≤ R.slots := by rw [show (headSpec ws rm).room.slots = ms from hrs]; exact hp.2.1
  have hPc : Pc a (A.U.calling g mk a) := hblind _ _ _ _ hp.2.2
  obtain ⟨U, Ls, c0, s0⟩ := A
  dsimp only [Pt.U, Pt.locs, Pt.cells, Pt.slots] at h1 h2 h3 h4 h5 X hn hPc ⊢
  obtain ⟨m9, methY, cY, hn9, hmY, hcY, -, hlY, -⟩ := Cond.codeWith_spec h2
  cases Option.some.inj (hn9.symm.trans hn)
  obtain ⟨kY, hkY, -⟩ := className_of_methodNamed hn
  have hinitY : kY.init = .initialized := Cond.initialized_spec (findClass_of_methodNamed hn) hkY h3
  have h : At U g.method c below := by rw [hg]; exact X.here
  have hlocals9 : W9 + (maxL + 11) + (headSpec ws rm).room.locals ≤ R.locals := hlocals
  have happ : (headSpec ws rm).appliesLoose y e.platform (U.calling g mk a) = true :=
    Spec.appliesLoose_calling (g := g) h hdg hn hkY hinitY
      (X.room_calling (g := g) (R' := (headSpec ws rm).room) hsize hmY hcY hframes (by rw [hlY]; omega) h4 h5) h1
  obtain ⟨mid, hmid⟩ := h.above
  have hfr : (U.setTop g).frames = (.java g :: mid) ++ below := by rw [State.frames_setTop' g h.top, hmid]; rfl
  obtain ⟨o, s₂, hsteps, -, hend, hq⟩ := Steps.callFree hM p X.admits X.cas X.clock (acts := []) hfr happ hPc trivial
  have hq' : vx_Q Qc XC mc ms free a (U.calling g mk a) o s₂ := hq
  rw [State.frames_setTop' g h.top] at hend
  obtain ⟨g₀, hg0⟩ := Option.isSome_iff_exists.mp h.top
  obtain ⟨r, hr⟩ := State.topJava?_eq_some.mp hg0
  have hr' : (({ U with heap := s₂.heap, slotsUsed := s₂.slotsUsed } : State).setVm s₂.vm).frames = .java g₀ :: r := hr
  rcases hq' with ⟨hqc, L, hfe, hL⟩ | ⟨q, rfl, E, ce, L, hx, hce, hcv, hcl, hW₂, hsm, hL⟩
  · obtain ⟨⟨v, rfl⟩, hW₂, e2, q2, q3, q4, q5, q6⟩ := id hfe
    have e3 : s₂ = ({ (U.calling g mk a).setFrames s₂.frames with heap := s₂.heap, slotsUsed := s₂.slotsUsed } : State).setVm s₂.vm := by
      have : s₂ = ({ s₂ with vm := (U.calling g mk a).vm } : State).setVm s₂.vm := rfl
      rw [e2] at this
      exact this
    obtain ⟨c₂, i₂, len₂, hc₂, hd₂, hf₂⟩ := hend
    have hW' : U.WarmedH s₂.vm := hW₂
    have hcc : c₂ = c := by
      have h1 : s₂.code? g.method = U.code? g.method := by
        rw [State.code?_eq, State.code?_eq, hW'.alike.method?]
      exact Option.some.inj (hc₂.symm.trans (h1.trans h.code))
    subst hcc
    have hlen : len₂ = len := by rw [hdg] at hd₂; cases hd₂; rfl
    subst hlen
    have hs₂ : s₂ = (({ U with heap := s₂.heap, slotsUsed := s₂.slotsUsed } : State).setVm s₂.vm).setTop { g with pc := g.pc + len₂, stack := v.toList ++ g.stack } := by
      refine e3.trans ?_
      rw [hf₂, State.calling_eq h.top, State.setFrames_setFrames, State.setTop_of_frames _ hr', hr]
      rfl
    have hsame : U.sameButNew ({ U with heap := s₂.heap, slotsUsed := s₂.slotsUsed } : State) L mc ms := by
      refine ⟨?_, q2, q3, q4, q5, q6⟩
      obtain ⟨t, ht, -⟩ := State.frames_cons hr
      show ({ U with heap := s₂.heap, slotsUsed := s₂.slotsUsed } : State) = { U.setFrames U.frames with heap := s₂.heap, slotsUsed := s₂.slotsUsed }
      rw [State.setFrames_self ht]
    subst hg
    refine Or.inl ⟨v, ⟨(({ U with heap := s₂.heap, slotsUsed := s₂.slotsUsed } : State).setVm s₂.vm), Ls ++ L, c0 + mc, s0 + ms⟩,
      ⟨X.admits, X.cas, X.clock, X.frames, X.room, X.hears, X.method, X.code, (X.here.setHeapUsed s₂.heap s₂.slotsUsed).setVm hW'.alike, X.tail, State.WarmedH.trans X.warmed hW', X.limits, X.bytes, X.same.trans (hsame.setVm s.vm)⟩,
      ⟨g, mk, s₂, L, rfl, rfl, hqc, rfl, hL, rfl, rfl⟩, ?_⟩
    show Steps p.tables e below _ ((({ U with heap := s₂.heap, slotsUsed := s₂.slotsUsed } : State).setVm s₂.vm).setTop { g with pc := g.pc + len₂, stack := v.toList ++ g.stack })
    rw [← hs₂]
    exact hsteps
  · obtain ⟨e2, q2, q3, q4, q5, q6⟩ := id hsm
    have e3 : s₂ = ({ (U.calling g mk a).setFrames s₂.frames with heap := s₂.heap, slotsUsed := s₂.slotsUsed } : State).setVm s₂.vm := by
      have : s₂ = ({ s₂ with vm := (U.calling g mk a).vm } : State).setVm s₂.vm := rfl
      rw [e2] at this
      exact this
    have hf₂ : s₂.frames = .throwing q :: .java g :: U.frames.tail := hend
    have hW' : U.WarmedH s₂.vm := hW₂
    have hs₂ : s₂ = ((({ U with heap := s₂.heap, slotsUsed := s₂.slotsUsed } : State).setVm s₂.vm).setTop g).pushFrame (.throwing q) := by
      refine e3.trans ?_
      rw [hf₂, State.calling_eq h.top, State.setFrames_setFrames, State.pushFrame, State.frames_setTop _ hr', State.setTop_of_frames _ hr', State.setFrames_setFrames, hr]
      rfl
    have hsame : U.sameButNew ({ U with heap := s₂.heap, slotsUsed := s₂.slotsUsed } : State) L mc ms := by
      refine ⟨?_, q2, q3, q4, q5, q6⟩
      obtain ⟨t, ht, -⟩ := State.frames_cons hr
      show ({ U with heap := s₂.heap, slotsUsed := s₂.slotsUsed } : State) = { U.setFrames U.frames with heap := s₂.heap, slotsUsed := s₂.slotsUsed }
      rw [State.setFrames_self ht]
    subst hg
    refine Or.inr ⟨q, ⟨(({ U with heap := s₂.heap, slotsUsed := s₂.slotsUsed } : State).setVm s₂.vm), Ls ++ L, c0 + mc, s0 + ms⟩,
      ⟨X.admits, X.cas, X.clock, X.frames, X.room, X.hears, X.method, X.code, (X.here.setHeapUsed s₂.heap s₂.slotsUsed).setVm hW'.alike, X.tail, State.WarmedH.trans X.warmed hW', X.limits, X.bytes, X.same.trans (hsame.setVm s.vm)⟩,
      ⟨g, mk, s₂, L, E, ce, rfl, rfl, hx, hce, hcv, hcl, rfl, hL, rfl, rfl⟩, ?_⟩
    show Steps p.tables e below _ (((({ U with heap := s₂.heap, slotsUsed := s₂.slotsUsed } : State).setVm s₂.vm).setTop g).pushFrame (.throwing q))
    rw [← hs₂]
    exact hsteps
end
variable {p : Program} {l : Launch} {e : Env} {R : Room} {s : State} {m : MethodId} {args : Array Value} {below : List Frame} {meth : Method} {c : Code} {T : State} {H : Heap} {locs : List Loc} {cells slots : Nat}
theorem vx_callVX (X : Stand p l e R s m args below meth c T locs cells slots) (hexec : p.tables.exec = Jvm.exec) {own C : String} {index : Nat} {y : MethodName} {bytes : ByteArray} {maxL : Nat} {ret : Option FieldType} {hh : List (Nat × Nat × Nat × Nat)}
    (hown : s.vm.findClass own = some m.cls) (hlink : (Cond.methodLink own index y).before args s = true) (hinst : (Cond.instanceMethod y).before args s = true) (hsel : (Cond.selects C y y).before args s = true)
    (hcode : (Cond.codeWith y bytes maxL ret hh).before args s = true) (hy : y.cls ≠ "java/lang/invoke/MethodHandle" ∧ y.cls ≠ "java/lang/invoke/VarHandle")
    {W9 : Nat} {Pre : Pt → Array Value → Prop} {Post : Pt → Array Value → Option Value → Pt → Prop} {PostX : Pt → Array Value → Addr → Pt → Prop} (hK : vx_Back l R p e below s args y 3 W9 Pre Post PostX)
    {b : Addr} {cellB : Cell} (hcell : T.heap[b]? = some cellB) (hobj : cellB.vm.isStatics = false) (hcls : s.vm.findClass C = some cellB.cls)
    {g : JFrame} (hg : g.method = m) (hsize : g.locals.size = c.maxLocals) {argsL rest : List Value} (hlen : ∀ sig, parseMethodDescriptor y.desc = some sig → argsL.length = sig.parameters.length)
    (hstack : g.stack = argsL.reverse ++ .ref b :: rest) (hW : 2 * g.monitorRoom + (rest.map fun v => v.category).sum ≤ W9) (hdg : decode c.code g.pc = .ok (.invokevirtual index, 3))
    (hpre : ∀ vm₁, s.WarmedH vm₁ → Pre ⟨T.setVm vm₁, locs, cells, slots⟩ (Value.ref b :: argsL).toArray) :
    (∃ (v : Option Value) (vm₁ : Vm) (B : Pt), s.WarmedH vm₁ ∧ Stand p l e R s m args below meth c B.U B.locs B.cells B.slots ∧ Post ⟨T.setVm vm₁, locs, cells, slots⟩ (Value.ref b :: argsL).toArray v B ∧
      ∀ target, Steps p.tables e below (B.U.setTop { g with pc := g.pc + 3, stack := v.toList ++ rest }) target → Steps p.tables e below (T.setTop g) target) ∨
    (∃ (q : Addr) (vm₁ : Vm) (B : Pt), s.WarmedH vm₁ ∧ Stand p l e R s m args below meth c B.U B.locs B.cells B.slots ∧ PostX ⟨T.setVm vm₁, locs, cells, slots⟩ (Value.ref b :: argsL).toArray q B ∧
      Steps p.tables e below (T.setTop g) ((B.U.setTop { g with stack := rest }).pushFrame (.throwing q))) := by
  obtain ⟨mk, methM, hnamed, hmethM, hstM, habM⟩ := Cond.instanceMethod_spec hinst
  obtain ⟨m8, methM', cM, hn8, hmethM', -, -, -, -, -, -, hsigM⟩ := Cond.codeWith_spec hcode
  cases Option.some.inj (hn8.symm.trans hnamed)
  cases hmethM.symm.trans hmethM'
  obtain ⟨c2, r2, m2, q1, q2, q3, q4, kP, hkP, hkPi⟩ := Cond.selects_spec hsel
  cases hcls.symm.trans q1
  cases (State.methodFound?_of_named hnamed hy).symm.trans q2
  cases hnamed.symm.trans q3
  have hselP : selectMethod e.platform s.vm cellB.cls mk = .method mk := by rw [Launch.admits_selectMethod X.admits]; exact q4
  obtain ⟨vm₁, X₁, hstep₁⟩ := X.invokevirtual hexec hown hlink hnamed hmethM hstM hkP hkPi hy (a := b) (cell := cellB) hcell
    (fun z h => by rw [h] at hobj; cases hobj) hselP hmethM habM hkP hkPi (g := g) hg (argsL := argsL) (rest := rest) (hlen _ hsigM) hstack hdg
  rcases hK m meth c ⟨T.setVm vm₁, locs, cells, slots⟩ { g with stack := rest } (.invokevirtual index) mk (Value.ref b :: argsL).toArray X₁ hg hsize hdg hW (X₁.named hnamed) (hpre vm₁ X₁.warmed) with ⟨v, B, X', hpost, hsteps⟩ | ⟨q, B, X', hpost, hsteps⟩
  · exact Or.inl ⟨v, vm₁, B, X₁.warmed, X', hpost, fun target h => hstep₁ _ fun acts => by rw [doInvoke_state]; exact hsteps.trans h⟩
  · exact Or.inr ⟨q, vm₁, B, X₁.warmed, X', hpost, hstep₁ _ fun acts => by rw [doInvoke_state]; exact hsteps⟩
theorem vx_callSX (X : Stand p l e R s m args below meth c T locs cells slots) (hexec : p.tables.exec = Jvm.exec) {own : String} {index : Nat} {y : MethodName} {bytes : ByteArray} {maxL : Nat} {ret : Option FieldType} {hh : List (Nat × Nat × Nat × Nat)}
    (hown : s.vm.findClass own = some m.cls) (hlink : (Cond.methodLink own index y).before args s = true) (hstat : (Cond.static y).before args s = true) (hinit : (Cond.initialized y.cls).before args s = true)
    (hcode : (Cond.codeWith y bytes maxL ret hh).before args s = true) (hy : y.cls ≠ "java/lang/invoke/MethodHandle" ∧ y.cls ≠ "java/lang/invoke/VarHandle")
    {W9 : Nat} {Pre : Pt → Array Value → Prop} {Post : Pt → Array Value → Option Value → Pt → Prop} {PostX : Pt → Array Value → Addr → Pt → Prop} (hK : vx_Back l R p e below s args y 3 W9 Pre Post PostX)
    {g : JFrame} (hg : g.method = m) (hsize : g.locals.size = c.maxLocals) {argsL rest : List Value} (hlen : ∀ sig, parseMethodDescriptor y.desc = some sig → argsL.length = sig.parameters.length)
    (hstack : g.stack = argsL.reverse ++ rest) (hW : 2 * g.monitorRoom + (rest.map fun v => v.category).sum ≤ W9) (hdg : decode c.code g.pc = .ok (.invokestatic index, 3))
    (hpre : ∀ vm₁, s.WarmedH vm₁ → Pre ⟨T.setVm vm₁, locs, cells, slots⟩ argsL.toArray) :
    (∃ (v : Option Value) (vm₁ : Vm) (B : Pt), s.WarmedH vm₁ ∧ Stand p l e R s m args below meth c B.U B.locs B.cells B.slots ∧ Post ⟨T.setVm vm₁, locs, cells, slots⟩ argsL.toArray v B ∧
      ∀ target, Steps p.tables e below (B.U.setTop { g with pc := g.pc + 3, stack := v.toList ++ rest }) target → Steps p.tables e below (T.setTop g) target) ∨
    (∃ (q : Addr) (vm₁ : Vm) (B : Pt), s.WarmedH vm₁ ∧ Stand p l e R s m args below meth c B.U B.locs B.cells B.slots ∧ PostX ⟨T.setVm vm₁, locs, cells, slots⟩ argsL.toArray q B ∧
      Steps p.tables e below (T.setTop g) ((B.U.setTop { g with stack := rest }).pushFrame (.throwing q))) := by
  obtain ⟨mk, methM, cM, hnamed, hmethM, -, -, -, -, -, -, hsigM⟩ := Cond.codeWith_spec hcode
  have hstatic : methM.isStatic = true := Cond.static_spec hnamed hmethM hstat
  obtain ⟨kP, hkP, -⟩ := className_of_methodNamed hnamed
  have hinitP : kP.init = .initialized := Cond.initialized_spec (findClass_of_methodNamed hnamed) hkP hinit
  obtain ⟨vm₁, X₁, hstep₁⟩ := X.invokestatic hexec hown hlink hnamed hmethM hstatic hkP hinitP hy (g := g) hg (argsL := argsL) (rest := rest) (hlen _ hsigM) hstack hdg
  rcases hK m meth c ⟨T.setVm vm₁, locs, cells, slots⟩ { g with stack := rest } (.invokestatic index) mk argsL.toArray X₁ hg hsize hdg hW (X₁.named hnamed) (hpre vm₁ X₁.warmed) with ⟨v, B, X', hpost, hsteps⟩ | ⟨q, B, X', hpost, hsteps⟩
  · exact Or.inl ⟨v, vm₁, B, X₁.warmed, X', hpost, fun target h => hstep₁ _ fun acts => by rw [doInvoke_state]; exact hsteps.trans h⟩
  · exact Or.inr ⟨q, vm₁, B, X₁.warmed, X', hpost, hstep₁ _ fun acts => by rw [doInvoke_state]; exact hsteps⟩
theorem vx_callVW (X : Stand p l e R s m args below meth c T locs cells slots) (hexec : p.tables.exec = Jvm.exec) {own C : String} {index : Nat} {y : MethodName} {bytes : ByteArray} {maxL : Nat} {ret : Option FieldType} {hh : List (Nat × Nat × Nat × Nat)}
    (hown : s.vm.findClass own = some m.cls) (hlink : (Cond.methodLink own index y).before args s = true) (hinst : (Cond.instanceMethod y).before args s = true) (hsel : (Cond.selects C y y).before args s = true)
    (hcode : (Cond.codeWith y bytes maxL ret hh).before args s = true) (hy : y.cls ≠ "java/lang/invoke/MethodHandle" ∧ y.cls ≠ "java/lang/invoke/VarHandle")
    {W9 : Nat} {Pre : Pt → Array Value → Prop} {Post : Pt → Array Value → Option Value → Pt → Prop} (hK : Back l R p e below s args y 3 W9 Pre Post)
    {b : Addr} {cellB : Cell} (hcell : T.heap[b]? = some cellB) (hobj : cellB.vm.isStatics = false) (hcls : s.vm.findClass C = some cellB.cls)
    {g : JFrame} (hg : g.method = m) (hsize : g.locals.size = c.maxLocals) {argsL rest : List Value} (hlen : ∀ sig, parseMethodDescriptor y.desc = some sig → argsL.length = sig.parameters.length)
    (hstack : g.stack = argsL.reverse ++ .ref b :: rest) (hW : 2 * g.monitorRoom + (rest.map fun v => v.category).sum ≤ W9) (hdg : decode c.code g.pc = .ok (.invokevirtual index, 3))
    (hpre : ∀ vm₁, s.WarmedH vm₁ → Pre ⟨T.setVm vm₁, locs, cells, slots⟩ (Value.ref b :: argsL).toArray) :
    ∃ (v : Option Value) (vm₁ : Vm) (B : Pt), s.WarmedH vm₁ ∧ Stand p l e R s m args below meth c B.U B.locs B.cells B.slots ∧ Post ⟨T.setVm vm₁, locs, cells, slots⟩ (Value.ref b :: argsL).toArray v B ∧
      ∀ target, Steps p.tables e below (B.U.setTop { g with pc := g.pc + 3, stack := v.toList ++ rest }) target → Steps p.tables e below (T.setTop g) target := by
  obtain ⟨mk, methM, hnamed, hmethM, hstM, habM⟩ := Cond.instanceMethod_spec hinst
  obtain ⟨m8, methM', cM, hn8, hmethM', -, -, -, -, -, -, hsigM⟩ := Cond.codeWith_spec hcode
  cases Option.some.inj (hn8.symm.trans hnamed)
  cases hmethM.symm.trans hmethM'
  obtain ⟨c2, r2, m2, q1, q2, q3, q4, kP, hkP, hkPi⟩ := Cond.selects_spec hsel
  cases hcls.symm.trans q1
  cases (State.methodFound?_of_named hnamed hy).symm.trans q2
  cases hnamed.symm.trans q3
  have hselP : selectMethod e.platform s.vm cellB.cls mk = .method mk := by rw [Launch.admits_selectMethod X.admits]; exact q4
  obtain ⟨vm₁, X₁, hstep₁⟩ := X.invokevirtual hexec hown hlink hnamed hmethM hstM hkP hkPi hy (a := b) (cell := cellB) hcell
    (fun z h => by rw [h] at hobj; cases hobj) hselP hmethM habM hkP hkPi (g := g) hg (argsL := argsL) (rest := rest) (hlen _ hsigM) hstack hdg
  obtain ⟨v, B, X', hpost, hsteps⟩ := hK m meth c ⟨T.setVm vm₁, locs, cells, slots⟩ { g with stack := rest } (.invokevirtual index) mk (Value.ref b :: argsL).toArray X₁ hg hsize hdg hW (X₁.named hnamed) (hpre vm₁ X₁.warmed)
  exact ⟨v, vm₁, B, X₁.warmed, X', hpost, fun target h => hstep₁ _ fun acts => by rw [doInvoke_state]; exact hsteps.trans h⟩
abbrev vx_CVW (R : Room) (s : State) (args : Array Value) (own C : String) (index : Nat) (y : MethodName) (bytes : ByteArray) (maxL : Nat) (ret : Option FieldType) (hh : List (Nat × Nat × Nat × Nat)) (ws : List Cond) (rm : Room) (mc ms n : Nat) : Prop :=
  (rm.cells = mc ∧ rm.slots = ms ∧ rm.frames + 1 ≤ R.frames ∧ 8 + (maxL + 11) + rm.locals ≤ R.locals ∧ (∀ w ∈ ws, ∀ (a' : Array Value) (U : State), s.WarmedH U.vm → w.before a' U = true) ∧ Cond.codeWith y bytes maxL ret hh ∈ ws) ∧
  (Cond.codeWith y bytes maxL ret hh).before args s = true ∧ (Cond.initialized y.cls).before args s = true ∧ (y.cls ≠ "java/lang/invoke/MethodHandle" ∧ y.cls ≠ "java/lang/invoke/VarHandle") ∧
  (∀ sig, parseMethodDescriptor y.desc = some sig → n = sig.parameters.length) ∧ (Cond.methodLink own index y).before args s = true ∧ (Cond.instanceMethod y).before args s = true ∧ (Cond.selects C y y).before args s = true
theorem vx_cwVW {own C : String} {index maxL mc ms : Nat} {y : MethodName} {bytes : ByteArray} {ret : Option FieldType} {hh : List (Nat × Nat × Nat × Nat)} {Ts ws ws' : List Cond} {rm : Room} (n : Nat) (ht : ∀ w ∈ Ts, w.before args s = true) (hT : GoodIn Ts (wsV own index C y ws)) (hw : ws = Cond.codeWith y bytes maxL ret hh :: ws') (hrc : rm.cells = mc) (hrs : rm.slots = ms)
    (hd : y.cls = C ∧ y.cls ≠ "java/lang/invoke/MethodHandle" ∧ y.cls ≠ "java/lang/invoke/VarHandle" ∧ (parseMethodDescriptor y.desc).map (fun d => d.parameters.length) = some n) (hR : rm.frames + 1 ≤ R.frames ∧ 8 + (maxL + 11) + rm.locals ≤ R.locals) :
    vx_CVW R s args own C index y bytes maxL ret hh ws rm mc ms n := by
  obtain ⟨hC, hd⟩ := hd
  subst hC
  have ok : ∀ w ∈ wsV own index y.cls y ws, w.before args s = true := fun w h => ht w (hT w h).1
  have hG : GoodIn Ts ws := fun w h => hT w (by unfold wsV; exact List.mem_append_right _ h)
  have hc : Cond.codeWith y bytes maxL ret hh ∈ ws := by rw [hw]; exact List.mem_cons_self
  refine ⟨⟨hrc, hrs, hR.1, hR.2, pay_in ht hG, hc⟩, ht _ (hG _ hc).1, ok _ (by simp [wsV]), ⟨hd.1, hd.2.1⟩, fun sig h => ?_, ok _ (by simp [wsV]), ok _ (by simp [wsV]), ok _ (by simp [wsV])⟩
  have h2 := hd.2.2
  rw [h] at h2
  exact (Option.some.inj h2).symm
theorem vx_runVW {y : MethodName} {bytes cc : ByteArray} {maxL nL mc ms n index : Nat} {ret : Option FieldType} {hh : List (Nat × Nat × Nat × Nat)} {ws : List Cond} {rm : Room} {Pc : Array Value → State → Prop} {Qc : Array Value → State → Outcome → State → Prop} {free : Addr → Prop} {Ts : List Cond} {own C : String} {b : Addr} {As rest : List Value} {g : JFrame}
    (S : CallFix p m c cc nL s args Ts own) (hM : Met l y ws rm Pc Qc mc ms free) (cw : vx_CVW R s args own C index y bytes maxL ret hh ws rm mc ms n) (hp : PreV s H C b Pc As)
    (hg : g.method = m) (hn : As.length = n) (hsize : g.locals.size = nL) (hstack : g.stack = As.reverse ++ .ref b :: rest) (hW : 2 * g.monitorRoom + (rest.map fun v => v.category).sum ≤ 8) (hdg : decode cc g.pc = .ok (.invokevirtual index, 3)) (hf : cells + mc ≤ R.cells ∧ slots + ms ≤ R.slots) :
    va_Run p l e R s m args below meth c H locs cells slots mc ms g rest (Qc (Value.ref b :: As).toArray) free := by
  obtain ⟨⟨hrc, hrs, hfr, hlo, hws, hcw⟩, hcode, hini, hy, hlen, hl, hin, hse⟩ := cw
  have hK : Back l R p e below s args y 3 8 (PreOf R mc ms Pc) (PostOf Qc mc ms free) := va_backW (hh := hh) (bytes := bytes) (maxL := maxL) (ret := ret) hM hp.1 hrc hrs hfr hlo hws hcw (fun a' U hW => word_at hW (Or.inl (by first | rfl | simp [Cond.onTables, Cond.keeps, Cond.steady])) hini)
  obtain ⟨hx, hb, hml, ho, -⟩ := S
  obtain ⟨-, ⟨cellB, hcB, hoB, hclB⟩, hPc⟩ := hp
  intro T hT X
  obtain ⟨v, vm₁, ⟨U', l2, c2, s2⟩, hW₁, X', ⟨g', mk, t, L, e1, e2, hq, h1, hL, h2, h3⟩, st⟩ := vx_callVW X hx (C := C) (hh := hh) (bytes := bytes) (maxL := maxL) (ret := ret) ho hl hin hse hcode hy hK (by rw [hT]; exact hcB) hoB hclB hg (hsize.trans hml.symm) (argsL := As) (rest := rest) (fun sig h => hn.trans (hlen sig h)) hstack hW (by rw [hb]; exact hdg)
    (fun vm₁ hW₁ => ⟨hf.1, hf.2, hPc (T.setVm vm₁) hT hW₁⟩)
  dsimp only [Pt.U, Pt.locs, Pt.cells, Pt.slots] at X' e1 e2 h1 h2 h3 st
  subst h1; subst h2; subst h3
  exact ⟨v, (T.setVm vm₁).calling g' mk (Value.ref b :: As).toArray, t, U', L, hT, X', hL, e1, e2, hq, st⟩
section
variable {y : MethodName} {bytes cc : ByteArray} {maxL nL mc ms n index : Nat} {ret : Option FieldType} {ws : List Cond} {rm : Room} {Pc : Array Value → State → Prop} {Qc : Array Value → State → Outcome → State → Prop} {XC : String → State → State → Prop} {free : Addr → Prop} {Ts : List Cond} {own C : String} {b : Addr} {As rest : List Value} {g : JFrame}
theorem vx_runVX {hh : List (Nat × Nat × Nat × Nat)} (S : CallFix p m c cc nL s args Ts own) (hM : vx_Met l y ws rm Pc Qc XC mc ms free) (cw : vx_CVW R s args own C index y bytes maxL ret hh ws rm mc ms n) (hp : PreV s H C b Pc As)
    (hg : g.method = m) (hn : As.length = n) (hsize : g.locals.size = nL) (hstack : g.stack = As.reverse ++ .ref b :: rest) (hW : 2 * g.monitorRoom + (rest.map fun v => v.category).sum ≤ 8) (hdg : decode cc g.pc = .ok (.invokevirtual index, 3)) (hf : cells + mc ≤ R.cells ∧ slots + ms ≤ R.slots) :
    vx_Run p l e R s m args below meth c H locs cells slots mc ms g rest (Qc (Value.ref b :: As).toArray) XC free := by
  obtain ⟨⟨hrc, hrs, hfr, hlo, hws, hcw⟩, hcode, hini, hy, hlen, hl, hin, hse⟩ := cw
  have hK : vx_Back l R p e below s args y 3 8 (PreOf R mc ms Pc) (PostOf Qc mc ms free) (vx_Post XC mc ms free) := vx_backW (hh := hh) (bytes := bytes) (maxL := maxL) (ret := ret) hM hp.1 hrc hrs hfr hlo hws hcw (fun a' U hW => word_at hW (Or.inl (by first | rfl | simp [Cond.onTables, Cond.keeps, Cond.steady])) hini)
  obtain ⟨hx, hb, hml, ho, -⟩ := S
  obtain ⟨-, ⟨cellB, hcB, hoB, hclB⟩, hPc⟩ := hp
  intro T hT X
  rcases vx_callVX X hx (C := C) (hh := hh) (bytes := bytes) (maxL := maxL) (ret := ret) ho hl hin hse hcode hy hK (by rw [hT]; exact hcB) hoB hclB hg (hsize.trans hml.symm) (argsL := As) (rest := rest) (fun sig h => hn.trans (hlen sig h)) hstack hW (by rw [hb]; exact hdg)
    (fun vm₁ hW₁ => ⟨hf.1, hf.2, hPc (T.setVm vm₁) hT hW₁⟩) with ⟨v, vm₁, ⟨U', l2, c2, s2⟩, hW₁, X', ⟨g', mk, t, L, e1, e2, hq, h1, hL, h2, h3⟩, st⟩ | ⟨q, vm₁, ⟨U', l2, c2, s2⟩, hW₁, X', ⟨g', mk, t, L, E, ce, e1, e2, hq, hce, hcv, hcl, h1, hL, h2, h3⟩, st⟩
  · dsimp only [Pt.U, Pt.locs, Pt.cells, Pt.slots] at X' e1 e2 h1 h2 h3 st
    subst h1; subst h2; subst h3
    exact Or.inl ⟨v, (T.setVm vm₁).calling g' mk (Value.ref b :: As).toArray, t, U', L, hT, X', hL, e1, e2, hq, st⟩
  · dsimp only [Pt.U, Pt.locs, Pt.cells, Pt.slots] at X' e1 e2 h1 h2 h3 st hcl
    subst h1; subst h2; subst h3
    exact Or.inr ⟨q, (T.setVm vm₁).calling g' mk (Value.ref b :: As).toArray, t, U', L, E, ce, hT, X', hL, e1, e2, hq, hce, hcv, vx_cls hW₁ hcl, st⟩
theorem vx_runSX {hh : List (Nat × Nat × Nat × Nat)} (S : CallFix p m c cc nL s args Ts own) (hM : vx_Met l y ws rm Pc Qc XC mc ms free) (cw : vx_CSW R s args own index y bytes maxL ret hh ws rm mc ms n) (hp : PreS s H Pc As)
    (hg : g.method = m) (hn : As.length = n) (hsize : g.locals.size = nL) (hstack : g.stack = As.reverse ++ rest) (hW : 2 * g.monitorRoom + (rest.map fun v => v.category).sum ≤ 8) (hdg : decode cc g.pc = .ok (.invokestatic index, 3)) (hf : cells + mc ≤ R.cells ∧ slots + ms ≤ R.slots) :
    vx_Run p l e R s m args below meth c H locs cells slots mc ms g rest (Qc As.toArray) XC free := by
  obtain ⟨⟨hrc, hrs, hfr, hlo, hws, hcw⟩, hcode, hini, hy, hlen, hl, hstt⟩ := cw
  have hK : vx_Back l R p e below s args y 3 8 (PreOf R mc ms Pc) (PostOf Qc mc ms free) (vx_Post XC mc ms free) := vx_backW (hh := hh) (bytes := bytes) (maxL := maxL) (ret := ret) hM hp.1 hrc hrs hfr hlo hws hcw (fun a' U hW => word_at hW (Or.inl (by first | rfl | simp [Cond.onTables, Cond.keeps, Cond.steady])) hini)
  obtain ⟨hx, hb, hml, ho, -⟩ := S
  intro T hT X
  rcases vx_callSX X hx (hh := hh) (bytes := bytes) (maxL := maxL) (ret := ret) ho hl hstt hini hcode hy hK hg (hsize.trans hml.symm) (argsL := As) (rest := rest) (fun sig h => hn.trans (hlen sig h)) hstack hW (by rw [hb]; exact hdg)
    (fun vm₁ hW₁ => ⟨hf.1, hf.2, hp.2 (T.setVm vm₁) hT hW₁⟩) with ⟨v, vm₁, ⟨U', l2, c2, s2⟩, hW₁, X', ⟨g', mk, t, L, e1, e2, hq, h1, hL, h2, h3⟩, st⟩ | ⟨q, vm₁, ⟨U', l2, c2, s2⟩, hW₁, X', ⟨g', mk, t, L, E, ce, e1, e2, hq, hce, hcv, hcl, h1, hL, h2, h3⟩, st⟩
  · dsimp only [Pt.U, Pt.locs, Pt.cells, Pt.slots] at X' e1 e2 h1 h2 h3 st
    subst h1; subst h2; subst h3
    exact Or.inl ⟨v, (T.setVm vm₁).calling g' mk As.toArray, t, U', L, hT, X', hL, e1, e2, hq, st⟩
  · dsimp only [Pt.U, Pt.locs, Pt.cells, Pt.slots] at X' e1 e2 h1 h2 h3 st hcl
    subst h1; subst h2; subst h3
    exact Or.inr ⟨q, (T.setVm vm₁).calling g' mk As.toArray, t, U', L, E, ce, hT, X', hL, e1, e2, hq, hce, hcv, vx_cls hW₁ hcl, st⟩
end
end VXH
theorem vx_ofWH {l : Launch} {y : MethodName} {ws ws' : List Cond} {rm : Room} {Pc : Array Value → State → Prop} {Qc : Array Value → State → Outcome → State → Prop} {XC : String → State → State → Prop} {mc ms : Nat} {free : Addr → Prop} {cc : ByteArray} {maxL : Nat} {ret : Option FieldType} {hh : List (Nat × Nat × Nat × Nat)}
    (hy : plainName y.cls = true) (hw : ws = Cond.codeWith y cc maxL ret hh :: ws')
    (body : ∀ p e s m args below meth c s₁, BodyLoose p l y (headSpec ws rm) cc maxL ret e s m args below meth c s₁ → c.maxLocals = maxL → Pc args s →
      W p l e (headSpec ws rm).room s m args below meth c s.heap [] 0 0 (vx_MQ below Qc XC args s mc ms free) (entryFrame m args maxL)) : vx_Met l y ws rm Pc Qc XC mc ms free := by
  refine MetFree.of_bodyS (code := cc) (maxLocals := maxL) (ret := ret) hy ?_ ?_
  · intro args s m h hn
    obtain ⟨m9, meth, c, hn9, h1, h2, h3, h4, -, h5, h6, -⟩ := Cond.codeWith_spec (atoms_spec (ws := ws) h _ (by rw [hw]; exact List.mem_cons_self))
    cases hn.symm.trans hn9
    exact ⟨meth, c, h1, h2, h3, h4, h5, h6⟩
  · intro p e s m args below meth c s₁ B hml hP _
    have hh0 : s₁.heap = s.heap := by rw [B.state]; rfl
    obtain ⟨t, a1, o, b1, b2, b3⟩ := body p e s m args below meth c s₁ B hml hP s₁ hh0 (Stand.of_body B)
    exact ⟨t, o, a1, b1, b2, b3⟩
/-! ===== END ===== -/

/-! ===== BEGIN what the machine throws by itself, no traces kept ===== -/
section VXM
set_option maxHeartbeats 1000000 in
/-- the machine throws cls with the message text, no traces kept: from its note over the frame g to 'throwing' over the same frame (follows the proofs of Stand.vmThrowsMessage, Shelf/KitTracedVmS.lean, and Stand.throwsMessageColdBareV, StandMessageColdV.lean, without the step out of the frame) -/
theorem vx_vmAt {p : Program} {l : Launch} {e : Env} {R : Room} {s : State} {m₀ : MethodId} {args : Array Value} {below : List Frame} {meth : Method} {c : Code} {W : State} {locs : List Loc} {cells slots : Nat}
    (X : Stand p l e R s m₀ args below meth c W locs cells slots) (hexec : p.tables.exec = Jvm.exec) (htr : e.platform.stackTraces = false) {cls : String} {names : List String} {text : String}
    (hcls : Bundle.fit cls = true) (hnames : ∀ n ∈ names, Bundle.fit n = true) (hsoe : (cls == "java/lang/StackOverflowError") = false) (hoom : (cls == "java/lang/OutOfMemoryError") = false)
    (h : ∀ a ∈ Bundle.messageArmAtoms cls names, a.before args s = true)
    (hlocs : ∀ x ∈ locs, ∀ cell, s.heap[x.base]? = some cell → cell.vm.isStatics = false)
    (htext : (text == notModelled) = false) (hlimit : ¬ (stringBytes (stringToUtf16 text)).size > e.platform.arrayLengthLimit) (hheap : ¬ (stringBytes (stringToUtf16 text)).size * componentBytes .byte > e.platform.maxHeapBytes)
    {g : JFrame} (hg : g.method = m₀) (hsize : g.locals.size = c.maxLocals)
    (hRframes : names.length + 4 < R.frames) (hRlocals : 2 * g.monitorRoom + (g.stack.map fun v => v.category).sum + 10240 ≤ R.locals) (hshort : 13 * names.length + 55 ≤ 10240)
    (hRcells : cells + 3 ≤ R.cells) (hRslots : slots + ((stringBytes (stringToUtf16 text)).size + 4 + 6) ≤ R.slots) (hlocks : meth.locks = false) :
    ∃ (S : State) (q : Addr) (ce : Cell), (∀ target, Steps p.tables e below ((S.setTop g).pushFrame (.throwing q)) target → Steps p.tables e below ((W.setTop g).pushFrame (.throwNew cls (some text) none)) target) ∧
      Stand p l e R s m₀ args below meth c S locs (cells + 3) (slots + ((stringBytes (stringToUtf16 text)).size + 4 + 6)) ∧ S.heap[q]? = some ce ∧ s.vm.findClass cls = some ce.cls ∧ ce.vm = .none := by
  have howns : e.platform.frameOwnsMonitors = true := by rw [X.admits.platform]
  have hfin : e.platform.finalization = false := by rw [X.admits.platform]
  have hpl : e.platform.magicAccessors = ({} : Platform).magicAccessors := by rw [X.admits.platform]
  have a : ∀ x, x ∈ Bundle.messageArmAtoms cls names → x.holds args s none s [] = true := fun x hx => h x hx
  obtain ⟨T, Z0, L, -, Y⟩ := ThrowableC.of_atoms (args := args) howns hfin hpl (fun x hx => h x (by simp [Bundle.messageArmAtoms, hx]))
  obtain ⟨Z, M, LZ, LM, hnZ⟩ := Init0T.ofS_atoms (args := args) hpl L Y (fun x hx => h x (by simp [Bundle.messageArmAtoms, hx]))
  obtain ⟨P1, Ps, hlen, L1, hL, hP1m, hlink1, hlink⟩ := Bundle.chainS (args := args) hpl hnZ names cls hcls hnames (fun x hx => h x (by simp [Bundle.messageArmAtoms, hx]))
  obtain ⟨Zs, LZs, hn4, hfitv, hfitc⟩ := StringT.of_atoms (args := args) (fun x hx => h x (by simp [Bundle.messageArmAtoms, hx]))
  have hfound : s.vm.findClass cls = some P1.m.cls := findClass_of_methodNamed hP1m
  obtain ⟨c1, kX, hc1, hk, hord, -, -, hn6⟩ := Cond.instantiable_spec (a (.instantiable cls 6) (by simp [Bundle.messageArmAtoms]))
  cases Option.some.inj (hc1.symm.trans hfound)
  have hinit := Cond.initialized_spec hfound hk (a (.initialized cls) (by simp [Bundle.messageArmAtoms]))
  have hctor : kX.findMethod "<init>" "(Ljava/lang/String;)V" = some P1.m.idx := findMethod_of_methodNamed hP1m hk
  have hsel0 : selectMethod e.platform s.vm P1.m.cls T.fill0 = .method T.fill0 := by
    obtain ⟨c2, r2, m2, q1, q2, q3, q4, -⟩ := Cond.selects_spec (a (.selects cls Bundle.tFill0 Bundle.tFill0) (by simp [Bundle.messageArmAtoms]))
    cases Option.some.inj (q1.symm.trans hfound)
    cases Option.some.inj (q2.symm.trans (State.methodFound?_of_named Y.fill0 (by decide)))
    cases Option.some.inj (q3.symm.trans Y.fill0)
    rw [Launch.admits_selectMethod X.admits]; exact q4
  have hselF : selectMethod e.platform s.vm P1.m.cls T.fill = .method T.fill := by
    obtain ⟨c2, r2, m2, q1, q2, q3, q4, -⟩ := Cond.selects_spec (a (.selects cls Bundle.tFill Bundle.tFill) (by simp [Bundle.messageArmAtoms]))
    cases Option.some.inj (q1.symm.trans hfound)
    cases Option.some.inj (q2.symm.trans (State.methodFound?_of_named Y.fill (by decide)))
    cases Option.some.inj (q3.symm.trans Y.fill)
    rw [Launch.admits_selectMethod X.admits]; exact q4
  obtain ⟨cellS0, hcS0, hiss⟩ := Y.statics
  obtain ⟨u0, hu0⟩ := Cond.staticRefV Y.unassigned L.unassignedStatic L.statics hcS0 hiss (a (.isRef (.static Bundle.tN "UNASSIGNED_STACK" Bundle.steD)) (by simp [Bundle.messageArmAtoms]))
  obtain ⟨sen, hsen⟩ := Cond.staticRefV Y.sentinel L.sentinelStatic L.statics hcS0 hiss (a (.isRef (.static Bundle.tN "SUPPRESSED_SENTINEL" Bundle.listD)) (by simp [Bundle.messageArmAtoms]))
  obtain ⟨ci198, i198, fB, hk198, hg198, ha198, hsB, -, hnB, htB, hffB⟩ := Cond.ownField (t := .object "java/lang/Object") Y.found L.cls (by decide +kernel) (a (.fieldLink Bundle.tN 198 Bundle.tN "backtrace" "Ljava/lang/Object;") (by simp [Bundle.messageArmAtoms])) (a (.lays Bundle.tN Bundle.tN "backtrace" "Ljava/lang/Object;") (by simp [Bundle.messageArmAtoms])) e.platform hpl
  obtain ⟨cellS, hcS', heS, -, hkeep⟩ := X.same.2.2.2.2.2 T.aS cellS0 hcS0
  have hcellS : W.heap[T.aS]? = some cellS := hcS'
  have hout' : ∀ i, (⟨T.aS, i⟩ : Loc) ∉ locs := fun i hmem => by
    have := hlocs _ hmem cellS0 hcS0
    rw [hiss] at this; cases this
  have hknownS : cellS.vm ≠ .unknown := by
    rw [heS]; intro hu
    rw [show cellS0.vm = .unknown from hu] at hiss
    cases hiss
  have hvU : cellS.slots[T.fUnassigned.slot]? = some u0.v := by rw [hkeep _ (hout' _)]; exact hu0
  have hvSen : cellS.slots[T.fSentinel.slot]? = some sen.v := by rw [hkeep _ (hout' _)]; exact hsen
  obtain ⟨iM, hffM⟩ := Y.msg
  obtain ⟨tyC, dC, hdC, hdnC⟩ := Cond.laysAt hfound hk Y.cause (a (.lays cls Bundle.tN "cause" "Ljava/lang/Throwable;") (by simp [Bundle.messageArmAtoms]))
  obtain ⟨tyS, dS, hdS, hdnS⟩ := Cond.laysAt hfound hk Y.stack (a (.lays cls Bundle.tN "stackTrace" Bundle.steD) (by simp [Bundle.messageArmAtoms]))
  obtain ⟨tyP, dP, hdP, hdnP⟩ := Cond.laysAt hfound hk Y.supp (a (.lays cls Bundle.tN "suppressedExceptions" Bundle.listD) (by simp [Bundle.messageArmAtoms]))
  obtain ⟨tyM, dM, hdM, hdnM⟩ := Cond.laysAt hfound hk hffM (a (.lays cls Bundle.tN "detailMessage" "Ljava/lang/String;") (by simp [Bundle.messageArmAtoms]))
  obtain ⟨tyB, dB, hdB, hdnB⟩ := Cond.laysAt hfound hk hffB (a (.lays cls Bundle.tN "backtrace" "Ljava/lang/Object;") (by simp [Bundle.messageArmAtoms]))
  have bC := Cond.laysApart hdB hdC hdnB hdnC (by rw [hnB, Y.causeName]; decide)
  have bS := Cond.laysApart hdB hdS hdnB hdnS (by rw [hnB, Y.stackName]; decide)
  have bP := Cond.laysApart hdB hdP hdnB hdnP (by rw [hnB, Y.suppName]; decide)
  have hbk : ((preparedCellV T.toThrowableT (freshCell P1.m.cls kX) (W.heap.size + 2) u0 sen).withEntry W.cur).slots[fB.slot]? = some .null := by
    have := fresh_default (c := P1.m.cls) tyB
    rw [htB] at this
    simpa [preparedCellV, Cell.setSlot, Cell.withEntry, Array.getElem?_setIfInBounds, bC, bS, bP, bC.symm, bS.symm, bP.symm, defaultValue] using this
  have tkC := Takes.of_laid (v := .ref (W.heap.size + 2)) hk hord tyC (by rw [Y.causeType]; rfl)
  have tkS := Takes.of_laid (v := u0.v) hk hord tyS (by rw [Y.stackType]; exact fits_refV_array _ u0)
  have tkP := Takes.of_laid (v := sen.v) hk hord tyP (by rw [Y.suppType]; exact fits_refV_object _ sen)
  have tkM := Takes.of_laid (v := .ref (W.heap.size + 1)) hk hord tyM (by rw [Y.msgType]; rfl)
  have hskip : SkipFacts T e.platform s (fun u => u) u0 ((preparedCellV T.toThrowableT (freshCell P1.m.cls kX) (W.heap.size + 2) u0 sen).withEntry W.cur) := ⟨{ ci198 := ci198, i198 := i198, fBack := fB }, ⟨hk198, hg198, ha198, hsB⟩, hbk, fun _ _ => rfl⟩
  have h0 : At W g.method c below := by rw [hg]; exact X.here
  obtain ⟨hbeyond, hfreeW⟩ := X.vmMayThrow hsize (.throwNew cls (some text) none) (fun f hf => by cases hf) rfl hRlocals
  have hfr' : W.frames.length + Ps.length + 4 < (e.platform.stackLimits W.me).1 := by have := X.framesAbove hRframes; omega
  have hwd' : (stackUse (.java g :: W.frames.tail)).2 + 13 * Ps.length + 55 ≤ (e.platform.stackLimits W.me).2 := by have := X.stackAbove hsize (K := 13 * Ps.length + 55) (by omega); omega
  have hslots : W.slotsUsed + (stringBytes (stringToUtf16 text)).size + Zs.kS.instanceTypes.size + kX.instanceTypes.size ≤ e.platform.maxSlots := by
    have := X.slotsAbove hRslots
    rw [hn4, hn6]
    omega
  obtain ⟨vm', hW', st⟩ := Steps.vmThrowsMessageColdByV p (s₀ := s) (S := W) (g := g) h0 hexec T L Z LZ M LM X.warmed (t := W.cur) rfl Zs LZs P1 L1 Ps hL hlink1 hlink hsoe hoom hfound hk hinit hord hctor
    (Launch.admits_hotImplicitExceptions X.admits) hbeyond hfreeW htext hlimit hheap (X.cellsAbove hRcells) hslots (hfitv _) (hfitc _)
    (Nn := fun u => u) heapOnly_id (fun _ _ => rfl) (fun _ => rfl) (fun u x y => setCell_twice _ _ _ _) (fun _ => Nat.le_refl _) (cN := ((preparedCellV T.toThrowableT (freshCell P1.m.cls kX) (W.heap.size + 2) u0 sen).withEntry W.cur))
    hsel0 hcellS hknownS hvU tkS (fun _ hu => hu) (fun _ hu => hu) rfl rfl rfl (by simp [preparedCellV, Cell.setSlot, Cell.withEntry]) hskip (fun _ _ hA hW _ hroom _ hrest => L.nativeOff p htr hA hW hroom hrest) hselF hvSen tkC tkP tkM Y.objLocals rfl hfr' hwd'
  rw [plainBareV_eq T.toThrowableT (W.heap.size + 2) u0 sen (.ref (W.heap.size + 1)) W.cur rfl rfl] at st
  obtain ⟨-, -, w3, w4, -, -, -⟩ := withThrown_facts e.platform W Zs text P1.m.cls kX
  have X3 := ((X.pushed (bytesOf Zs.cB (stringToUtf16 text))).pushed (stringAt Zs.cS Zs.kS Zs.fv Zs.fc (stringToUtf16 text) W.heap.size)).pushed (freshCell P1.m.cls kX)
  rw [← withString_eq] at X3
  have X4 := X3.noted hW'
  have ha : (W.heap.size + 2) < ((withThrown W Zs text P1.m.cls kX).setVm vm').heap.size := by show _ < (withThrown W Zs text P1.m.cls kX).heap.size; rw [w3]; omega
  have hcell : ((withThrown W Zs text P1.m.cls kX).setVm vm').heap[(W.heap.size + 2)]? = some (freshCell P1.m.cls kX) := w4
  have X5 := ((((X4.stored hcell T.fCause.slot (.ref (W.heap.size + 2))).storedAgain ha T.fStack.slot u0.v).storedAgain ha T.fSupp.slot sen.v).storedAgain ha T.fStack.slot u0.v).storedAgain ha T.fMsg.slot (.ref (W.heap.size + 1))
  obtain ⟨g₁, hfrM⟩ := X5.frames_eq
  have hU : ((((withThrown W Zs text P1.m.cls kX).setVm vm').setCell (W.heap.size + 2) (plainBareV T.toThrowableT (freshCell P1.m.cls kX) (W.heap.size + 2) u0 sen (.ref (W.heap.size + 1)))).setTop g).pushFrame (.throwing (W.heap.size + 2)) = (((withThrown W Zs text P1.m.cls kX).setVm vm').setCell (W.heap.size + 2) (plainBareV T.toThrowableT (freshCell P1.m.cls kX) (W.heap.size + 2) u0 sen (.ref (W.heap.size + 1)))).setFrames (.throwing (W.heap.size + 2) :: .java g :: below) := by
    rw [State.pushFrame, State.frames_setTop _ hfrM, State.setTop_of_frames _ hfrM, State.setFrames_setFrames]
  have b1 : (bytesOf Zs.cB (stringToUtf16 text)).slots.size = (stringBytes (stringToUtf16 text)).size := by
    rw [(Cell.writeAll_facts _ _).2.2]; simp [bytes0]
  have b2 : (stringAt Zs.cS Zs.kS Zs.fv Zs.fc (stringToUtf16 text) W.heap.size).slots.size = 4 := by simp [string0, Cell.setSlot, hn4]
  have b3 : (freshCell P1.m.cls kX).slots.size = 6 := by simp [hn6]
  rw [b1, b2, b3] at X5
  have e9 : slots + (stringBytes (stringToUtf16 text)).size + 4 + 6 = slots + ((stringBytes (stringToUtf16 text)).size + 4 + 6) := by omega
  rw [e9] at X5
  simp only [List.append_assoc, List.cons_append, List.nil_append] at X5
  refine ⟨((withThrown W Zs text P1.m.cls kX).setVm vm').setCell (W.heap.size + 2) (plainBareV T.toThrowableT (freshCell P1.m.cls kX) (W.heap.size + 2) u0 sen (.ref (W.heap.size + 1))), W.heap.size + 2, _, fun target ht => st _ (by rw [X.tail, ← hU]; exact ht),
    X5.forget (fun y hy => ?_), heapAt_setCell_self _ ha, hfound, rfl⟩
  simp only [List.mem_cons, List.not_mem_nil, or_false] at hy
  have hge : s.heap.size ≤ W.heap.size := X.same.2.1
  rcases hy with rfl | rfl | rfl | rfl | rfl <;> exact Nat.le_trans hge (Nat.le_add_right _ 2)
set_option maxHeartbeats 1000000 in
/-- the machine throws NullPointerException, no traces kept: from its note over the frame g to 'throwing' over the same frame (follows the proof of Stand.vmThrowsNpe, Shelf42/KT2.lean; throwsNpeColdBareVAt, Shelf42/NT91.lean, called) -/
theorem vx_npeAt {p : Program} {l : Launch} {e : Env} {R : Room} {s : State} {m₀ : MethodId} {args : Array Value} {below : List Frame} {meth : Method} {c : Code} {W : State} {locs : List Loc} {cells slots : Nat}
    (X : Stand p l e R s m₀ args below meth c W locs cells slots) (hexec : p.tables.exec = Jvm.exec) (htr : e.platform.stackTraces = false) {n : Nat}
    (h : ∀ a ∈ Bundle.npeArmAtoms n, a.before args s = true)
    (hlocs : ∀ x ∈ locs, ∀ cell, s.heap[x.base]? = some cell → cell.vm.isStatics = false)
    {g : JFrame} (hg : g.method = m₀) (hsize : g.locals.size = c.maxLocals)
    (hRframes : 7 < R.frames) (hRlocals : 2 * g.monitorRoom + (g.stack.map fun v => v.category).sum + 10240 ≤ R.locals)
    (hRcells : cells + 1 ≤ R.cells) (hRslots : slots + n ≤ R.slots) (hlocks : meth.locks = false) :
    ∃ (S : State) (q : Addr) (ce : Cell), (∀ target, Steps p.tables e below ((S.setTop g).pushFrame (.throwing q)) target → Steps p.tables e below ((W.setTop g).pushFrame (.throwNew "java/lang/NullPointerException" none none)) target) ∧
      Stand p l e R s m₀ args below meth c S locs (cells + 1) (slots + n) ∧ S.heap[q]? = some ce ∧ s.vm.findClass "java/lang/NullPointerException" = some ce.cls ∧ ce.vm = .none := by
  have howns : e.platform.frameOwnsMonitors = true := by rw [X.admits.platform]
  have hfin : e.platform.finalization = false := by rw [X.admits.platform]
  have hpl : e.platform.magicAccessors = ({} : Platform).magicAccessors := by rw [X.admits.platform]
  have hpl2 : e.platform.arrayCloneIsPublic = true := by rw [X.admits.platform]
  have a' : ∀ x, x ∈ Bundle.npeArmAtoms n → x.holds args s none s [] = true := fun x hx => h x hx
  obtain ⟨T, Z, L, LZ, Y⟩ := ThrowableC.of_atoms (args := args) howns hfin hpl (fun x hx => h x (by simp [Bundle.npeArmAtoms, hx]))
  obtain ⟨N, LN, hcN, hnNF, hordN, hffS⟩ := NpeC.of_atoms (args := args) hpl hpl2 L Y (fun x hx => h x (by simp [Bundle.npeArmAtoms, hx]))
  obtain ⟨P1, L1, hP1m, hP1s⟩ := PassC.of_atoms (args := args) (s := s) hpl (X := Bundle.nN) (Y := Bundle.rN) (by decide) (by decide) LibCode.NullPointerException.Init0.at_0 LibCode.NullPointerException.Init0.at_1 LibCode.NullPointerException.Init0.at_4 (fun x hx => h x (by simp [Bundle.npeArmAtoms, hx]))
  obtain ⟨PR, LR, hPRm, hPRs⟩ := PassC.of_atoms (args := args) (s := s) hpl (X := Bundle.rN) (Y := Bundle.eN) (by decide) (by decide) LibCode.RuntimeException.Init0.at_0 LibCode.RuntimeException.Init0.at_1 LibCode.RuntimeException.Init0.at_4 (fun x hx => h x (by simp [Bundle.npeArmAtoms, hx]))
  obtain ⟨PE, LEx, hPEm, hPEs⟩ := PassC.of_atoms (args := args) (s := s) hpl (X := Bundle.eN) (Y := Bundle.tN) (by decide) (by decide) LibCode.Exception.Init0.at_0 LibCode.Exception.Init0.at_1 LibCode.Exception.Init0.at_4 (fun x hx => h x (by simp [Bundle.npeArmAtoms, hx]))
  have hfound : s.vm.findClass Bundle.nN = some P1.m.cls := findClass_of_methodNamed hP1m
  have ecls : N.cN = P1.m.cls := Option.some.inj (hcN.symm.trans hfound)
  have hk : s.vm.classes[P1.m.cls]? = some N.kN := by rw [← ecls]; exact LN.cls
  have hinit := Cond.initialized_spec hfound hk (a' (.initialized Bundle.nN) (by simp [Bundle.npeArmAtoms]))
  have hctor : N.kN.findMethod "<init>" "()V" = some P1.m.idx := findMethod_of_methodNamed hP1m hk
  obtain ⟨c1, k1, hc1, hk1, -, -, -, hn⟩ := Cond.instantiable_spec (a' (.instantiable Bundle.nN n) (by simp [Bundle.npeArmAtoms]))
  cases Option.some.inj (hc1.symm.trans hfound)
  cases Option.some.inj (hk1.symm.trans hk)
  have hfsz : (freshCell P1.m.cls N.kN).slots.size = n := by simp [hn]
  have hlink1 : P1.sup = PR.m := Option.some.inj (hP1s.symm.trans hPRm)
  have hlinkR : PR.sup = PE.m := Option.some.inj (hPRs.symm.trans hPEm)
  have hlinkE : PE.sup = Z.m T.toThrowableT := Option.some.inj (hPEs.symm.trans Y.init0)
  have hLs : ∀ P, P ∈ [PR, PE] → P.Links0 e.platform s := fun P hP => by
    simp only [List.mem_cons, List.not_mem_nil, or_false] at hP
    rcases hP with rfl | rfl
    · exact LR
    · exact LEx
  have hsel0 : selectMethod e.platform s.vm P1.m.cls T.fill0 = .method T.fill0 := by
    obtain ⟨c2, r2, m2, q1, q2, q3, q4, -⟩ := Cond.selects_spec (a' (.selects Bundle.nN Bundle.tFill0 Bundle.tFill0) (by simp [Bundle.npeArmAtoms]))
    cases Option.some.inj (q1.symm.trans hfound)
    cases Option.some.inj (q2.symm.trans (State.methodFound?_of_named Y.fill0 (by decide)))
    cases Option.some.inj (q3.symm.trans Y.fill0)
    rw [Launch.admits_selectMethod X.admits]; exact q4
  have hselF : selectMethod e.platform s.vm P1.m.cls T.fill = .method N.fill := by
    obtain ⟨c2, r2, m2, q1, q2, q3, q4, -⟩ := Cond.selects_spec (a' (.selects Bundle.nN Bundle.tFill Bundle.nFill) (by simp [Bundle.npeArmAtoms]))
    cases Option.some.inj (q1.symm.trans hfound)
    cases Option.some.inj (q2.symm.trans (State.methodFound?_of_named Y.fill (by decide)))
    cases Option.some.inj (q3.symm.trans hnNF)
    rw [Launch.admits_selectMethod X.admits]; exact q4
  obtain ⟨cellS0, hcS0, hiss⟩ := Y.statics
  obtain ⟨u0, hu0⟩ := Cond.staticRefV Y.unassigned L.unassignedStatic L.statics hcS0 hiss (a' (.isRef (.static Bundle.tN "UNASSIGNED_STACK" Bundle.steD)) (by simp [Bundle.npeArmAtoms]))
  obtain ⟨sen, hsen⟩ := Cond.staticRefV Y.sentinel L.sentinelStatic L.statics hcS0 hiss (a' (.isRef (.static Bundle.tN "SUPPRESSED_SENTINEL" Bundle.listD)) (by simp [Bundle.npeArmAtoms]))
  obtain ⟨ci198, i198, fB, hk198, hg198, ha198, hsB, -, hnB, htB, hffB⟩ := Cond.ownField (t := .object "java/lang/Object") Y.found L.cls (by decide +kernel) (a' (.fieldLink Bundle.tN 198 Bundle.tN "backtrace" Bundle.objD) (by simp [Bundle.npeArmAtoms])) (a' (.lays Bundle.tN Bundle.tN "backtrace" Bundle.objD) (by simp [Bundle.npeArmAtoms])) e.platform hpl
  obtain ⟨cellS, hcS', heS, -, hkeep⟩ := X.same.2.2.2.2.2 T.aS cellS0 hcS0
  have hcellS : W.heap[T.aS]? = some cellS := hcS'
  have hout' : ∀ i, (⟨T.aS, i⟩ : Loc) ∉ locs := fun i hmem => by
    have := hlocs _ hmem cellS0 hcS0
    rw [hiss] at this; cases this
  have hknownS : cellS.vm ≠ .unknown := by
    rw [heS]; intro hu
    rw [show cellS0.vm = .unknown from hu] at hiss
    cases hiss
  have hvU : cellS.slots[T.fUnassigned.slot]? = some u0.v := by rw [hkeep _ (hout' _)]; exact hu0
  have hvSen : cellS.slots[T.fSentinel.slot]? = some sen.v := by rw [hkeep _ (hout' _)]; exact hsen
  obtain ⟨tyC, dC, hdC, hdnC⟩ := Cond.laysAt hfound hk Y.cause (a' (.lays Bundle.nN Bundle.tN "cause" "Ljava/lang/Throwable;") (by simp [Bundle.npeArmAtoms]))
  obtain ⟨tyS, dS, hdS, hdnS⟩ := Cond.laysAt hfound hk Y.stack (a' (.lays Bundle.nN Bundle.tN "stackTrace" Bundle.steD) (by simp [Bundle.npeArmAtoms]))
  obtain ⟨tyP, dP, hdP, hdnP⟩ := Cond.laysAt hfound hk Y.supp (a' (.lays Bundle.nN Bundle.tN "suppressedExceptions" Bundle.listD) (by simp [Bundle.npeArmAtoms]))
  obtain ⟨tyX, dX, hdX, hdnX⟩ := Cond.laysAt hfound hk hffS (a' (.lays Bundle.nN Bundle.nN "extendedMessageState" "I") (by simp [Bundle.npeArmAtoms, Bundle.npeAtoms]))
  obtain ⟨hnX, htX⟩ := State.fieldFound?_type hffS (t := .int) (by decide +kernel)
  have xC := Cond.laysApart hdC hdX hdnC hdnX (by rw [hnX, Y.causeName]; decide)
  have xS := Cond.laysApart hdS hdX hdnS hdnX (by rw [hnX, Y.stackName]; decide)
  have xP := Cond.laysApart hdP hdX hdnP hdnX (by rw [hnX, Y.suppName]; decide)
  have hv0 : (freshCell P1.m.cls N.kN).slots[N.fState.slot]? = some (.int 0) := by
    have := fresh_default (c := P1.m.cls) tyX
    rw [htX] at this; exact this
  obtain ⟨tyB, dB, hdB, hdnB⟩ := Cond.laysAt hfound hk hffB (a' (.lays Bundle.nN Bundle.tN "backtrace" Bundle.objD) (by simp [Bundle.npeArmAtoms]))
  have bC := Cond.laysApart hdB hdC hdnB hdnC (by rw [hnB, Y.causeName]; decide)
  have bS := Cond.laysApart hdB hdS hdnB hdnS (by rw [hnB, Y.stackName]; decide)
  have bP := Cond.laysApart hdB hdP hdnB hdnP (by rw [hnB, Y.suppName]; decide)
  have bX := Cond.laysApart hdB hdX hdnB hdnX (by rw [hnB, hnX]; decide)
  have hbk : ((npeCell N.toNpeT (preparedCellV T.toThrowableT (freshCell P1.m.cls N.kN) W.heap.size u0 sen) W.cur).withEntry W.cur).slots[fB.slot]? = some .null := by
    have := fresh_default (c := P1.m.cls) tyB
    rw [htB] at this
    simpa [npeCell, preparedCellV, Cell.setSlot, Cell.withEntry, Array.getElem?_setIfInBounds, bC, bS, bP, bX, bC.symm, bS.symm, bP.symm, bX.symm, defaultValue] using this
  have tkC := Takes.of_laid (v := .ref W.heap.size) hk hordN tyC (by rw [Y.causeType]; rfl)
  have tkS := Takes.of_laid (v := u0.v) hk hordN tyS (by rw [Y.stackType]; exact fits_refV_array _ u0)
  have tkP := Takes.of_laid (v := sen.v) hk hordN tyP (by rw [Y.suppType]; exact fits_refV_object _ sen)
  have tkX := Takes.of_laid (v := .int 1) hk hordN tyX (by rw [htX]; rfl)
  have hskip : SkipFacts T e.platform s (fun u => u) u0 ((npeCell N.toNpeT (preparedCellV T.toThrowableT (freshCell P1.m.cls N.kN) W.heap.size u0 sen) W.cur).withEntry W.cur) := ⟨{ ci198 := ci198, i198 := i198, fBack := fB }, ⟨hk198, hg198, ha198, hsB⟩, hbk, fun _ _ => rfl⟩
  obtain ⟨vm', X3, st, -⟩ := X.throwsNpeColdBareVAt hexec hg hsize T L Z LZ N LN P1 L1 [PR, PE] hLs hlink1 ⟨hlinkR, hlinkE, trivial⟩ hfound hk hinit hordN hctor hsel0 hselF hcellS hknownS hvU hvSen
    hv0 xC xS xP tkC tkS tkP tkX Y.objLocals hskip (fun _ _ hA hW _ hroom _ hrest => L.nativeOff p htr hA hW hroom hrest) (by simpa using hRframes) hRlocals (by simp) hRcells (by rw [hn]; exact hRslots)
  have hlt : W.heap.size < ((W.pushCell (freshCell P1.m.cls N.kN)).setVm vm').heap.size := by
    show W.heap.size < (W.pushCell (freshCell P1.m.cls N.kN)).heap.size
    rw [State.heap_size_pushCell]; omega
  rw [hfsz] at X3
  obtain ⟨g₁, hfrM⟩ := X3.frames_eq
  have hU : ((((W.pushCell (freshCell P1.m.cls N.kN)).setVm vm').setCell W.heap.size (npeBareV T.toThrowableT N.toNpeT (freshCell P1.m.cls N.kN) W.heap.size u0 sen)).setTop g).pushFrame (.throwing W.heap.size) = (((W.pushCell (freshCell P1.m.cls N.kN)).setVm vm').setCell W.heap.size (npeBareV T.toThrowableT N.toNpeT (freshCell P1.m.cls N.kN) W.heap.size u0 sen)).setFrames (.throwing W.heap.size :: .java g :: below) := by
    rw [State.pushFrame, State.frames_setTop _ hfrM, State.setTop_of_frames _ hfrM, State.setFrames_setFrames]
  refine ⟨_, W.heap.size, _, fun target ht => st.trans (by rw [← hU]; exact ht), X3.forget (fun y hy => ?_), heapAt_setCell_self _ hlt, hfound, rfl⟩
  simp only [List.mem_cons, List.not_mem_nil, or_false] at hy
  have hge : s.heap.size ≤ W.heap.size := X.same.2.1
  rcases hy with rfl | rfl | rfl | rfl | rfl <;> exact hge
/-- the words of a machine's NullPointerException, but the four that speak of the heap -/
def vx_atN (n : Nat) : List Cond := (Bundle.npeArmAtoms n).filter vx_no
/-- the words of a machine's throw with a message, but the four that speak of the heap -/
def vx_atM (X : String) (names : List String) : List Cond := (Bundle.messageArmAtoms X names).filter vx_no
section
variable {p : Program} {l : Launch} {e : Env} {R : Room} {s : State} {m : MethodId} {args : Array Value} {below : List Frame} {meth : Method} {c : Code} {H : Heap} {locs : List Loc} {cells slots : Nat}
/-- a frame seen from a rebased start, seen from the first start again -/
theorem vx_back9 {T S : State} {R' : Room} {k n : Nat} (X : Stand p l e R s m args below meth c T locs cells slots) (Y : Stand p l e R' ((T.setVm s.vm).setFrames (.invoking m args :: below)) m args below meth c T [] 0 0) (Z : Stand p l e R' ((T.setVm s.vm).setFrames (.invoking m args :: below)) m args below meth c S [] k n) :
    Stand p l e R s m args below meth c S locs (cells + k) (slots + n) := by
  have hW0 : s.WarmedH ((T.setVm s.vm).setFrames (.invoking m args :: below)).vm := State.WarmedH.refl s
  refine { admits := X.admits, cas := X.cas, clock := X.clock, frames := X.frames, room := X.room, hears := X.hears, method := X.method, code := X.code, here := Z.here, tail := Z.tail, warmed := State.WarmedH.trans hW0 Z.warmed, limits := Z.limits.trans (Y.limits.symm.trans X.limits), bytes := Z.bytes.trans (Y.bytes.symm.trans X.bytes), same := ?_ }
  obtain ⟨e1, e2⟩ := Z.same
  rw [State.setFrames_setFrames] at e1
  have h2 : (T.setVm s.vm).sameButNew (S.setVm s.vm) [] k n := ⟨e1, e2⟩
  have h3 := X.same.trans h2
  rw [List.append_nil] at h3
  exact h3
/-- from the machine's note that E is thrown here with this text -/
def vx_Note (p : Program) (l : Launch) (e : Env) (R : Room) (s : State) (m : MethodId) (args : Array Value) (below : List Frame) (meth : Method) (c : Code) (H : Heap) (locs : List Loc) (cells slots : Nat) (Q : State → Prop) (g : JFrame) (E text : String) : Prop :=
  ∀ T : State, T.heap = H → Stand p l e R s m args below meth c T locs cells slots → ∃ t, Steps p.tables e below ((T.setTop g).pushFrame (.throwNew E (some text) none)) t ∧ Q t
theorem vx_vm {pc : Nat} {ls : Array Slot} {rest : List Value} {Q : State → Prop} (hexec : p.tables.exec = Jvm.exec) (hl : l.stackTraces = false) {cls text : String} {names : List String} {nb : Nat} {A : Nat → Prop}
    (hcls : Bundle.fit cls = true) (hnames : ∀ n ∈ names, Bundle.fit n = true) (hsoe : (cls == "java/lang/StackOverflowError") = false) (hoom : (cls == "java/lang/OutOfMemoryError") = false)
    (hat : ∀ w ∈ vx_atM cls names, w.before args s = true) (hgood : ∀ w ∈ vx_atM cls names, vx_ot w = true)
    (hU : vx_Zq Bundle.tN "UNASSIGNED_STACK" Bundle.steD A s s.heap) (hN : vx_Zq Bundle.tN "SUPPRESSED_SENTINEL" Bundle.listD A s s.heap) (hS : va_S A s.heap H locs) (hsize : ls.size = c.maxLocals)
    (htext : (text == notModelled) = false) (hnb : (stringBytes (stringToUtf16 text)).size ≤ nb) (hnb1 : nb ≤ 1000)
    (hRframes : names.length + 4 < R.frames) (hRlocals : (rest.map fun v => v.category).sum + 10240 ≤ R.locals) (hshort : 13 * names.length + 55 ≤ 10240) (hRcells : cells + 3 ≤ R.cells) (hRslots : slots + (nb + 10) ≤ R.slots) (hlocks : meth.locks = false)
    (k : ∀ (H1 : Heap) (q9 : Addr) (ce : Cell), H.size ≤ H1.size → (∀ q : Nat, q < H.size → H1[q]? = H[q]?) → va_S A s.heap H1 locs → H1[q9]? = some ce → ce.vm = .none → s.vm.findClass cls = some ce.cls → vx_W p l e R s m args below meth c H1 locs (cells + 3) (slots + (nb + 10)) Q (F0 m pc ls rest) q9) :
    vx_Note p l e R s m args below meth c H locs cells slots Q (F0 m pc ls rest) cls text := by
  intro T hT X
  have htr : e.platform.stackTraces = false := (show e.platform.stackTraces = l.stackTraces by rw [X.admits.platform]).trans hl
  have Y := vx_rebase X (R' := { frames := R.frames, locals := R.locals, cells := 3, slots := nb + 10 }) (Nat.le_refl _) (Nat.le_refl _) hRcells hRslots
  have hhp : ((T.setVm s.vm).setFrames (.invoking m args :: below)).heap = H := hT
  have hW0 : s.WarmedH ((T.setVm s.vm).setFrames (.invoking m args :: below)).vm := State.WarmedH.refl s
  have hat' : ∀ w ∈ vx_atM cls names, w.before args ((T.setVm s.vm).setFrames (.invoking m args :: below)) = true := fun w hw => vx_ot_at hW0 rfl (hgood w hw) (hat w hw)
  have hU' : vx_Zq Bundle.tN "UNASSIGNED_STACK" Bundle.steD A ((T.setVm s.vm).setFrames (.invoking m args :: below)) ((T.setVm s.vm).setFrames (.invoking m args :: below)).heap := by rw [hhp]; exact vx_Zq.moved hW0.alike (hU.kept hS.2.1)
  have hN' : vx_Zq Bundle.tN "SUPPRESSED_SENTINEL" Bundle.listD A ((T.setVm s.vm).setFrames (.invoking m args :: below)) ((T.setVm s.vm).setFrames (.invoking m args :: below)).heap := by rw [hhp]; exact vx_Zq.moved hW0.alike (hN.kept hS.2.1)
  obtain ⟨S, q, ce, st, Z, hce, hcl', hv⟩ := vx_vmAt Y hexec htr (cls := cls) (names := names) (text := text) hcls hnames hsoe hoom (vx_own hat' (vx_isRefq hU'.1) (vx_isRefq hN'.1) hU'.2.word hN'.2.word) (fun x hx => nomatch hx) htext
    (by rw [Launch.admits_arrayLengthLimit X.admits]; omega) (by rw [Launch.admits_maxHeapBytes X.admits]; simp only [componentBytes]; omega)
    (g := F0 m pc ls rest) rfl hsize hRframes (by show 2 * 0 + (rest.map fun v => v.category).sum + 10240 ≤ R.locals; omega) hshort (by show 0 + 3 ≤ 3; omega) (by show 0 + (_ + 4 + 6) ≤ nb + 10; omega) hlocks
  obtain ⟨f1, f2⟩ := vx_frame Z.same
  have f1' : H.size ≤ S.heap.size := by rw [← hT]; exact f1
  have f2' : ∀ q : Nat, q < H.size → S.heap[q]? = H[q]? := fun q hq => by
    rw [← hT]
    exact f2 q (by rw [← hT] at hq; exact hq) (fun z hz => nomatch hz)
  have X5 := vx_back9 X Y Z
  have X6 : Stand p l e R s m args below meth c S locs (cells + 3) (slots + (nb + 10)) := { X5 with same := X5.same.mono (by omega) (by omega) }
  obtain ⟨t, a1, b1⟩ := k S.heap q ce f1' f2' ⟨Nat.le_trans hS.1 f1', fun q h1 h2 => (f2' q (Nat.lt_of_lt_of_le h1 hS.1)).trans (hS.2.1 q h1 h2), hS.2.2⟩ hce hv hcl' S rfl X6
  exact ⟨t, st t a1, b1⟩
/-- from the machine's note that NullPointerException is thrown here -/
def vx_NoteN (p : Program) (l : Launch) (e : Env) (R : Room) (s : State) (m : MethodId) (args : Array Value) (below : List Frame) (meth : Method) (c : Code) (H : Heap) (locs : List Loc) (cells slots : Nat) (Q : State → Prop) (g : JFrame) : Prop :=
  ∀ T : State, T.heap = H → Stand p l e R s m args below meth c T locs cells slots → ∃ t, Steps p.tables e below ((T.setTop g).pushFrame (.throwNew "java/lang/NullPointerException" none none)) t ∧ Q t
theorem vx_npe {pc : Nat} {ls : Array Slot} {rest : List Value} {Q : State → Prop} (hexec : p.tables.exec = Jvm.exec) (hl : l.stackTraces = false) {nb : Nat} {A : Nat → Prop}
    (hat : ∀ w ∈ vx_atN nb, w.before args s = true) (hgood : ∀ w ∈ vx_atN nb, vx_ot w = true)
    (hU : vx_Zq Bundle.tN "UNASSIGNED_STACK" Bundle.steD A s s.heap) (hN : vx_Zq Bundle.tN "SUPPRESSED_SENTINEL" Bundle.listD A s s.heap) (hS : va_S A s.heap H locs) (hsize : ls.size = c.maxLocals)
    (hRframes : 7 < R.frames) (hRlocals : (rest.map fun v => v.category).sum + 10240 ≤ R.locals) (hRcells : cells + 1 ≤ R.cells) (hRslots : slots + nb ≤ R.slots) (hlocks : meth.locks = false)
    (k : ∀ (H1 : Heap) (q9 : Addr) (ce : Cell), H.size ≤ H1.size → (∀ q : Nat, q < H.size → H1[q]? = H[q]?) → va_S A s.heap H1 locs → H1[q9]? = some ce → ce.vm = .none → s.vm.findClass "java/lang/NullPointerException" = some ce.cls → vx_W p l e R s m args below meth c H1 locs (cells + 1) (slots + nb) Q (F0 m pc ls rest) q9) :
    vx_NoteN p l e R s m args below meth c H locs cells slots Q (F0 m pc ls rest) := by
  intro T hT X
  have htr : e.platform.stackTraces = false := (show e.platform.stackTraces = l.stackTraces by rw [X.admits.platform]).trans hl
  have Y := vx_rebase X (R' := { frames := R.frames, locals := R.locals, cells := 1, slots := nb }) (Nat.le_refl _) (Nat.le_refl _) hRcells hRslots
  have hhp : ((T.setVm s.vm).setFrames (.invoking m args :: below)).heap = H := hT
  have hW0 : s.WarmedH ((T.setVm s.vm).setFrames (.invoking m args :: below)).vm := State.WarmedH.refl s
  have hat' : ∀ w ∈ vx_atN nb, w.before args ((T.setVm s.vm).setFrames (.invoking m args :: below)) = true := fun w hw => vx_ot_at hW0 rfl (hgood w hw) (hat w hw)
  have hU' : vx_Zq Bundle.tN "UNASSIGNED_STACK" Bundle.steD A ((T.setVm s.vm).setFrames (.invoking m args :: below)) ((T.setVm s.vm).setFrames (.invoking m args :: below)).heap := by rw [hhp]; exact vx_Zq.moved hW0.alike (hU.kept hS.2.1)
  have hN' : vx_Zq Bundle.tN "SUPPRESSED_SENTINEL" Bundle.listD A ((T.setVm s.vm).setFrames (.invoking m args :: below)) ((T.setVm s.vm).setFrames (.invoking m args :: below)).heap := by rw [hhp]; exact vx_Zq.moved hW0.alike (hN.kept hS.2.1)
  obtain ⟨S, q, ce, st, Z, hce, hcl', hv⟩ := vx_npeAt Y hexec htr (n := nb) (vx_own hat' (vx_isRefq hU'.1) (vx_isRefq hN'.1) hU'.2.word hN'.2.word) (fun x hx => nomatch hx)
    (g := F0 m pc ls rest) rfl hsize hRframes (by show 2 * 0 + (rest.map fun v => v.category).sum + 10240 ≤ R.locals; omega) (by show 0 + 1 ≤ 1; omega) (by show 0 + nb ≤ nb; omega) hlocks
  obtain ⟨f1, f2⟩ := vx_frame Z.same
  have f1' : H.size ≤ S.heap.size := by rw [← hT]; exact f1
  have f2' : ∀ q : Nat, q < H.size → S.heap[q]? = H[q]? := fun q hq => by
    rw [← hT]
    exact f2 q (by rw [← hT] at hq; exact hq) (fun z hz => nomatch hz)
  have X5 := vx_back9 X Y Z
  have X6 : Stand p l e R s m args below meth c S locs (cells + 1) (slots + nb) := { X5 with same := X5.same.mono (by omega) (by omega) }
  obtain ⟨t, a1, b1⟩ := k S.heap q ce f1' f2' ⟨Nat.le_trans hS.1 f1', fun q h1 h2 => (f2' q (Nat.lt_of_lt_of_le h1 hS.1)).trans (hS.2.1 q h1 h2), hS.2.2⟩ hce hv hcl' S rfl X6
  exact ⟨t, st t a1, b1⟩
variable {Q : State → Prop} {cc : ByteArray} {pc : Nat} {ls : Array Slot} {rest : List Value}
theorem vx_idivZ (hexec : p.tables.exec = Jvm.exec) (hb : c.code = cc) {a b : Int32} (h0 : b = 0) (d : decode cc pc = .ok (.idiv, 1)) (k : vx_Note p l e R s m args below meth c H locs cells slots Q (F0 m pc ls rest) "java/lang/ArithmeticException" "/ by zero") :
    W p l e R s m args below meth c H locs cells slots Q (F0 m pc ls (.int b :: .int a :: rest)) := by
  intro T hT X
  obtain ⟨t, st, q⟩ := k T hT X
  exact ⟨t, X.idivZero hexec (g := F0 m pc ls (.int b :: .int a :: rest)) rfl (a := a) (rest := rest) (by rw [h0]) (by rw [hb]; exact d) t st, q⟩
theorem vx_iremZ (hexec : p.tables.exec = Jvm.exec) (hb : c.code = cc) {a b : Int32} (h0 : b = 0) (d : decode cc pc = .ok (.irem, 1)) (k : vx_Note p l e R s m args below meth c H locs cells slots Q (F0 m pc ls rest) "java/lang/ArithmeticException" "/ by zero") :
    W p l e R s m args below meth c H locs cells slots Q (F0 m pc ls (.int b :: .int a :: rest)) := by
  intro T hT X
  obtain ⟨t, st, q⟩ := k T hT X
  exact ⟨t, X.iremZero hexec (g := F0 m pc ls (.int b :: .int a :: rest)) rfl (a := a) (rest := rest) (by rw [h0]) (by rw [hb]; exact d) t st, q⟩
theorem vx_ldivZ (hexec : p.tables.exec = Jvm.exec) (hb : c.code = cc) {a b : Int64} (h0 : b = 0) (d : decode cc pc = .ok (.ldiv, 1)) (k : vx_Note p l e R s m args below meth c H locs cells slots Q (F0 m pc ls rest) "java/lang/ArithmeticException" "/ by zero") :
    W p l e R s m args below meth c H locs cells slots Q (F0 m pc ls (.long b :: .long a :: rest)) := by
  intro T hT X
  obtain ⟨t, st, q⟩ := k T hT X
  exact ⟨t, X.ldivZero hexec (g := F0 m pc ls (.long b :: .long a :: rest)) rfl (a := a) (rest := rest) (by rw [h0]) (by rw [hb]; exact d) t st, q⟩
theorem vx_lremZ (hexec : p.tables.exec = Jvm.exec) (hb : c.code = cc) {a b : Int64} (h0 : b = 0) (d : decode cc pc = .ok (.lrem, 1)) (k : vx_Note p l e R s m args below meth c H locs cells slots Q (F0 m pc ls rest) "java/lang/ArithmeticException" "/ by zero") :
    W p l e R s m args below meth c H locs cells slots Q (F0 m pc ls (.long b :: .long a :: rest)) := by
  intro T hT X
  obtain ⟨t, st, q⟩ := k T hT X
  exact ⟨t, X.lremZero hexec (g := F0 m pc ls (.long b :: .long a :: rest)) rfl (a := a) (rest := rest) (by rw [h0]) (by rw [hb]; exact d) t st, q⟩
theorem vx_ialdZ {D : va_G} {cl : List vw_C} {ws : va_W} {tys : List (ClassId × FieldType)} {a : Nat} (hexec : p.tables.exec = Jvm.exec) (hb : c.code = cc) (hK : va_K D cl tys s) (hP : va_P D cl ws H) (q0 t0 : Nat) {cA : ClassId} {n : Nat} {f : Nat → Int32} (ha : ws[q0]? = some (a, .inl (cA, n, .inl f))) (ht : tys[t0]? = some (cA, .int)) {i : Int32} (hout : ¬ vp_in i n) (hdg : decode cc pc = .ok (.iaload, 1))
    (k : ∀ tx : String, tx = (toString "Index " ++ toString i ++ toString " out of bounds for length " ++ toString n : String) → vx_Note p l e R s m args below meth c H locs cells slots Q (F0 m pc ls rest) "java/lang/ArrayIndexOutOfBoundsException" tx) : W p l e R s m args below meth c H locs cells slots Q (F0 m pc ls (.int i :: .ref a :: rest)) := by
  intro T hT X
  obtain ⟨t, st, q⟩ := k _ rfl T hT X
  refine ⟨t, ?_, q⟩
  have h1 := X.ialoadOut hexec (by rw [hT]; exact hP q0 _ ha) ((hK.2 t0 _ ht).1 n (fun j => .int (f j))) (j := i) (by show (i < 0 ∨ (arrV _ _ _).slots.size ≤ _); rw [arrV_size]; exact Classical.byContradiction hout) (g := F0 m pc ls (.int i :: .ref a :: rest)) rfl (rest := rest) rfl (by rw [hb]; exact hdg) t
  simp only [arrV_size] at h1
  exact h1 st
theorem vx_iastZ {D : va_G} {cl : List vw_C} {ws : va_W} {tys : List (ClassId × FieldType)} {a : Nat} (hexec : p.tables.exec = Jvm.exec) (hb : c.code = cc) (hK : va_K D cl tys s) (hP : va_P D cl ws H) (q0 t0 : Nat) {cA : ClassId} {n : Nat} {f : Nat → Int32} (ha : ws[q0]? = some (a, .inl (cA, n, .inl f))) (ht : tys[t0]? = some (cA, .int)) {i : Int32} {x : Int32} (hout : ¬ vp_in i n) (hdg : decode cc pc = .ok (.iastore, 1))
    (k : ∀ tx : String, tx = (toString "Index " ++ toString i ++ toString " out of bounds for length " ++ toString n : String) → vx_Note p l e R s m args below meth c H locs cells slots Q (F0 m pc ls rest) "java/lang/ArrayIndexOutOfBoundsException" tx) : W p l e R s m args below meth c H locs cells slots Q (F0 m pc ls (.int x :: .int i :: .ref a :: rest)) := by
  intro T hT X
  obtain ⟨t, st, q⟩ := k _ rfl T hT X
  refine ⟨t, ?_, q⟩
  have h1 := X.iastoreOut hexec (by rw [hT]; exact hP q0 _ ha) ((hK.2 t0 _ ht).1 n (fun j => .int (f j))) (j := i) (by show (i < 0 ∨ (arrV _ _ _).slots.size ≤ _); rw [arrV_size]; exact Classical.byContradiction hout) (g := F0 m pc ls (.int x :: .int i :: .ref a :: rest)) rfl (rest := rest) rfl (by rw [hb]; exact hdg) t
  simp only [arrV_size] at h1
  exact h1 st
theorem vx_baldZ {D : va_G} {cl : List vw_C} {ws : va_W} {tys : List (ClassId × FieldType)} {a : Nat} (hexec : p.tables.exec = Jvm.exec) (hb : c.code = cc) (hK : va_K D cl tys s) (hP : va_P D cl ws H) (q0 t0 : Nat) {cA : ClassId} {n : Nat} {f : Nat → Int32} (ha : ws[q0]? = some (a, .inl (cA, n, .inl f))) (ht : tys[t0]? = some (cA, .byte)) {i : Int32} (hout : ¬ vp_in i n) (hdg : decode cc pc = .ok (.baload, 1))
    (k : ∀ tx : String, tx = (toString "Index " ++ toString i ++ toString " out of bounds for length " ++ toString n : String) → vx_Note p l e R s m args below meth c H locs cells slots Q (F0 m pc ls rest) "java/lang/ArrayIndexOutOfBoundsException" tx) : W p l e R s m args below meth c H locs cells slots Q (F0 m pc ls (.int i :: .ref a :: rest)) := by
  intro T hT X
  obtain ⟨t, st, q⟩ := k _ rfl T hT X
  refine ⟨t, ?_, q⟩
  have h1 := X.baloadOut hexec (by rw [hT]; exact hP q0 _ ha) ((hK.2 t0 _ ht).1 n (fun j => .int (f j))) (j := i) (by show (i < 0 ∨ (arrV _ _ _).slots.size ≤ _); rw [arrV_size]; exact Classical.byContradiction hout) (g := F0 m pc ls (.int i :: .ref a :: rest)) rfl (rest := rest) rfl (by rw [hb]; exact hdg) t
  simp only [arrV_size] at h1
  exact h1 st
theorem vx_bastZ {D : va_G} {cl : List vw_C} {ws : va_W} {tys : List (ClassId × FieldType)} {a : Nat} (hexec : p.tables.exec = Jvm.exec) (hb : c.code = cc) (hK : va_K D cl tys s) (hP : va_P D cl ws H) (q0 t0 : Nat) {cA : ClassId} {n : Nat} {f : Nat → Int32} (ha : ws[q0]? = some (a, .inl (cA, n, .inl f))) (ht : tys[t0]? = some (cA, .byte)) {i : Int32} {x : Int32} (hout : ¬ vp_in i n) (hdg : decode cc pc = .ok (.bastore, 1))
    (k : ∀ tx : String, tx = (toString "Index " ++ toString i ++ toString " out of bounds for length " ++ toString n : String) → vx_Note p l e R s m args below meth c H locs cells slots Q (F0 m pc ls rest) "java/lang/ArrayIndexOutOfBoundsException" tx) : W p l e R s m args below meth c H locs cells slots Q (F0 m pc ls (.int x :: .int i :: .ref a :: rest)) := by
  intro T hT X
  obtain ⟨t, st, q⟩ := k _ rfl T hT X
  refine ⟨t, ?_, q⟩
  have h1 := X.bastoreOut hexec (by rw [hT]; exact hP q0 _ ha) ((hK.2 t0 _ ht).1 n (fun j => .int (f j))) (j := i) (by show (i < 0 ∨ (arrV _ _ _).slots.size ≤ _); rw [arrV_size]; exact Classical.byContradiction hout) (g := F0 m pc ls (.int x :: .int i :: .ref a :: rest)) rfl (rest := rest) rfl (by rw [hb]; exact hdg) t
  simp only [arrV_size] at h1
  exact h1 st
theorem vx_zaldZ {D : va_G} {cl : List vw_C} {ws : va_W} {tys : List (ClassId × FieldType)} {a : Nat} (hexec : p.tables.exec = Jvm.exec) (hb : c.code = cc) (hK : va_K D cl tys s) (hP : va_P D cl ws H) (q0 t0 : Nat) {cA : ClassId} {n : Nat} {f : Nat → Int32} (ha : ws[q0]? = some (a, .inl (cA, n, .inl f))) (ht : tys[t0]? = some (cA, .boolean)) {i : Int32} (hout : ¬ vp_in i n) (hdg : decode cc pc = .ok (.baload, 1))
    (k : ∀ tx : String, tx = (toString "Index " ++ toString i ++ toString " out of bounds for length " ++ toString n : String) → vx_Note p l e R s m args below meth c H locs cells slots Q (F0 m pc ls rest) "java/lang/ArrayIndexOutOfBoundsException" tx) : W p l e R s m args below meth c H locs cells slots Q (F0 m pc ls (.int i :: .ref a :: rest)) := by
  intro T hT X
  obtain ⟨t, st, q⟩ := k _ rfl T hT X
  refine ⟨t, ?_, q⟩
  have h1 := X.baloadOut hexec (by rw [hT]; exact hP q0 _ ha) ((hK.2 t0 _ ht).1 n (fun j => .int (f j))) (j := i) (by show (i < 0 ∨ (arrV _ _ _).slots.size ≤ _); rw [arrV_size]; exact Classical.byContradiction hout) (g := F0 m pc ls (.int i :: .ref a :: rest)) rfl (rest := rest) rfl (by rw [hb]; exact hdg) t
  simp only [arrV_size] at h1
  exact h1 st
theorem vx_zastZ {D : va_G} {cl : List vw_C} {ws : va_W} {tys : List (ClassId × FieldType)} {a : Nat} (hexec : p.tables.exec = Jvm.exec) (hb : c.code = cc) (hK : va_K D cl tys s) (hP : va_P D cl ws H) (q0 t0 : Nat) {cA : ClassId} {n : Nat} {f : Nat → Int32} (ha : ws[q0]? = some (a, .inl (cA, n, .inl f))) (ht : tys[t0]? = some (cA, .boolean)) {i : Int32} {x : Int32} (hout : ¬ vp_in i n) (hdg : decode cc pc = .ok (.bastore, 1))
    (k : ∀ tx : String, tx = (toString "Index " ++ toString i ++ toString " out of bounds for length " ++ toString n : String) → vx_Note p l e R s m args below meth c H locs cells slots Q (F0 m pc ls rest) "java/lang/ArrayIndexOutOfBoundsException" tx) : W p l e R s m args below meth c H locs cells slots Q (F0 m pc ls (.int x :: .int i :: .ref a :: rest)) := by
  intro T hT X
  obtain ⟨t, st, q⟩ := k _ rfl T hT X
  refine ⟨t, ?_, q⟩
  have h1 := X.bastoreOut hexec (by rw [hT]; exact hP q0 _ ha) ((hK.2 t0 _ ht).1 n (fun j => .int (f j))) (j := i) (by show (i < 0 ∨ (arrV _ _ _).slots.size ≤ _); rw [arrV_size]; exact Classical.byContradiction hout) (g := F0 m pc ls (.int x :: .int i :: .ref a :: rest)) rfl (rest := rest) rfl (by rw [hb]; exact hdg) t
  simp only [arrV_size] at h1
  exact h1 st
theorem vx_caldZ {D : va_G} {cl : List vw_C} {ws : va_W} {tys : List (ClassId × FieldType)} {a : Nat} (hexec : p.tables.exec = Jvm.exec) (hb : c.code = cc) (hK : va_K D cl tys s) (hP : va_P D cl ws H) (q0 t0 : Nat) {cA : ClassId} {n : Nat} {f : Nat → Int32} (ha : ws[q0]? = some (a, .inl (cA, n, .inl f))) (ht : tys[t0]? = some (cA, .char)) {i : Int32} (hout : ¬ vp_in i n) (hdg : decode cc pc = .ok (.caload, 1))
    (k : ∀ tx : String, tx = (toString "Index " ++ toString i ++ toString " out of bounds for length " ++ toString n : String) → vx_Note p l e R s m args below meth c H locs cells slots Q (F0 m pc ls rest) "java/lang/ArrayIndexOutOfBoundsException" tx) : W p l e R s m args below meth c H locs cells slots Q (F0 m pc ls (.int i :: .ref a :: rest)) := by
  intro T hT X
  obtain ⟨t, st, q⟩ := k _ rfl T hT X
  refine ⟨t, ?_, q⟩
  have h1 := X.caloadOut hexec (by rw [hT]; exact hP q0 _ ha) ((hK.2 t0 _ ht).1 n (fun j => .int (f j))) (j := i) (by show (i < 0 ∨ (arrV _ _ _).slots.size ≤ _); rw [arrV_size]; exact Classical.byContradiction hout) (g := F0 m pc ls (.int i :: .ref a :: rest)) rfl (rest := rest) rfl (by rw [hb]; exact hdg) t
  simp only [arrV_size] at h1
  exact h1 st
theorem vx_castZ {D : va_G} {cl : List vw_C} {ws : va_W} {tys : List (ClassId × FieldType)} {a : Nat} (hexec : p.tables.exec = Jvm.exec) (hb : c.code = cc) (hK : va_K D cl tys s) (hP : va_P D cl ws H) (q0 t0 : Nat) {cA : ClassId} {n : Nat} {f : Nat → Int32} (ha : ws[q0]? = some (a, .inl (cA, n, .inl f))) (ht : tys[t0]? = some (cA, .char)) {i : Int32} {x : Int32} (hout : ¬ vp_in i n) (hdg : decode cc pc = .ok (.castore, 1))
    (k : ∀ tx : String, tx = (toString "Index " ++ toString i ++ toString " out of bounds for length " ++ toString n : String) → vx_Note p l e R s m args below meth c H locs cells slots Q (F0 m pc ls rest) "java/lang/ArrayIndexOutOfBoundsException" tx) : W p l e R s m args below meth c H locs cells slots Q (F0 m pc ls (.int x :: .int i :: .ref a :: rest)) := by
  intro T hT X
  obtain ⟨t, st, q⟩ := k _ rfl T hT X
  refine ⟨t, ?_, q⟩
  have h1 := X.castoreOut hexec (by rw [hT]; exact hP q0 _ ha) ((hK.2 t0 _ ht).1 n (fun j => .int (f j))) (j := i) (by show (i < 0 ∨ (arrV _ _ _).slots.size ≤ _); rw [arrV_size]; exact Classical.byContradiction hout) (g := F0 m pc ls (.int x :: .int i :: .ref a :: rest)) rfl (rest := rest) rfl (by rw [hb]; exact hdg) t
  simp only [arrV_size] at h1
  exact h1 st
theorem vx_saldZ {D : va_G} {cl : List vw_C} {ws : va_W} {tys : List (ClassId × FieldType)} {a : Nat} (hexec : p.tables.exec = Jvm.exec) (hb : c.code = cc) (hK : va_K D cl tys s) (hP : va_P D cl ws H) (q0 t0 : Nat) {cA : ClassId} {n : Nat} {f : Nat → Int32} (ha : ws[q0]? = some (a, .inl (cA, n, .inl f))) (ht : tys[t0]? = some (cA, .short)) {i : Int32} (hout : ¬ vp_in i n) (hdg : decode cc pc = .ok (.saload, 1))
    (k : ∀ tx : String, tx = (toString "Index " ++ toString i ++ toString " out of bounds for length " ++ toString n : String) → vx_Note p l e R s m args below meth c H locs cells slots Q (F0 m pc ls rest) "java/lang/ArrayIndexOutOfBoundsException" tx) : W p l e R s m args below meth c H locs cells slots Q (F0 m pc ls (.int i :: .ref a :: rest)) := by
  intro T hT X
  obtain ⟨t, st, q⟩ := k _ rfl T hT X
  refine ⟨t, ?_, q⟩
  have h1 := X.saloadOut hexec (by rw [hT]; exact hP q0 _ ha) ((hK.2 t0 _ ht).1 n (fun j => .int (f j))) (j := i) (by show (i < 0 ∨ (arrV _ _ _).slots.size ≤ _); rw [arrV_size]; exact Classical.byContradiction hout) (g := F0 m pc ls (.int i :: .ref a :: rest)) rfl (rest := rest) rfl (by rw [hb]; exact hdg) t
  simp only [arrV_size] at h1
  exact h1 st
theorem vx_sastZ {D : va_G} {cl : List vw_C} {ws : va_W} {tys : List (ClassId × FieldType)} {a : Nat} (hexec : p.tables.exec = Jvm.exec) (hb : c.code = cc) (hK : va_K D cl tys s) (hP : va_P D cl ws H) (q0 t0 : Nat) {cA : ClassId} {n : Nat} {f : Nat → Int32} (ha : ws[q0]? = some (a, .inl (cA, n, .inl f))) (ht : tys[t0]? = some (cA, .short)) {i : Int32} {x : Int32} (hout : ¬ vp_in i n) (hdg : decode cc pc = .ok (.sastore, 1))
    (k : ∀ tx : String, tx = (toString "Index " ++ toString i ++ toString " out of bounds for length " ++ toString n : String) → vx_Note p l e R s m args below meth c H locs cells slots Q (F0 m pc ls rest) "java/lang/ArrayIndexOutOfBoundsException" tx) : W p l e R s m args below meth c H locs cells slots Q (F0 m pc ls (.int x :: .int i :: .ref a :: rest)) := by
  intro T hT X
  obtain ⟨t, st, q⟩ := k _ rfl T hT X
  refine ⟨t, ?_, q⟩
  have h1 := X.sastoreOut hexec (by rw [hT]; exact hP q0 _ ha) ((hK.2 t0 _ ht).1 n (fun j => .int (f j))) (j := i) (by show (i < 0 ∨ (arrV _ _ _).slots.size ≤ _); rw [arrV_size]; exact Classical.byContradiction hout) (g := F0 m pc ls (.int x :: .int i :: .ref a :: rest)) rfl (rest := rest) rfl (by rw [hb]; exact hdg) t
  simp only [arrV_size] at h1
  exact h1 st
theorem vx_laldZ {D : va_G} {cl : List vw_C} {ws : va_W} {tys : List (ClassId × FieldType)} {a : Nat} (hexec : p.tables.exec = Jvm.exec) (hb : c.code = cc) (hK : va_K D cl tys s) (hP : va_P D cl ws H) (q0 t0 : Nat) {cA : ClassId} {n : Nat} {f : Nat → Int64} (ha : ws[q0]? = some (a, .inl (cA, n, .inr (.inl f)))) (ht : tys[t0]? = some (cA, .long)) {i : Int32} (hout : ¬ vp_in i n) (hdg : decode cc pc = .ok (.laload, 1))
    (k : ∀ tx : String, tx = (toString "Index " ++ toString i ++ toString " out of bounds for length " ++ toString n : String) → vx_Note p l e R s m args below meth c H locs cells slots Q (F0 m pc ls rest) "java/lang/ArrayIndexOutOfBoundsException" tx) : W p l e R s m args below meth c H locs cells slots Q (F0 m pc ls (.int i :: .ref a :: rest)) := by
  intro T hT X
  obtain ⟨t, st, q⟩ := k _ rfl T hT X
  refine ⟨t, ?_, q⟩
  have h1 := X.laloadOut hexec (by rw [hT]; exact hP q0 _ ha) ((hK.2 t0 _ ht).1 n (fun j => .long (f j))) (j := i) (by show (i < 0 ∨ (arrV _ _ _).slots.size ≤ _); rw [arrV_size]; exact Classical.byContradiction hout) (g := F0 m pc ls (.int i :: .ref a :: rest)) rfl (rest := rest) rfl (by rw [hb]; exact hdg) t
  simp only [arrV_size] at h1
  exact h1 st
theorem vx_lastZ {D : va_G} {cl : List vw_C} {ws : va_W} {tys : List (ClassId × FieldType)} {a : Nat} (hexec : p.tables.exec = Jvm.exec) (hb : c.code = cc) (hK : va_K D cl tys s) (hP : va_P D cl ws H) (q0 t0 : Nat) {cA : ClassId} {n : Nat} {f : Nat → Int64} (ha : ws[q0]? = some (a, .inl (cA, n, .inr (.inl f)))) (ht : tys[t0]? = some (cA, .long)) {i : Int32} {x : Int64} (hout : ¬ vp_in i n) (hdg : decode cc pc = .ok (.lastore, 1))
    (k : ∀ tx : String, tx = (toString "Index " ++ toString i ++ toString " out of bounds for length " ++ toString n : String) → vx_Note p l e R s m args below meth c H locs cells slots Q (F0 m pc ls rest) "java/lang/ArrayIndexOutOfBoundsException" tx) : W p l e R s m args below meth c H locs cells slots Q (F0 m pc ls (.long x :: .int i :: .ref a :: rest)) := by
  intro T hT X
  obtain ⟨t, st, q⟩ := k _ rfl T hT X
  refine ⟨t, ?_, q⟩
  have h1 := X.lastoreOut hexec (by rw [hT]; exact hP q0 _ ha) ((hK.2 t0 _ ht).1 n (fun j => .long (f j))) (j := i) (by show (i < 0 ∨ (arrV _ _ _).slots.size ≤ _); rw [arrV_size]; exact Classical.byContradiction hout) (g := F0 m pc ls (.long x :: .int i :: .ref a :: rest)) rfl (rest := rest) rfl (by rw [hb]; exact hdg) t
  simp only [arrV_size] at h1
  exact h1 st
theorem vx_faldZ {D : va_G} {cl : List vw_C} {ws : va_W} {tys : List (ClassId × FieldType)} {a : Nat} (hexec : p.tables.exec = Jvm.exec) (hb : c.code = cc) (hK : va_K D cl tys s) (hP : va_P D cl ws H) (q0 t0 : Nat) {cA : ClassId} {n : Nat} {f : Nat → UInt32} (ha : ws[q0]? = some (a, .inl (cA, n, .inr (.inr (.inl f))))) (ht : tys[t0]? = some (cA, .float)) {i : Int32} (hout : ¬ vp_in i n) (hdg : decode cc pc = .ok (.faload, 1))
    (k : ∀ tx : String, tx = (toString "Index " ++ toString i ++ toString " out of bounds for length " ++ toString n : String) → vx_Note p l e R s m args below meth c H locs cells slots Q (F0 m pc ls rest) "java/lang/ArrayIndexOutOfBoundsException" tx) : W p l e R s m args below meth c H locs cells slots Q (F0 m pc ls (.int i :: .ref a :: rest)) := by
  intro T hT X
  obtain ⟨t, st, q⟩ := k _ rfl T hT X
  refine ⟨t, ?_, q⟩
  have h1 := X.faloadOut hexec (by rw [hT]; exact hP q0 _ ha) ((hK.2 t0 _ ht).1 n (fun j => .float (f j))) (j := i) (by show (i < 0 ∨ (arrV _ _ _).slots.size ≤ _); rw [arrV_size]; exact Classical.byContradiction hout) (g := F0 m pc ls (.int i :: .ref a :: rest)) rfl (rest := rest) rfl (by rw [hb]; exact hdg) t
  simp only [arrV_size] at h1
  exact h1 st
theorem vx_fastZ {D : va_G} {cl : List vw_C} {ws : va_W} {tys : List (ClassId × FieldType)} {a : Nat} (hexec : p.tables.exec = Jvm.exec) (hb : c.code = cc) (hK : va_K D cl tys s) (hP : va_P D cl ws H) (q0 t0 : Nat) {cA : ClassId} {n : Nat} {f : Nat → UInt32} (ha : ws[q0]? = some (a, .inl (cA, n, .inr (.inr (.inl f))))) (ht : tys[t0]? = some (cA, .float)) {i : Int32} {x : UInt32} (hout : ¬ vp_in i n) (hdg : decode cc pc = .ok (.fastore, 1))
    (k : ∀ tx : String, tx = (toString "Index " ++ toString i ++ toString " out of bounds for length " ++ toString n : String) → vx_Note p l e R s m args below meth c H locs cells slots Q (F0 m pc ls rest) "java/lang/ArrayIndexOutOfBoundsException" tx) : W p l e R s m args below meth c H locs cells slots Q (F0 m pc ls (.float x :: .int i :: .ref a :: rest)) := by
  intro T hT X
  obtain ⟨t, st, q⟩ := k _ rfl T hT X
  refine ⟨t, ?_, q⟩
  have h1 := X.fastoreOut hexec (by rw [hT]; exact hP q0 _ ha) ((hK.2 t0 _ ht).1 n (fun j => .float (f j))) (j := i) (by show (i < 0 ∨ (arrV _ _ _).slots.size ≤ _); rw [arrV_size]; exact Classical.byContradiction hout) (g := F0 m pc ls (.float x :: .int i :: .ref a :: rest)) rfl (rest := rest) rfl (by rw [hb]; exact hdg) t
  simp only [arrV_size] at h1
  exact h1 st
theorem vx_daldZ {D : va_G} {cl : List vw_C} {ws : va_W} {tys : List (ClassId × FieldType)} {a : Nat} (hexec : p.tables.exec = Jvm.exec) (hb : c.code = cc) (hK : va_K D cl tys s) (hP : va_P D cl ws H) (q0 t0 : Nat) {cA : ClassId} {n : Nat} {f : Nat → UInt64} (ha : ws[q0]? = some (a, .inl (cA, n, .inr (.inr (.inr (.inl f)))))) (ht : tys[t0]? = some (cA, .double)) {i : Int32} (hout : ¬ vp_in i n) (hdg : decode cc pc = .ok (.daload, 1))
    (k : ∀ tx : String, tx = (toString "Index " ++ toString i ++ toString " out of bounds for length " ++ toString n : String) → vx_Note p l e R s m args below meth c H locs cells slots Q (F0 m pc ls rest) "java/lang/ArrayIndexOutOfBoundsException" tx) : W p l e R s m args below meth c H locs cells slots Q (F0 m pc ls (.int i :: .ref a :: rest)) := by
  intro T hT X
  obtain ⟨t, st, q⟩ := k _ rfl T hT X
  refine ⟨t, ?_, q⟩
  have h1 := X.daloadOut hexec (by rw [hT]; exact hP q0 _ ha) ((hK.2 t0 _ ht).1 n (fun j => .double (f j))) (j := i) (by show (i < 0 ∨ (arrV _ _ _).slots.size ≤ _); rw [arrV_size]; exact Classical.byContradiction hout) (g := F0 m pc ls (.int i :: .ref a :: rest)) rfl (rest := rest) rfl (by rw [hb]; exact hdg) t
  simp only [arrV_size] at h1
  exact h1 st
theorem vx_dastZ {D : va_G} {cl : List vw_C} {ws : va_W} {tys : List (ClassId × FieldType)} {a : Nat} (hexec : p.tables.exec = Jvm.exec) (hb : c.code = cc) (hK : va_K D cl tys s) (hP : va_P D cl ws H) (q0 t0 : Nat) {cA : ClassId} {n : Nat} {f : Nat → UInt64} (ha : ws[q0]? = some (a, .inl (cA, n, .inr (.inr (.inr (.inl f)))))) (ht : tys[t0]? = some (cA, .double)) {i : Int32} {x : UInt64} (hout : ¬ vp_in i n) (hdg : decode cc pc = .ok (.dastore, 1))
    (k : ∀ tx : String, tx = (toString "Index " ++ toString i ++ toString " out of bounds for length " ++ toString n : String) → vx_Note p l e R s m args below meth c H locs cells slots Q (F0 m pc ls rest) "java/lang/ArrayIndexOutOfBoundsException" tx) : W p l e R s m args below meth c H locs cells slots Q (F0 m pc ls (.double x :: .int i :: .ref a :: rest)) := by
  intro T hT X
  obtain ⟨t, st, q⟩ := k _ rfl T hT X
  refine ⟨t, ?_, q⟩
  have h1 := X.dastoreOut hexec (by rw [hT]; exact hP q0 _ ha) ((hK.2 t0 _ ht).1 n (fun j => .double (f j))) (j := i) (by show (i < 0 ∨ (arrV _ _ _).slots.size ≤ _); rw [arrV_size]; exact Classical.byContradiction hout) (g := F0 m pc ls (.double x :: .int i :: .ref a :: rest)) rfl (rest := rest) rfl (by rw [hb]; exact hdg) t
  simp only [arrV_size] at h1
  exact h1 st
theorem vx_arraylengthN (hexec : p.tables.exec = Jvm.exec) (hb : c.code = cc) (hdg : decode cc pc = .ok (.arraylength, 1)) (k : vx_NoteN p l e R s m args below meth c H locs cells slots Q (F0 m pc ls rest)) : W p l e R s m args below meth c H locs cells slots Q (F0 m pc ls (.null :: rest)) := by
  intro T hT X
  obtain ⟨t, st, q⟩ := k T hT X
  exact ⟨t, X.arraylengthNull hexec (g := F0 m pc ls (.null :: rest)) rfl (rest := rest) rfl (by rw [hb]; exact hdg) t st, q⟩
theorem vx_ialoadN (hexec : p.tables.exec = Jvm.exec) (hb : c.code = cc) {i : Int32} (hdg : decode cc pc = .ok (.iaload, 1)) (k : vx_NoteN p l e R s m args below meth c H locs cells slots Q (F0 m pc ls rest)) : W p l e R s m args below meth c H locs cells slots Q (F0 m pc ls (.int i :: .null :: rest)) := by
  intro T hT X
  obtain ⟨t, st, q⟩ := k T hT X
  exact ⟨t, X.ialoadNull hexec (g := F0 m pc ls (.int i :: .null :: rest)) rfl (rest := rest) rfl (by rw [hb]; exact hdg) t st, q⟩
theorem vx_laloadN (hexec : p.tables.exec = Jvm.exec) (hb : c.code = cc) {i : Int32} (hdg : decode cc pc = .ok (.laload, 1)) (k : vx_NoteN p l e R s m args below meth c H locs cells slots Q (F0 m pc ls rest)) : W p l e R s m args below meth c H locs cells slots Q (F0 m pc ls (.int i :: .null :: rest)) := by
  intro T hT X
  obtain ⟨t, st, q⟩ := k T hT X
  exact ⟨t, X.laloadNull hexec (g := F0 m pc ls (.int i :: .null :: rest)) rfl (rest := rest) rfl (by rw [hb]; exact hdg) t st, q⟩
theorem vx_faloadN (hexec : p.tables.exec = Jvm.exec) (hb : c.code = cc) {i : Int32} (hdg : decode cc pc = .ok (.faload, 1)) (k : vx_NoteN p l e R s m args below meth c H locs cells slots Q (F0 m pc ls rest)) : W p l e R s m args below meth c H locs cells slots Q (F0 m pc ls (.int i :: .null :: rest)) := by
  intro T hT X
  obtain ⟨t, st, q⟩ := k T hT X
  exact ⟨t, X.faloadNull hexec (g := F0 m pc ls (.int i :: .null :: rest)) rfl (rest := rest) rfl (by rw [hb]; exact hdg) t st, q⟩
theorem vx_daloadN (hexec : p.tables.exec = Jvm.exec) (hb : c.code = cc) {i : Int32} (hdg : decode cc pc = .ok (.daload, 1)) (k : vx_NoteN p l e R s m args below meth c H locs cells slots Q (F0 m pc ls rest)) : W p l e R s m args below meth c H locs cells slots Q (F0 m pc ls (.int i :: .null :: rest)) := by
  intro T hT X
  obtain ⟨t, st, q⟩ := k T hT X
  exact ⟨t, X.daloadNull hexec (g := F0 m pc ls (.int i :: .null :: rest)) rfl (rest := rest) rfl (by rw [hb]; exact hdg) t st, q⟩
theorem vx_aaloadN (hexec : p.tables.exec = Jvm.exec) (hb : c.code = cc) {i : Int32} (hdg : decode cc pc = .ok (.aaload, 1)) (k : vx_NoteN p l e R s m args below meth c H locs cells slots Q (F0 m pc ls rest)) : W p l e R s m args below meth c H locs cells slots Q (F0 m pc ls (.int i :: .null :: rest)) := by
  intro T hT X
  obtain ⟨t, st, q⟩ := k T hT X
  exact ⟨t, X.aaloadNull hexec (g := F0 m pc ls (.int i :: .null :: rest)) rfl (rest := rest) rfl (by rw [hb]; exact hdg) t st, q⟩
theorem vx_baloadN (hexec : p.tables.exec = Jvm.exec) (hb : c.code = cc) {i : Int32} (hdg : decode cc pc = .ok (.baload, 1)) (k : vx_NoteN p l e R s m args below meth c H locs cells slots Q (F0 m pc ls rest)) : W p l e R s m args below meth c H locs cells slots Q (F0 m pc ls (.int i :: .null :: rest)) := by
  intro T hT X
  obtain ⟨t, st, q⟩ := k T hT X
  exact ⟨t, X.baloadNull hexec (g := F0 m pc ls (.int i :: .null :: rest)) rfl (rest := rest) rfl (by rw [hb]; exact hdg) t st, q⟩
theorem vx_caloadN (hexec : p.tables.exec = Jvm.exec) (hb : c.code = cc) {i : Int32} (hdg : decode cc pc = .ok (.caload, 1)) (k : vx_NoteN p l e R s m args below meth c H locs cells slots Q (F0 m pc ls rest)) : W p l e R s m args below meth c H locs cells slots Q (F0 m pc ls (.int i :: .null :: rest)) := by
  intro T hT X
  obtain ⟨t, st, q⟩ := k T hT X
  exact ⟨t, X.caloadNull hexec (g := F0 m pc ls (.int i :: .null :: rest)) rfl (rest := rest) rfl (by rw [hb]; exact hdg) t st, q⟩
theorem vx_saloadN (hexec : p.tables.exec = Jvm.exec) (hb : c.code = cc) {i : Int32} (hdg : decode cc pc = .ok (.saload, 1)) (k : vx_NoteN p l e R s m args below meth c H locs cells slots Q (F0 m pc ls rest)) : W p l e R s m args below meth c H locs cells slots Q (F0 m pc ls (.int i :: .null :: rest)) := by
  intro T hT X
  obtain ⟨t, st, q⟩ := k T hT X
  exact ⟨t, X.saloadNull hexec (g := F0 m pc ls (.int i :: .null :: rest)) rfl (rest := rest) rfl (by rw [hb]; exact hdg) t st, q⟩
theorem vx_iastoreN (hexec : p.tables.exec = Jvm.exec) (hb : c.code = cc) {x : Int32} {i : Int32} (hdg : decode cc pc = .ok (.iastore, 1)) (k : vx_NoteN p l e R s m args below meth c H locs cells slots Q (F0 m pc ls rest)) : W p l e R s m args below meth c H locs cells slots Q (F0 m pc ls (.int x :: .int i :: .null :: rest)) := by
  intro T hT X
  obtain ⟨t, st, q⟩ := k T hT X
  exact ⟨t, X.iastoreNull hexec (g := F0 m pc ls (.int x :: .int i :: .null :: rest)) rfl (rest := rest) rfl (by rw [hb]; exact hdg) t st, q⟩
theorem vx_lastoreN (hexec : p.tables.exec = Jvm.exec) (hb : c.code = cc) {x : Int64} {i : Int32} (hdg : decode cc pc = .ok (.lastore, 1)) (k : vx_NoteN p l e R s m args below meth c H locs cells slots Q (F0 m pc ls rest)) : W p l e R s m args below meth c H locs cells slots Q (F0 m pc ls (.long x :: .int i :: .null :: rest)) := by
  intro T hT X
  obtain ⟨t, st, q⟩ := k T hT X
  exact ⟨t, X.lastoreNull hexec (g := F0 m pc ls (.long x :: .int i :: .null :: rest)) rfl (rest := rest) rfl (by rw [hb]; exact hdg) t st, q⟩
theorem vx_fastoreN (hexec : p.tables.exec = Jvm.exec) (hb : c.code = cc) {x : UInt32} {i : Int32} (hdg : decode cc pc = .ok (.fastore, 1)) (k : vx_NoteN p l e R s m args below meth c H locs cells slots Q (F0 m pc ls rest)) : W p l e R s m args below meth c H locs cells slots Q (F0 m pc ls (.float x :: .int i :: .null :: rest)) := by
  intro T hT X
  obtain ⟨t, st, q⟩ := k T hT X
  exact ⟨t, X.fastoreNull hexec (g := F0 m pc ls (.float x :: .int i :: .null :: rest)) rfl (rest := rest) rfl (by rw [hb]; exact hdg) t st, q⟩
theorem vx_dastoreN (hexec : p.tables.exec = Jvm.exec) (hb : c.code = cc) {x : UInt64} {i : Int32} (hdg : decode cc pc = .ok (.dastore, 1)) (k : vx_NoteN p l e R s m args below meth c H locs cells slots Q (F0 m pc ls rest)) : W p l e R s m args below meth c H locs cells slots Q (F0 m pc ls (.double x :: .int i :: .null :: rest)) := by
  intro T hT X
  obtain ⟨t, st, q⟩ := k T hT X
  exact ⟨t, X.dastoreNull hexec (g := F0 m pc ls (.double x :: .int i :: .null :: rest)) rfl (rest := rest) rfl (by rw [hb]; exact hdg) t st, q⟩
theorem vx_bastoreN (hexec : p.tables.exec = Jvm.exec) (hb : c.code = cc) {x : Int32} {i : Int32} (hdg : decode cc pc = .ok (.bastore, 1)) (k : vx_NoteN p l e R s m args below meth c H locs cells slots Q (F0 m pc ls rest)) : W p l e R s m args below meth c H locs cells slots Q (F0 m pc ls (.int x :: .int i :: .null :: rest)) := by
  intro T hT X
  obtain ⟨t, st, q⟩ := k T hT X
  exact ⟨t, X.bastoreNull hexec (g := F0 m pc ls (.int x :: .int i :: .null :: rest)) rfl (rest := rest) rfl (by rw [hb]; exact hdg) t st, q⟩
theorem vx_castoreN (hexec : p.tables.exec = Jvm.exec) (hb : c.code = cc) {x : Int32} {i : Int32} (hdg : decode cc pc = .ok (.castore, 1)) (k : vx_NoteN p l e R s m args below meth c H locs cells slots Q (F0 m pc ls rest)) : W p l e R s m args below meth c H locs cells slots Q (F0 m pc ls (.int x :: .int i :: .null :: rest)) := by
  intro T hT X
  obtain ⟨t, st, q⟩ := k T hT X
  exact ⟨t, X.castoreNull hexec (g := F0 m pc ls (.int x :: .int i :: .null :: rest)) rfl (rest := rest) rfl (by rw [hb]; exact hdg) t st, q⟩
theorem vx_sastoreN (hexec : p.tables.exec = Jvm.exec) (hb : c.code = cc) {x : Int32} {i : Int32} (hdg : decode cc pc = .ok (.sastore, 1)) (k : vx_NoteN p l e R s m args below meth c H locs cells slots Q (F0 m pc ls rest)) : W p l e R s m args below meth c H locs cells slots Q (F0 m pc ls (.int x :: .int i :: .null :: rest)) := by
  intro T hT X
  obtain ⟨t, st, q⟩ := k T hT X
  exact ⟨t, X.sastoreNull hexec (g := F0 m pc ls (.int x :: .int i :: .null :: rest)) rfl (rest := rest) rfl (by rw [hb]; exact hdg) t st, q⟩
theorem vx_invokeN {own C : String} {index maxL : Nat} {y : MethodName} {bytes : ByteArray} {ret : Option FieldType} (hexec : p.tables.exec = Jvm.exec) (hb : c.code = cc) (hown : s.vm.findClass own = some m.cls) (hlink : (Cond.methodLink own index y).before args s = true) (hinst : (Cond.instanceMethod y).before args s = true) (hcode : (Cond.code y bytes maxL ret).before args s = true) (hsel : (Cond.selects C y y).before args s = true)
    (hx : y.cls ≠ "java/lang/invoke/MethodHandle" ∧ y.cls ≠ "java/lang/invoke/VarHandle") {As : List Value} (hlen : (parseMethodDescriptor y.desc).map (fun d => d.parameters.length) = some As.length) (hdg : decode cc pc = .ok (.invokevirtual index, 3))
    (k : vx_NoteN p l e R s m args below meth c H locs cells slots Q (F0 m pc ls rest)) {st0 : List Value} (hst : st0 = As.reverse ++ .null :: rest) : W p l e R s m args below meth c H locs cells slots Q (F0 m pc ls st0) := by
  intro T hT X
  obtain ⟨r0, r, hn, hrm, hstR, hsigR⟩ := va_Decl.of hinst hcode
  obtain ⟨c2, r2, m2, q1, q2, q3, q4, kP, hkP, hkPi⟩ := Cond.selects_spec hsel
  cases hn.symm.trans q3
  have hl9 : As.length = r.sig.parameters.length := by
    rw [hsigR] at hlen
    exact (Option.some.inj hlen).symm
  obtain ⟨vm', X1, st1⟩ := X.invokevirtualNull hexec hown hlink hn hrm hstR hkP hkPi hx (g := F0 m pc ls st0) rfl (argsL := As) (rest := rest) hl9 hst (by rw [hb]; exact hdg)
  obtain ⟨t, st, q⟩ := k (T.setVm vm') hT X1
  exact ⟨t, st1 t st, q⟩
theorem vx_newarrayZ {atype : ArrayType} (hexec : p.tables.exec = Jvm.exec) (hb : c.code = cc) {n : Int32} (h0 : n < 0) (hdg : decode cc pc = .ok (.newarray atype, 2)) (k : ∀ tx : String, tx = toString n → vx_Note p l e R s m args below meth c H locs cells slots Q (F0 m pc ls rest) "java/lang/NegativeArraySizeException" tx) : W p l e R s m args below meth c H locs cells slots Q (F0 m pc ls (.int n :: rest)) := by
  intro T hT X
  obtain ⟨t, st, q⟩ := k _ rfl T hT X
  exact ⟨t, X.newarrayNegative hexec (g := F0 m pc ls (.int n :: rest)) rfl h0 (rest := rest) rfl (by rw [hb]; exact hdg) t st, q⟩
end
end VXM
/-! ===== END ===== -/
end
section
/-! ===== BEGIN printed: names, fields, word lists, decode rows ===== -/
def RX0 : String := "BellCores$Foundry"
def TX0 : u_T := fun k => match k with
  | 0 => ("BellCores$Foundry", "moulds", "LBellCores$Table;", true)
  | 1 => ("BellCores$Foundry", "racks", "LBellCores$Table;", true)
  | 2 => ("BellCores$Foundry", "bells", "LBellCores$Table;", true)
  | 3 => ("BellCores$Foundry", "heat", "I", false)
  | 4 => ("BellCores$Foundry", "pounds", "I", false)
  | 5 => ("BellCores$Foundry", "brought", "I", false)
  | 6 => ("BellCores$Foundry", "lost", "I", false)
  | 7 => ("BellCores$Foundry", "loadsBurnt", "I", false)
  | 8 => ("BellCores$Foundry", "hoursGone", "I", false)
  | _ => ("BellCores$Foundry", "bellsPoured", "I", false)
def tyX0 : Nat → FieldType := fun k => match k with
  | 0 => .object "BellCores$Table"
  | 1 => .object "BellCores$Table"
  | 2 => .object "BellCores$Table"
  | 3 => .int
  | 4 => .int
  | 5 => .int
  | 6 => .int
  | 7 => .int
  | 8 => .int
  | _ => .int
abbrev wsX00 : List Cond := u_ws RX0 TX0 10
theorem nmX0 : ∀ a, a < 10 → ∀ b, b < 10 → a ≠ b → (TX0 a).2.1 ≠ (TX0 b).2.1 := by decide +kernel
theorem tyX0_ok : ∀ k, k < 10 → parseFieldDescriptor (TX0 k).2.2.1 = some (tyX0 k) := by decide +kernel
abbrev cX0_init : ByteArray := prog_2_method_1_code
def yX0_init : MethodName := ⟨RX0, "<init>", "()V"⟩
abbrev cX0_copyFrom : ByteArray := prog_2_method_2_code
def yX0_copyFrom : MethodName := ⟨RX0, "copyFrom", "(LBellCores$Foundry;)V"⟩
abbrev cX0_burnCoal : ByteArray := prog_2_method_3_code
def yX0_burnCoal : MethodName := ⟨RX0, "burnCoal", "(I)V"⟩
abbrev cX0_refusesPounds : ByteArray := prog_2_method_4_code
def yX0_refusesPounds : MethodName := ⟨RX0, "refusesPounds", "(ILBellCores$Refusal;)Z"⟩
abbrev cX0_bringBronze : ByteArray := prog_2_method_5_code
def yX0_bringBronze : MethodName := ⟨RX0, "bringBronze", "(I)V"⟩
abbrev cX0_refusesMould : ByteArray := prog_2_method_6_code
def yX0_refusesMould : MethodName := ⟨RX0, "refusesMould", "(LBellCores$Refusal;)Z"⟩
abbrev cX0_makeMould : ByteArray := prog_2_method_7_code
def yX0_makeMould : MethodName := ⟨RX0, "makeMould", "(II)I"⟩
abbrev cX0_refusesRack : ByteArray := prog_2_method_8_code
def yX0_refusesRack : MethodName := ⟨RX0, "refusesRack", "(LBellCores$Refusal;)Z"⟩
abbrev cX0_setRack : ByteArray := prog_2_method_9_code
def yX0_setRack : MethodName := ⟨RX0, "setRack", "(I)I"⟩
abbrev cX0_refusesStrike : ByteArray := prog_2_method_10_code
def yX0_refusesStrike : MethodName := ⟨RX0, "refusesStrike", "(ILBellCores$Refusal;)Z"⟩
abbrev cX0_strikeRack : ByteArray := prog_2_method_11_code
def yX0_strikeRack : MethodName := ⟨RX0, "strikeRack", "(I)V"⟩
abbrev cX0_bellsOn : ByteArray := prog_2_method_12_code
def yX0_bellsOn : MethodName := ⟨RX0, "bellsOn", "(I)I"⟩
abbrev cX0_lossOn : ByteArray := prog_2_method_13_code
def yX0_lossOn : MethodName := ⟨RX0, "lossOn", "(I)I"⟩
abbrev cX0_hasBoth : ByteArray := prog_2_method_14_code
def yX0_hasBoth : MethodName := ⟨RX0, "hasBoth", "(II)Z"⟩
abbrev cX0_refusesPour : ByteArray := prog_2_method_15_code
def yX0_refusesPour : MethodName := ⟨RX0, "refusesPour", "(IILBellCores$Refusal;)Z"⟩
abbrev cX0_pourMould : ByteArray := prog_2_method_16_code
def yX0_pourMould : MethodName := ⟨RX0, "pourMould", "(II)I"⟩
abbrev cX0_letHoursGoBy : ByteArray := prog_2_method_17_code
def yX0_letHoursGoBy : MethodName := ⟨RX0, "letHoursGoBy", "(I)I"⟩
abbrev cX0_lossOf : ByteArray := prog_2_method_18_code
def yX0_lossOf : MethodName := ⟨RX0, "lossOf", "(I)I"⟩
abbrev cX0_cracksToCome : ByteArray := prog_2_method_19_code
def yX0_cracksToCome : MethodName := ⟨RX0, "cracksToCome", "(III)I"⟩
abbrev cX0_warmHours : ByteArray := prog_2_method_20_code
def yX0_warmHours : MethodName := ⟨RX0, "warmHours", "(II)I"⟩
abbrev cX0_cracksAfter : ByteArray := prog_2_method_21_code
def yX0_cracksAfter : MethodName := ⟨RX0, "cracksAfter", "(II)I"⟩
abbrev cX0_hoursUntilCold : ByteArray := prog_2_method_22_code
def yX0_hoursUntilCold : MethodName := ⟨RX0, "hoursUntilCold", "(I)I"⟩
abbrev cX0_addCracks : ByteArray := prog_2_method_23_code
def yX0_addCracks : MethodName := ⟨RX0, "addCracks", "(II)V"⟩
abbrev cX0_refusesTake : ByteArray := prog_2_method_24_code
def yX0_refusesTake : MethodName := ⟨RX0, "refusesTake", "(ILBellCores$Refusal;)Z"⟩
abbrev cX0_takeBell : ByteArray := prog_2_method_25_code
def yX0_takeBell : MethodName := ⟨RX0, "takeBell", "(I)I"⟩
abbrev cX0_refusesOutsideHall : ByteArray := prog_2_method_26_code
def yX0_refusesOutsideHall : MethodName := ⟨RX0, "refusesOutsideHall", "(ILBellCores$Refusal;)Z"⟩
abbrev cX0_ringBell : ByteArray := prog_2_method_27_code
def yX0_ringBell : MethodName := ⟨RX0, "ringBell", "(I)I"⟩
abbrev cX0_refusesFile : ByteArray := prog_2_method_28_code
def yX0_refusesFile : MethodName := ⟨RX0, "refusesFile", "(IILBellCores$Refusal;)Z"⟩
abbrev cX0_addMarks : ByteArray := prog_2_method_29_code
def yX0_addMarks : MethodName := ⟨RX0, "addMarks", "(II)V"⟩
abbrev cX0_backByRecast : ByteArray := prog_2_method_30_code
def yX0_backByRecast : MethodName := ⟨RX0, "backByRecast", "(I)I"⟩
abbrev cX0_refusesRecast : ByteArray := prog_2_method_31_code
def yX0_refusesRecast : MethodName := ⟨RX0, "refusesRecast", "(ILBellCores$Refusal;)Z"⟩
abbrev cX0_recastBell : ByteArray := prog_2_method_32_code
def yX0_recastBell : MethodName := ⟨RX0, "recastBell", "(I)I"⟩
abbrev cX0_noteOf : ByteArray := prog_2_method_33_code
def yX0_noteOf : MethodName := ⟨RX0, "noteOf", "(I)I"⟩
abbrev cX0_sumOfNotes : ByteArray := prog_2_method_34_code
def yX0_sumOfNotes : MethodName := ⟨RX0, "sumOfNotes", "()I"⟩
abbrev cX0_bellAtPlace : ByteArray := prog_2_method_35_code
def yX0_bellAtPlace : MethodName := ⟨RX0, "bellAtPlace", "(I)I"⟩
abbrev cX0_bellsAheadOf : ByteArray := prog_2_method_36_code
def yX0_bellsAheadOf : MethodName := ⟨RX0, "bellsAheadOf", "(I)I"⟩
abbrev cX0_pealBellByBell : ByteArray := prog_2_method_37_code
def yX0_pealBellByBell : MethodName := ⟨RX0, "pealBellByBell", "(I)I"⟩
abbrev cX0_isHeard : ByteArray := prog_2_method_38_code
def yX0_isHeard : MethodName := ⟨RX0, "isHeard", "(I)Z"⟩
abbrev cX0_accountOf : ByteArray := prog_2_method_39_code
def yX0_accountOf : MethodName := ⟨RX0, "accountOf", "(I)I"⟩
abbrev cX0_soundInHall : ByteArray := prog_2_method_40_code
def yX0_soundInHall : MethodName := ⟨RX0, "soundInHall", "()I"⟩
abbrev cX0_areNotesAlike : ByteArray := prog_2_method_41_code
def yX0_areNotesAlike : MethodName := ⟨RX0, "areNotesAlike", "()Z"⟩
abbrev cX0_doesBronzeAddUp : ByteArray := prog_2_method_42_code
def yX0_doesBronzeAddUp : MethodName := ⟨RX0, "doesBronzeAddUp", "()Z"⟩
abbrev cX0_hasRoomOnRacks : ByteArray := prog_2_method_43_code
def yX0_hasRoomOnRacks : MethodName := ⟨RX0, "hasRoomOnRacks", "()Z"⟩
def RX1 : String := "BellCores$Hall"
def TX1 : u_T := fun k => match k with
  | _ => ("BellCores$Hall", "isTold", "[Z", true)
def tyX1 : Nat → FieldType := fun k => match k with
  | _ => .array .boolean
abbrev wsX10 : List Cond := u_ws RX1 TX1 1
theorem nmX1 : ∀ a, a < 1 → ∀ b, b < 1 → a ≠ b → (TX1 a).2.1 ≠ (TX1 b).2.1 := by decide +kernel
theorem tyX1_ok : ∀ k, k < 1 → parseFieldDescriptor (TX1 k).2.2.1 = some (tyX1 k) := by decide +kernel
abbrev cX1_init : ByteArray := prog_3_method_1_code
def yX1_init : MethodName := ⟨RX1, "<init>", "()V"⟩
abbrev cX1_gather : ByteArray := prog_3_method_2_code
def yX1_gather : MethodName := ⟨RX1, "gather", "(LBellCores$Foundry;)V"⟩
abbrev cX1_pealFrom : ByteArray := prog_3_method_3_code
def yX1_pealFrom : MethodName := ⟨RX1, "pealFrom", "(I)I"⟩
abbrev cX1_startOfLongest : ByteArray := prog_3_method_4_code
def yX1_startOfLongest : MethodName := ⟨RX1, "startOfLongest", "()I"⟩
def RX2 : String := "BellCores$History"
def TX2 : u_T := fun k => match k with
  | 0 => ("BellCores$History", "before", "[LBellCores$Foundry;", true)
  | 1 => ("BellCores$History", "next", "I", false)
  | _ => ("BellCores$History", "kept", "I", false)
def tyX2 : Nat → FieldType := fun k => match k with
  | 0 => .array (.object "BellCores$Foundry")
  | 1 => .int
  | _ => .int
abbrev wsX20 : List Cond := u_ws RX2 TX2 3
theorem nmX2 : ∀ a, a < 3 → ∀ b, b < 3 → a ≠ b → (TX2 a).2.1 ≠ (TX2 b).2.1 := by decide +kernel
theorem tyX2_ok : ∀ k, k < 3 → parseFieldDescriptor (TX2 k).2.2.1 = some (tyX2 k) := by decide +kernel
abbrev cX2_init : ByteArray := prog_4_method_1_code
def yX2_init : MethodName := ⟨RX2, "<init>", "()V"⟩
abbrev cX2_size : ByteArray := prog_4_method_2_code
def yX2_size : MethodName := ⟨RX2, "size", "()I"⟩
abbrev cX2_remember : ByteArray := prog_4_method_3_code
def yX2_remember : MethodName := ⟨RX2, "remember", "(LBellCores$Foundry;)V"⟩
abbrev cX2_goBack : ByteArray := prog_4_method_4_code
def yX2_goBack : MethodName := ⟨RX2, "goBack", "(LBellCores$Foundry;)V"⟩
abbrev cX2_forget : ByteArray := prog_4_method_5_code
def yX2_forget : MethodName := ⟨RX2, "forget", "()V"⟩
def RX3 : String := "BellCores$Outcome"
def TX3 : u_T := fun k => match k with
  | _ => ("", "", "", false)
def tyX3 : Nat → FieldType := fun k => match k with
  | _ => .int
abbrev wsX30 : List Cond := u_ws RX3 TX3 0
theorem nmX3 : ∀ a, a < 0 → ∀ b, b < 0 → a ≠ b → (TX3 a).2.1 ≠ (TX3 b).2.1 := by decide +kernel
theorem tyX3_ok : ∀ k, k < 0 → parseFieldDescriptor (TX3 k).2.2.1 = some (tyX3 k) := by decide +kernel
def RX4 : String := "BellCores$Pouring"
def TX4 : u_T := fun k => match k with
  | 0 => ("BellCores$Pouring", "cores", "[I", true)
  | 1 => ("BellCores$Pouring", "count", "I", false)
  | 2 => ("BellCores$Pouring", "heat", "I", false)
  | 3 => ("BellCores$Pouring", "pounds", "I", false)
  | 4 => ("BellCores$Pouring", "heatLeft", "[I", true)
  | 5 => ("BellCores$Pouring", "poundsLeft", "[I", true)
  | _ => ("BellCores$Pouring", "mostBehind", "[I", true)
def tyX4 : Nat → FieldType := fun k => match k with
  | 0 => .array .int
  | 1 => .int
  | 2 => .int
  | 3 => .int
  | 4 => .array .int
  | 5 => .array .int
  | _ => .array .int
abbrev wsX40 : List Cond := u_ws RX4 TX4 7
theorem nmX4 : ∀ a, a < 7 → ∀ b, b < 7 → a ≠ b → (TX4 a).2.1 ≠ (TX4 b).2.1 := by decide +kernel
theorem tyX4_ok : ∀ k, k < 7 → parseFieldDescriptor (TX4 k).2.2.1 = some (tyX4 k) := by decide +kernel
abbrev cX4_init : ByteArray := prog_6_method_1_code
def yX4_init : MethodName := ⟨RX4, "<init>", "()V"⟩
abbrev cX4_lookAt : ByteArray := prog_6_method_2_code
def yX4_lookAt : MethodName := ⟨RX4, "lookAt", "(LBellCores$Foundry;)V"⟩
abbrev cX4_isEnough : ByteArray := prog_6_method_3_code
def yX4_isEnough : MethodName := ⟨RX4, "isEnough", "(III)Z"⟩
abbrev cX4_hottest : ByteArray := prog_6_method_4_code
def yX4_hottest : MethodName := ⟨RX4, "hottest", "()I"⟩
abbrev cX4_hottestBut : ByteArray := prog_6_method_5_code
def yX4_hottestBut : MethodName := ⟨RX4, "hottestBut", "(I)I"⟩
abbrev cX4_best : ByteArray := prog_6_method_6_code
def yX4_best : MethodName := ⟨RX4, "best", "()I"⟩
abbrev cX4_firstOfBest : ByteArray := prog_6_method_7_code
def yX4_firstOfBest : MethodName := ⟨RX4, "firstOfBest", "()I"⟩
abbrev cX4_weighWhatIsLeft : ByteArray := prog_6_method_8_code
def yX4_weighWhatIsLeft : MethodName := ⟨RX4, "weighWhatIsLeft", "()V"⟩
abbrev cX4_countBehind : ByteArray := prog_6_method_9_code
def yX4_countBehind : MethodName := ⟨RX4, "countBehind", "()V"⟩
abbrev cX4_pouredWithNext : ByteArray := prog_6_method_10_code
def yX4_pouredWithNext : MethodName := ⟨RX4, "pouredWithNext", "(II)I"⟩
def RX5 : String := "BellCores$Refusal"
def TX5 : u_T := fun k => match k with
  | 0 => ("BellCores$Refusal", "reason", "I", false)
  | _ => ("BellCores$Refusal", "detail", "I", false)
def tyX5 : Nat → FieldType := fun k => match k with
  | 0 => .int
  | _ => .int
abbrev wsX50 : List Cond := u_ws RX5 TX5 2
theorem nmX5 : ∀ a, a < 2 → ∀ b, b < 2 → a ≠ b → (TX5 a).2.1 ≠ (TX5 b).2.1 := by decide +kernel
theorem tyX5_ok : ∀ k, k < 2 → parseFieldDescriptor (TX5 k).2.2.1 = some (tyX5 k) := by decide +kernel
abbrev cX5_init : ByteArray := prog_7_method_1_code
def yX5_init : MethodName := ⟨RX5, "<init>", "()V"⟩
abbrev cX5_keep : ByteArray := prog_7_method_2_code
def yX5_keep : MethodName := ⟨RX5, "keep", "(II)Z"⟩
def RX6 : String := "BellCores$Table"
def TX6 : u_T := fun k => match k with
  | 0 => ("BellCores$Table", "room", "I", true)
  | 1 => ("BellCores$Table", "width", "I", true)
  | 2 => ("BellCores$Table", "cells", "[I", true)
  | _ => ("BellCores$Table", "rows", "I", false)
def tyX6 : Nat → FieldType := fun k => match k with
  | 0 => .int
  | 1 => .int
  | 2 => .array .int
  | _ => .int
abbrev wsX60 : List Cond := u_ws RX6 TX6 4
theorem nmX6 : ∀ a, a < 4 → ∀ b, b < 4 → a ≠ b → (TX6 a).2.1 ≠ (TX6 b).2.1 := by decide +kernel
theorem tyX6_ok : ∀ k, k < 4 → parseFieldDescriptor (TX6 k).2.2.1 = some (tyX6 k) := by decide +kernel
abbrev cX6_init : ByteArray := prog_8_method_1_code
def yX6_init : MethodName := ⟨RX6, "<init>", "(II)V"⟩
abbrev cX6_size : ByteArray := prog_8_method_2_code
def yX6_size : MethodName := ⟨RX6, "size", "()I"⟩
abbrev cX6_has : ByteArray := prog_8_method_3_code
def yX6_has : MethodName := ⟨RX6, "has", "(I)Z"⟩
abbrev cX6_get : ByteArray := prog_8_method_4_code
def yX6_get : MethodName := ⟨RX6, "get", "(II)I"⟩
abbrev cX6_put : ByteArray := prog_8_method_5_code
def yX6_put : MethodName := ⟨RX6, "put", "(III)V"⟩
abbrev cX6_raise : ByteArray := prog_8_method_6_code
def yX6_raise : MethodName := ⟨RX6, "raise", "(III)V"⟩
abbrev cX6_add : ByteArray := prog_8_method_7_code
def yX6_add : MethodName := ⟨RX6, "add", "()I"⟩
abbrev cX6_drop : ByteArray := prog_8_method_8_code
def yX6_drop : MethodName := ⟨RX6, "drop", "(I)V"⟩
abbrev cX6_clear : ByteArray := prog_8_method_9_code
def yX6_clear : MethodName := ⟨RX6, "clear", "()V"⟩
abbrev cX6_sumOf : ByteArray := prog_8_method_10_code
def yX6_sumOf : MethodName := ⟨RX6, "sumOf", "(I)I"⟩
abbrev cX6_countOf : ByteArray := prog_8_method_11_code
def yX6_countOf : MethodName := ⟨RX6, "countOf", "(II)I"⟩
abbrev cX6_copyFrom : ByteArray := prog_8_method_12_code
def yX6_copyFrom : MethodName := ⟨RX6, "copyFrom", "(LBellCores$Table;)V"⟩
def RX7 : String := "BellCores$Text"
def TX7 : u_T := fun k => match k with
  | 0 => ("BellCores$Text", "orders", "LBellCores$Table;", true)
  | 1 => ("BellCores$Text", "letters", "[C", true)
  | 2 => ("BellCores$Text", "length", "I", false)
  | _ => ("BellCores$Text", "at", "I", false)
def tyX7 : Nat → FieldType := fun k => match k with
  | 0 => .object "BellCores$Table"
  | 1 => .array .char
  | 2 => .int
  | _ => .int
abbrev wsX70 : List Cond := u_ws RX7 TX7 4
theorem nmX7 : ∀ a, a < 4 → ∀ b, b < 4 → a ≠ b → (TX7 a).2.1 ≠ (TX7 b).2.1 := by decide +kernel
theorem tyX7_ok : ∀ k, k < 4 → parseFieldDescriptor (TX7 k).2.2.1 = some (tyX7 k) := by decide +kernel
abbrev cX7_init : ByteArray := prog_9_method_1_code
def yX7_init : MethodName := ⟨RX7, "<init>", "()V"⟩
abbrev cX7_size : ByteArray := prog_9_method_2_code
def yX7_size : MethodName := ⟨RX7, "size", "()I"⟩
abbrev cX7_isFull : ByteArray := prog_9_method_3_code
def yX7_isFull : MethodName := ⟨RX7, "isFull", "()Z"⟩
abbrev cX7_add : ByteArray := prog_9_method_4_code
def yX7_add : MethodName := ⟨RX7, "add", "(C)V"⟩
abbrev cX7_empty : ByteArray := prog_9_method_5_code
def yX7_empty : MethodName := ⟨RX7, "empty", "()V"⟩
abbrev cX7_readOrders : ByteArray := prog_9_method_6_code
def yX7_readOrders : MethodName := ⟨RX7, "readOrders", "()I"⟩
abbrev cX7_readOrder : ByteArray := prog_9_method_7_code
def yX7_readOrder : MethodName := ⟨RX7, "readOrder", "()Z"⟩
abbrev cX7_readPair : ByteArray := prog_9_method_8_code
def yX7_readPair : MethodName := ⟨RX7, "readPair", "(IIC)Z"⟩
abbrev cX7_keep : ByteArray := prog_9_method_9_code
def yX7_keep : MethodName := ⟨RX7, "keep", "(III)Z"⟩
abbrev cX7_readNumber : ByteArray := prog_9_method_10_code
def yX7_readNumber : MethodName := ⟨RX7, "readNumber", "(I)I"⟩
abbrev cX7_skip : ByteArray := prog_9_method_11_code
def yX7_skip : MethodName := ⟨RX7, "skip", "(C)Z"⟩
abbrev cX7_next : ByteArray := prog_9_method_12_code
def yX7_next : MethodName := ⟨RX7, "next", "()I"⟩
def RX8 : String := "BellCores"
def TX8 : u_T := fun k => match k with
  | 0 => ("BellCores", "foundry", "LBellCores$Foundry;", true)
  | 1 => ("BellCores", "trial", "LBellCores$Foundry;", true)
  | 2 => ("BellCores", "history", "LBellCores$History;", true)
  | 3 => ("BellCores", "refused", "LBellCores$Refusal;", true)
  | 4 => ("BellCores", "text", "LBellCores$Text;", true)
  | 5 => ("BellCores", "hall", "LBellCores$Hall;", true)
  | 6 => ("BellCores", "pouring", "LBellCores$Pouring;", true)
  | 7 => ("BellCores", "written", "Ljava/lang/StringBuilder;", true)
  | 8 => ("BellCores", "saved", "LBellCores$Foundry;", false)
  | _ => ("BellCores", "errorAt", "I", false)
def tyX8 : Nat → FieldType := fun k => match k with
  | 0 => .object "BellCores$Foundry"
  | 1 => .object "BellCores$Foundry"
  | 2 => .object "BellCores$History"
  | 3 => .object "BellCores$Refusal"
  | 4 => .object "BellCores$Text"
  | 5 => .object "BellCores$Hall"
  | 6 => .object "BellCores$Pouring"
  | 7 => .object "java/lang/StringBuilder"
  | 8 => .object "BellCores$Foundry"
  | _ => .int
abbrev wsX80 : List Cond := u_ws RX8 TX8 10
theorem nmX8 : ∀ a, a < 10 → ∀ b, b < 10 → a ≠ b → (TX8 a).2.1 ≠ (TX8 b).2.1 := by decide +kernel
theorem tyX8_ok : ∀ k, k < 10 → parseFieldDescriptor (TX8 k).2.2.1 = some (tyX8 k) := by decide +kernel
abbrev cX8_init : ByteArray := prog_1_method_1_code
def yX8_init : MethodName := ⟨RX8, "<init>", "()V"⟩
abbrev cX8_coal : ByteArray := prog_1_method_2_code
def yX8_coal : MethodName := ⟨RX8, "coal", "(I)I"⟩
abbrev cX8_bronze : ByteArray := prog_1_method_3_code
def yX8_bronze : MethodName := ⟨RX8, "bronze", "(I)I"⟩
abbrev cX8_mould : ByteArray := prog_1_method_4_code
def yX8_mould : MethodName := ⟨RX8, "mould", "(II)I"⟩
abbrev cX8_smash : ByteArray := prog_1_method_5_code
def yX8_smash : MethodName := ⟨RX8, "smash", "(I)I"⟩
abbrev cX8_mouldOf : ByteArray := prog_1_method_6_code
def yX8_mouldOf : MethodName := ⟨RX8, "mouldOf", "(II)I"⟩
abbrev cX8_rack : ByteArray := prog_1_method_7_code
def yX8_rack : MethodName := ⟨RX8, "rack", "(I)I"⟩
abbrev cX8_strike : ByteArray := prog_1_method_8_code
def yX8_strike : MethodName := ⟨RX8, "strike", "(I)I"⟩
abbrev cX8_rackOf : ByteArray := prog_1_method_9_code
def yX8_rackOf : MethodName := ⟨RX8, "rackOf", "(II)I"⟩
abbrev cX8_pour : ByteArray := prog_1_method_10_code
def yX8_pour : MethodName := ⟨RX8, "pour", "(II)I"⟩
abbrev cX8_pass : ByteArray := prog_1_method_11_code
def yX8_pass : MethodName := ⟨RX8, "pass", "(I)I"⟩
abbrev cX8_take : ByteArray := prog_1_method_12_code
def yX8_take : MethodName := ⟨RX8, "take", "(I)I"⟩
abbrev cX8_ring : ByteArray := prog_1_method_13_code
def yX8_ring : MethodName := ⟨RX8, "ring", "(I)I"⟩
abbrev cX8_file : ByteArray := prog_1_method_14_code
def yX8_file : MethodName := ⟨RX8, "file", "(II)I"⟩
abbrev cX8_recast : ByteArray := prog_1_method_15_code
def yX8_recast : MethodName := ⟨RX8, "recast", "(I)I"⟩
abbrev cX8_bellOf : ByteArray := prog_1_method_16_code
def yX8_bellOf : MethodName := ⟨RX8, "bellOf", "(II)I"⟩
abbrev cX8_note : ByteArray := prog_1_method_17_code
def yX8_note : MethodName := ⟨RX8, "note", "(IZ)I"⟩
abbrev cX8_wouldCrack : ByteArray := prog_1_method_18_code
def yX8_wouldCrack : MethodName := ⟨RX8, "wouldCrack", "(II)I"⟩
abbrev cX8_coldIn : ByteArray := prog_1_method_19_code
def yX8_coldIn : MethodName := ⟨RX8, "coldIn", "(I)I"⟩
abbrev cX8_peal : ByteArray := prog_1_method_20_code
def yX8_peal : MethodName := ⟨RX8, "peal", "(IZ)I"⟩
abbrev cX8_longest : ByteArray := prog_1_method_21_code
def yX8_longest : MethodName := ⟨RX8, "longest", "()I"⟩
abbrev cX8_ranked : ByteArray := prog_1_method_22_code
def yX8_ranked : MethodName := ⟨RX8, "ranked", "(I)I"⟩
abbrev cX8_pourable : ByteArray := prog_1_method_23_code
def yX8_pourable : MethodName := ⟨RX8, "pourable", "(Z)I"⟩
abbrev cX8_first : ByteArray := prog_1_method_24_code
def yX8_first : MethodName := ⟨RX8, "first", "()I"⟩
abbrev cX8_line : ByteArray := prog_1_method_25_code
def yX8_line : MethodName := ⟨RX8, "line", "(I)I"⟩
abbrev cX8_rackLine : ByteArray := prog_1_method_26_code
def yX8_rackLine : MethodName := ⟨RX8, "rackLine", "(I)I"⟩
abbrev cX8_character : ByteArray := prog_1_method_27_code
def yX8_character : MethodName := ⟨RX8, "character", "(I)C"⟩
abbrev cX8_append : ByteArray := prog_1_method_28_code
def yX8_append : MethodName := ⟨RX8, "append", "(C)I"⟩
abbrev cX8_run : ByteArray := prog_1_method_29_code
def yX8_run : MethodName := ⟨RX8, "run", "()I"⟩
abbrev cX8_errorPosition : ByteArray := prog_1_method_30_code
def yX8_errorPosition : MethodName := ⟨RX8, "errorPosition", "()I"⟩
abbrev cX8_refusal : ByteArray := prog_1_method_31_code
def yX8_refusal : MethodName := ⟨RX8, "refusal", "(Z)I"⟩
abbrev cX8_account : ByteArray := prog_1_method_32_code
def yX8_account : MethodName := ⟨RX8, "account", "(I)I"⟩
abbrev cX8_isWell : ByteArray := prog_1_method_33_code
def yX8_isWell : MethodName := ⟨RX8, "isWell", "()Z"⟩
abbrev cX8_meanNote : ByteArray := prog_1_method_34_code
def yX8_meanNote : MethodName := ⟨RX8, "meanNote", "()D"⟩
abbrev cX8_soundShare : ByteArray := prog_1_method_35_code
def yX8_soundShare : MethodName := ⟨RX8, "soundShare", "()F"⟩
abbrev cX8_undo : ByteArray := prog_1_method_36_code
def yX8_undo : MethodName := ⟨RX8, "undo", "()I"⟩
abbrev cX8_save : ByteArray := prog_1_method_37_code
def yX8_save : MethodName := ⟨RX8, "save", "()I"⟩
abbrev cX8_restore : ByteArray := prog_1_method_38_code
def yX8_restore : MethodName := ⟨RX8, "restore", "()I"⟩
abbrev cX8_isWithin : ByteArray := prog_1_method_39_code
def yX8_isWithin : MethodName := ⟨RX8, "isWithin", "(III)Z"⟩
abbrev cX8_isMould : ByteArray := prog_1_method_40_code
def yX8_isMould : MethodName := ⟨RX8, "isMould", "(II)Z"⟩
abbrev cX8_poundsFor : ByteArray := prog_1_method_41_code
def yX8_poundsFor : MethodName := ⟨RX8, "poundsFor", "(I)I"⟩
abbrev cX8_heatFor : ByteArray := prog_1_method_42_code
def yX8_heatFor : MethodName := ⟨RX8, "heatFor", "(I)I"⟩
abbrev cX8_heatAfterPouring : ByteArray := prog_1_method_43_code
def yX8_heatAfterPouring : MethodName := ⟨RX8, "heatAfterPouring", "(II)I"⟩
abbrev cX8_firstNote : ByteArray := prog_1_method_44_code
def yX8_firstNote : MethodName := ⟨RX8, "firstNote", "(I)I"⟩
abbrev cX8_writeBell : ByteArray := prog_1_method_45_code
def yX8_writeBell : MethodName := ⟨RX8, "writeBell", "(I)V"⟩
abbrev cX8_writeRack : ByteArray := prog_1_method_46_code
def yX8_writeRack : MethodName := ⟨RX8, "writeRack", "(I)V"⟩
abbrev cX8_arePealsAlike : ByteArray := prog_1_method_47_code
def yX8_arePealsAlike : MethodName := ⟨RX8, "arePealsAlike", "()Z"⟩
abbrev cX8_tryOrders : ByteArray := prog_1_method_48_code
def yX8_tryOrders : MethodName := ⟨RX8, "tryOrders", "()LBellCores$Outcome;"⟩
abbrev cX8_judge : ByteArray := prog_1_method_49_code
def yX8_judge : MethodName := ⟨RX8, "judge", "(III)LBellCores$Outcome;"⟩
abbrev cX8_isPossible : ByteArray := prog_1_method_50_code
def yX8_isPossible : MethodName := ⟨RX8, "isPossible", "(III)Z"⟩
abbrev cX8_isRefused : ByteArray := prog_1_method_51_code
def yX8_isRefused : MethodName := ⟨RX8, "isRefused", "(III)Z"⟩
abbrev cX8_carryOut : ByteArray := prog_1_method_52_code
def yX8_carryOut : MethodName := ⟨RX8, "carryOut", "(III)V"⟩
def RX9 : String := "BellCoresModel"
def TX9 : u_T := fun k => match k with
  | 0 => ("BellCoresModel", "g", "[I", true)
  | 1 => ("BellCoresModel", "kept", "[I", true)
  | 2 => ("BellCoresModel", "saved", "[I", true)
  | 3 => ("BellCoresModel", "before", "[I", true)
  | 4 => ("BellCoresModel", "isSaved", "Z", false)
  | 5 => ("BellCoresModel", "changes", "I", false)
  | 6 => ("BellCoresModel", "isWithin", "Z", false)
  | 7 => ("BellCoresModel", "code", "I", false)
  | 8 => ("BellCoresModel", "why", "I", false)
  | 9 => ("BellCoresModel", "detail", "I", false)
  | 10 => ("BellCoresModel", "input", "[I", true)
  | 11 => ("BellCoresModel", "length", "I", false)
  | 12 => ("BellCoresModel", "error", "I", false)
  | 13 => ("BellCoresModel", "signs", "[C", true)
  | 14 => ("BellCoresModel", "signMany", "I", false)
  | 15 => ("BellCoresModel", "canBe", "[Z", true)
  | 16 => ("BellCoresModel", "at", "I", false)
  | 17 => ("BellCoresModel", "told", "[I", true)
  | _ => ("BellCoresModel", "toldMany", "I", false)
def tyX9 : Nat → FieldType := fun k => match k with
  | 0 => .array .int
  | 1 => .array .int
  | 2 => .array .int
  | 3 => .array .int
  | 4 => .boolean
  | 5 => .int
  | 6 => .boolean
  | 7 => .int
  | 8 => .int
  | 9 => .int
  | 10 => .array .int
  | 11 => .int
  | 12 => .int
  | 13 => .array .char
  | 14 => .int
  | 15 => .array .boolean
  | 16 => .int
  | 17 => .array .int
  | _ => .int
abbrev wsX90 : List Cond := u_ws RX9 TX9 19
theorem nmX9 : ∀ a, a < 19 → ∀ b, b < 19 → a ≠ b → (TX9 a).2.1 ≠ (TX9 b).2.1 := by decide +kernel
theorem tyX9_ok : ∀ k, k < 19 → parseFieldDescriptor (TX9 k).2.2.1 = some (tyX9 k) := by decide +kernel
abbrev cX9_init : ByteArray := prog_11_method_1_code
def yX9_init : MethodName := ⟨RX9, "<init>", "()V"⟩
abbrev cX9_thrown : ByteArray := prog_11_method_2_code
def yX9_thrown : MethodName := ⟨RX9, "thrown", "()I"⟩
abbrev cX9_fails : ByteArray := prog_11_method_3_code
def yX9_fails : MethodName := ⟨RX9, "fails", "(I)Z"⟩
abbrev cX9_refuses : ByteArray := prog_11_method_4_code
def yX9_refuses : MethodName := ⟨RX9, "refuses", "(II)I"⟩
abbrev cX9_in : ByteArray := prog_11_method_5_code
def yX9_in : MethodName := ⟨RX9, "in", "(III)Z"⟩
abbrev cX9_most : ByteArray := prog_11_method_6_code
def yX9_most : MethodName := ⟨RX9, "most", "(II)I"⟩
abbrev cX9_copies : ByteArray := prog_11_method_7_code
def yX9_copies : MethodName := ⟨RX9, "copies", "([II[II)V"⟩
abbrev cX9_keeps : ByteArray := prog_11_method_8_code
def yX9_keeps : MethodName := ⟨RX9, "keeps", "([I)V"⟩
abbrev cX9_goes : ByteArray := prog_11_method_9_code
def yX9_goes : MethodName := ⟨RX9, "goes", "(IIII)V"⟩
abbrev cX9_coal : ByteArray := prog_11_method_10_code
def yX9_coal : MethodName := ⟨RX9, "coal", "(I)I"⟩
abbrev cX9_bronze : ByteArray := prog_11_method_11_code
def yX9_bronze : MethodName := ⟨RX9, "bronze", "(I)I"⟩
abbrev cX9_mould : ByteArray := prog_11_method_12_code
def yX9_mould : MethodName := ⟨RX9, "mould", "(II)I"⟩
abbrev cX9_isMould : ByteArray := prog_11_method_13_code
def yX9_isMould : MethodName := ⟨RX9, "isMould", "(I)Z"⟩
abbrev cX9_breaks : ByteArray := prog_11_method_14_code
def yX9_breaks : MethodName := ⟨RX9, "breaks", "(I)V"⟩
abbrev cX9_smash : ByteArray := prog_11_method_15_code
def yX9_smash : MethodName := ⟨RX9, "smash", "(I)I"⟩
abbrev cX9_core : ByteArray := prog_11_method_16_code
def yX9_core : MethodName := ⟨RX9, "core", "(I)I"⟩
abbrev cX9_takes : ByteArray := prog_11_method_17_code
def yX9_takes : MethodName := ⟨RX9, "takes", "(I)I"⟩
abbrev cX9_needs : ByteArray := prog_11_method_18_code
def yX9_needs : MethodName := ⟨RX9, "needs", "(I)I"⟩
abbrev cX9_mouldOf : ByteArray := prog_11_method_19_code
def yX9_mouldOf : MethodName := ⟨RX9, "mouldOf", "(II)I"⟩
abbrev cX9_rack : ByteArray := prog_11_method_20_code
def yX9_rack : MethodName := ⟨RX9, "rack", "(I)I"⟩
abbrev cX9_isRack : ByteArray := prog_11_method_21_code
def yX9_isRack : MethodName := ⟨RX9, "isRack", "(I)Z"⟩
abbrev cX9_of : ByteArray := prog_11_method_22_code
def yX9_of : MethodName := ⟨RX9, "of", "(II)I"⟩
abbrev cX9_lays : ByteArray := prog_11_method_23_code
def yX9_lays : MethodName := ⟨RX9, "lays", "(III)V"⟩
abbrev cX9_bellsOn : ByteArray := prog_11_method_24_code
def yX9_bellsOn : MethodName := ⟨RX9, "bellsOn", "(I)I"⟩
abbrev cX9_strike : ByteArray := prog_11_method_25_code
def yX9_strike : MethodName := ⟨RX9, "strike", "(I)I"⟩
abbrev cX9_losing : ByteArray := prog_11_method_26_code
def yX9_losing : MethodName := ⟨RX9, "losing", "(I)I"⟩
abbrev cX9_rackOf : ByteArray := prog_11_method_27_code
def yX9_rackOf : MethodName := ⟨RX9, "rackOf", "(II)I"⟩
abbrev cX9_isBell : ByteArray := prog_11_method_28_code
def yX9_isBell : MethodName := ⟨RX9, "isBell", "(I)Z"⟩
abbrev cX9_pour : ByteArray := prog_11_method_29_code
def yX9_pour : MethodName := ⟨RX9, "pour", "(II)I"⟩
abbrev cX9_cools : ByteArray := prog_11_method_30_code
def yX9_cools : MethodName := ⟨RX9, "cools", "(I)Z"⟩
abbrev cX9_hour : ByteArray := prog_11_method_31_code
def yX9_hour : MethodName := ⟨RX9, "hour", "()I"⟩
abbrev cX9_pass : ByteArray := prog_11_method_32_code
def yX9_pass : MethodName := ⟨RX9, "pass", "(I)I"⟩
abbrev cX9_take : ByteArray := prog_11_method_33_code
def yX9_take : MethodName := ⟨RX9, "take", "(I)I"⟩
abbrev cX9_noteOf : ByteArray := prog_11_method_34_code
def yX9_noteOf : MethodName := ⟨RX9, "noteOf", "(I)I"⟩
abbrev cX9_ring : ByteArray := prog_11_method_35_code
def yX9_ring : MethodName := ⟨RX9, "ring", "(I)I"⟩
abbrev cX9_refuses3 : ByteArray := prog_11_method_36_code
def yX9_refuses3 : MethodName := ⟨RX9, "refuses3", "(II)I"⟩
abbrev cX9_file : ByteArray := prog_11_method_37_code
def yX9_file : MethodName := ⟨RX9, "file", "(II)I"⟩
abbrev cX9_recast : ByteArray := prog_11_method_38_code
def yX9_recast : MethodName := ⟨RX9, "recast", "(I)I"⟩
abbrev cX9_bellOf : ByteArray := prog_11_method_39_code
def yX9_bellOf : MethodName := ⟨RX9, "bellOf", "(II)I"⟩
abbrev cX9_note : ByteArray := prog_11_method_40_code
def yX9_note : MethodName := ⟨RX9, "note", "(IZ)I"⟩
abbrev cX9_hoursOf : ByteArray := prog_11_method_41_code
def yX9_hoursOf : MethodName := ⟨RX9, "hoursOf", "(I)I"⟩
abbrev cX9_wouldCrack : ByteArray := prog_11_method_42_code
def yX9_wouldCrack : MethodName := ⟨RX9, "wouldCrack", "(II)I"⟩
abbrev cX9_coldIn : ByteArray := prog_11_method_43_code
def yX9_coldIn : MethodName := ⟨RX9, "coldIn", "(I)I"⟩
abbrev cX9_step : ByteArray := prog_11_method_44_code
def yX9_step : MethodName := ⟨RX9, "step", "(I)I"⟩
abbrev cX9_isHeard : ByteArray := prog_11_method_45_code
def yX9_isHeard : MethodName := ⟨RX9, "isHeard", "(I)Z"⟩
abbrev cX9_pealFrom : ByteArray := prog_11_method_46_code
def yX9_pealFrom : MethodName := ⟨RX9, "pealFrom", "(I)I"⟩
abbrev cX9_peal : ByteArray := prog_11_method_47_code
def yX9_peal : MethodName := ⟨RX9, "peal", "(IZ)I"⟩
abbrev cX9_inHall : ByteArray := prog_11_method_48_code
def yX9_inHall : MethodName := ⟨RX9, "inHall", "()I"⟩
abbrev cX9_longest : ByteArray := prog_11_method_49_code
def yX9_longest : MethodName := ⟨RX9, "longest", "()I"⟩
abbrev cX9_ranked : ByteArray := prog_11_method_50_code
def yX9_ranked : MethodName := ⟨RX9, "ranked", "(I)I"⟩
abbrev cX9_pours : ByteArray := prog_11_method_51_code
def yX9_pours : MethodName := ⟨RX9, "pours", "(II)Z"⟩
abbrev cX9_many : ByteArray := prog_11_method_52_code
def yX9_many : MethodName := ⟨RX9, "many", "(I)I"⟩
abbrev cX9_mostPoured : ByteArray := prog_11_method_53_code
def yX9_mostPoured : MethodName := ⟨RX9, "mostPoured", "(I)I"⟩
abbrev cX9_hottest : ByteArray := prog_11_method_54_code
def yX9_hottest : MethodName := ⟨RX9, "hottest", "(I)I"⟩
abbrev cX9_byHottest : ByteArray := prog_11_method_55_code
def yX9_byHottest : MethodName := ⟨RX9, "byHottest", "()I"⟩
abbrev cX9_pourable : ByteArray := prog_11_method_56_code
def yX9_pourable : MethodName := ⟨RX9, "pourable", "(Z)I"⟩
abbrev cX9_first : ByteArray := prog_11_method_57_code
def yX9_first : MethodName := ⟨RX9, "first", "()I"⟩
abbrev cX9_writes : ByteArray := prog_11_method_58_code
def yX9_writes : MethodName := ⟨RX9, "writes", "(I)V"⟩
abbrev cX9_writesNumber : ByteArray := prog_11_method_59_code
def yX9_writesNumber : MethodName := ⟨RX9, "writesNumber", "(I)V"⟩
abbrev cX9_line : ByteArray := prog_11_method_60_code
def yX9_line : MethodName := ⟨RX9, "line", "(I)I"⟩
abbrev cX9_rackLine : ByteArray := prog_11_method_61_code
def yX9_rackLine : MethodName := ⟨RX9, "rackLine", "(I)I"⟩
abbrev cX9_character : ByteArray := prog_11_method_62_code
def yX9_character : MethodName := ⟨RX9, "character", "(I)C"⟩
abbrev cX9_append : ByteArray := prog_11_method_63_code
def yX9_append : MethodName := ⟨RX9, "append", "(C)I"⟩
abbrev cX9_here : ByteArray := prog_11_method_64_code
def yX9_here : MethodName := ⟨RX9, "here", "()I"⟩
abbrev cX9_skips : ByteArray := prog_11_method_65_code
def yX9_skips : MethodName := ⟨RX9, "skips", "(I)Z"⟩
abbrev cX9_figures : ByteArray := prog_11_method_66_code
def yX9_figures : MethodName := ⟨RX9, "figures", "(II)Z"⟩
abbrev cX9_orderHere : ByteArray := prog_11_method_67_code
def yX9_orderHere : MethodName := ⟨RX9, "orderHere", "()Z"⟩
abbrev cX9_isText : ByteArray := prog_11_method_68_code
def yX9_isText : MethodName := ⟨RX9, "isText", "()Z"⟩
abbrev cX9_carries : ByteArray := prog_11_method_69_code
def yX9_carries : MethodName := ⟨RX9, "carries", "(I)I"⟩
abbrev cX9_run : ByteArray := prog_11_method_70_code
def yX9_run : MethodName := ⟨RX9, "run", "()I"⟩
abbrev cX9_errorPosition : ByteArray := prog_11_method_71_code
def yX9_errorPosition : MethodName := ⟨RX9, "errorPosition", "()I"⟩
abbrev cX9_refusal : ByteArray := prog_11_method_72_code
def yX9_refusal : MethodName := ⟨RX9, "refusal", "(Z)I"⟩
abbrev cX9_allOf : ByteArray := prog_11_method_73_code
def yX9_allOf : MethodName := ⟨RX9, "allOf", "(I)I"⟩
abbrev cX9_sound : ByteArray := prog_11_method_74_code
def yX9_sound : MethodName := ⟨RX9, "sound", "(Z)I"⟩
abbrev cX9_account : ByteArray := prog_11_method_75_code
def yX9_account : MethodName := ⟨RX9, "account", "(I)I"⟩
abbrev cX9_isWell : ByteArray := prog_11_method_76_code
def yX9_isWell : MethodName := ⟨RX9, "isWell", "()Z"⟩
abbrev cX9_meanNote : ByteArray := prog_11_method_77_code
def yX9_meanNote : MethodName := ⟨RX9, "meanNote", "()D"⟩
abbrev cX9_soundShare : ByteArray := prog_11_method_78_code
def yX9_soundShare : MethodName := ⟨RX9, "soundShare", "()F"⟩
abbrev cX9_undo : ByteArray := prog_11_method_79_code
def yX9_undo : MethodName := ⟨RX9, "undo", "()I"⟩
abbrev cX9_save : ByteArray := prog_11_method_80_code
def yX9_save : MethodName := ⟨RX9, "save", "()I"⟩
abbrev cX9_restore : ByteArray := prog_11_method_81_code
def yX9_restore : MethodName := ⟨RX9, "restore", "()I"⟩
def RJx145de : String := "java/io/Serializable"
def TJx145de : u_T := fun k => match k with
  | _ => ("", "", "", false)
def tyJx145de : Nat → FieldType := fun k => match k with
  | _ => .int
abbrev wsJx145de0 : List Cond := u_ws RJx145de TJx145de 0
theorem nmJx145de : ∀ a, a < 0 → ∀ b, b < 0 → a ≠ b → (TJx145de a).2.1 ≠ (TJx145de b).2.1 := by decide +kernel
theorem tyJx145de_ok : ∀ k, k < 0 → parseFieldDescriptor (TJx145de k).2.2.1 = some (tyJx145de k) := by decide +kernel
def RJ5 : String := "java/lang/AbstractStringBuilder"
def TJ5 : u_T := fun k => match k with
  | _ => ("", "", "", false)
def tyJ5 : Nat → FieldType := fun k => match k with
  | _ => .int
abbrev wsJ50 : List Cond := u_ws RJ5 TJ5 0
theorem nmJ5 : ∀ a, a < 0 → ∀ b, b < 0 → a ≠ b → (TJ5 a).2.1 ≠ (TJ5 b).2.1 := by decide +kernel
theorem tyJ5_ok : ∀ k, k < 0 → parseFieldDescriptor (TJ5 k).2.2.1 = some (tyJ5 k) := by decide +kernel
abbrev cJ5_init_d00df : ByteArray := prog_13_method_2_code
def yJ5_init_d00df : MethodName := ⟨RJ5, "<init>", "(I)V"⟩
abbrev cJ5_length_8abf5 : ByteArray := prog_13_method_6_code
def yJ5_length_8abf5 : MethodName := ⟨RJ5, "length", "()I"⟩
abbrev cJ5_ensureCapacityInternal_d00df : ByteArray := prog_13_method_9_code
def yJ5_ensureCapacityInternal_d00df : MethodName := ⟨RJ5, "ensureCapacityInternal", "(I)V"⟩
abbrev cJ5_newCapacity_0f7a4 : ByteArray := prog_13_method_10_code
def yJ5_newCapacity_0f7a4 : MethodName := ⟨RJ5, "newCapacity", "(I)I"⟩
abbrev cJ5_inflate_da8c8 : ByteArray := prog_13_method_11_code
def yJ5_inflate_da8c8 : MethodName := ⟨RJ5, "inflate", "()V"⟩
abbrev cJ5_setLength_d00df : ByteArray := prog_13_method_13_code
def yJ5_setLength_d00df : MethodName := ⟨RJ5, "setLength", "(I)V"⟩
abbrev cJ5_charAt_5068e : ByteArray := prog_13_method_14_code
def yJ5_charAt_5068e : MethodName := ⟨RJ5, "charAt", "(I)C"⟩
abbrev cJ5_append_cf1ce : ByteArray := prog_13_method_22_code
def yJ5_append_cf1ce : MethodName := ⟨RJ5, "append", "(Ljava/lang/String;)Ljava/lang/AbstractStringBuilder;"⟩
abbrev cJ5_appendNull_278bc : ByteArray := prog_13_method_26_code
def yJ5_appendNull_278bc : MethodName := ⟨RJ5, "appendNull", "()Ljava/lang/AbstractStringBuilder;"⟩
abbrev cJ5_append_3fe6f : ByteArray := prog_13_method_31_code
def yJ5_append_3fe6f : MethodName := ⟨RJ5, "append", "(C)Ljava/lang/AbstractStringBuilder;"⟩
abbrev cJ5_append_c97b9 : ByteArray := prog_13_method_32_code
def yJ5_append_c97b9 : MethodName := ⟨RJ5, "append", "(I)Ljava/lang/AbstractStringBuilder;"⟩
abbrev cJ5_getValue_6d5f1 : ByteArray := prog_13_method_64_code
def yJ5_getValue_6d5f1 : MethodName := ⟨RJ5, "getValue", "()[B"⟩
abbrev cJ5_isLatin1_aae02 : ByteArray := prog_13_method_68_code
def yJ5_isLatin1_aae02 : MethodName := ⟨RJ5, "isLatin1", "()Z"⟩
abbrev cJ5_inflateIfNeededFor_a7421 : ByteArray := prog_13_method_71_code
def yJ5_inflateIfNeededFor_a7421 : MethodName := ⟨RJ5, "inflateIfNeededFor", "(Ljava/lang/String;)V"⟩
abbrev cJ5_putStringAt_47b60 : ByteArray := prog_13_method_73_code
def yJ5_putStringAt_47b60 : MethodName := ⟨RJ5, "putStringAt", "(ILjava/lang/String;)V"⟩
def RJx2cfe8 : String := "java/lang/Appendable"
def TJx2cfe8 : u_T := fun k => match k with
  | _ => ("", "", "", false)
def tyJx2cfe8 : Nat → FieldType := fun k => match k with
  | _ => .int
abbrev wsJx2cfe80 : List Cond := u_ws RJx2cfe8 TJx2cfe8 0
theorem nmJx2cfe8 : ∀ a, a < 0 → ∀ b, b < 0 → a ≠ b → (TJx2cfe8 a).2.1 ≠ (TJx2cfe8 b).2.1 := by decide +kernel
theorem tyJx2cfe8_ok : ∀ k, k < 0 → parseFieldDescriptor (TJx2cfe8 k).2.2.1 = some (tyJx2cfe8 k) := by decide +kernel
def RJx00060 : String := "java/lang/ArrayIndexOutOfBoundsException"
def TJx00060 : u_T := fun k => match k with
  | 0 => ("java/lang/Throwable", "backtrace", "Ljava/lang/Object;", false)
  | 1 => ("java/lang/Throwable", "detailMessage", "Ljava/lang/String;", false)
  | 2 => ("java/lang/Throwable", "cause", "Ljava/lang/Throwable;", false)
  | 3 => ("java/lang/Throwable", "stackTrace", "[Ljava/lang/StackTraceElement;", false)
  | 4 => ("java/lang/Throwable", "depth", "I", false)
  | _ => ("java/lang/Throwable", "suppressedExceptions", "Ljava/util/List;", false)
def tyJx00060 : Nat → FieldType := fun k => match k with
  | 0 => .object "java/lang/Object"
  | 1 => .object "java/lang/String"
  | 2 => .object "java/lang/Throwable"
  | 3 => .array (.object "java/lang/StackTraceElement")
  | 4 => .int
  | _ => .object "java/util/List"
abbrev wsJx000600 : List Cond := u_ws RJx00060 TJx00060 6
theorem nmJx00060 : ∀ a, a < 6 → ∀ b, b < 6 → a ≠ b → (TJx00060 a).2.1 ≠ (TJx00060 b).2.1 := by decide +kernel
theorem tyJx00060_ok : ∀ k, k < 6 → parseFieldDescriptor (TJx00060 k).2.2.1 = some (tyJx00060 k) := by decide +kernel
abbrev cJx00060_init_a7421 : ByteArray := prog_16_method_2_code
def yJx00060_init_a7421 : MethodName := ⟨RJx00060, "<init>", "(Ljava/lang/String;)V"⟩
abbrev cJx00060_init_d00df : ByteArray := prog_16_method_3_code
def yJx00060_init_d00df : MethodName := ⟨RJx00060, "<init>", "(I)V"⟩
def RJx9f9b0 : String := "java/lang/CharSequence"
def TJx9f9b0 : u_T := fun k => match k with
  | _ => ("", "", "", false)
def tyJx9f9b0 : Nat → FieldType := fun k => match k with
  | _ => .int
abbrev wsJx9f9b00 : List Cond := u_ws RJx9f9b0 TJx9f9b0 0
theorem nmJx9f9b0 : ∀ a, a < 0 → ∀ b, b < 0 → a ≠ b → (TJx9f9b0 a).2.1 ≠ (TJx9f9b0 b).2.1 := by decide +kernel
theorem tyJx9f9b0_ok : ∀ k, k < 0 → parseFieldDescriptor (TJx9f9b0 k).2.2.1 = some (tyJx9f9b0 k) := by decide +kernel
def RJx8e188 : String := "java/lang/Cloneable"
def TJx8e188 : u_T := fun k => match k with
  | _ => ("", "", "", false)
def tyJx8e188 : Nat → FieldType := fun k => match k with
  | _ => .int
abbrev wsJx8e1880 : List Cond := u_ws RJx8e188 TJx8e188 0
theorem nmJx8e188 : ∀ a, a < 0 → ∀ b, b < 0 → a ≠ b → (TJx8e188 a).2.1 ≠ (TJx8e188 b).2.1 := by decide +kernel
theorem tyJx8e188_ok : ∀ k, k < 0 → parseFieldDescriptor (TJx8e188 k).2.2.1 = some (tyJx8e188 k) := by decide +kernel
def RJxb160c : String := "java/lang/Comparable"
def TJxb160c : u_T := fun k => match k with
  | _ => ("", "", "", false)
def tyJxb160c : Nat → FieldType := fun k => match k with
  | _ => .int
abbrev wsJxb160c0 : List Cond := u_ws RJxb160c TJxb160c 0
theorem nmJxb160c : ∀ a, a < 0 → ∀ b, b < 0 → a ≠ b → (TJxb160c a).2.1 ≠ (TJxb160c b).2.1 := by decide +kernel
theorem tyJxb160c_ok : ∀ k, k < 0 → parseFieldDescriptor (TJxb160c k).2.2.1 = some (tyJxb160c k) := by decide +kernel
def RJx29ce0 : String := "java/lang/Enum"
def TJx29ce0 : u_T := fun k => match k with
  | _ => ("", "", "", false)
def tyJx29ce0 : Nat → FieldType := fun k => match k with
  | _ => .int
abbrev wsJx29ce00 : List Cond := u_ws RJx29ce0 TJx29ce0 0
theorem nmJx29ce0 : ∀ a, a < 0 → ∀ b, b < 0 → a ≠ b → (TJx29ce0 a).2.1 ≠ (TJx29ce0 b).2.1 := by decide +kernel
theorem tyJx29ce0_ok : ∀ k, k < 0 → parseFieldDescriptor (TJx29ce0 k).2.2.1 = some (tyJx29ce0 k) := by decide +kernel
def RJ6 : String := "java/lang/Integer"
def TJ6 : u_T := fun k => match k with
  | _ => ("", "", "", false)
def tyJ6 : Nat → FieldType := fun k => match k with
  | _ => .int
abbrev wsJ60 : List Cond := u_ws RJ6 TJ6 0
theorem nmJ6 : ∀ a, a < 0 → ∀ b, b < 0 → a ≠ b → (TJ6 a).2.1 ≠ (TJ6 b).2.1 := by decide +kernel
theorem tyJ6_ok : ∀ k, k < 0 → parseFieldDescriptor (TJ6 k).2.2.1 = some (tyJ6 k) := by decide +kernel
abbrev cJ6_getChars_ba4f3 : ByteArray := prog_25_method_12_code
def yJ6_getChars_ba4f3 : MethodName := ⟨RJ6, "getChars", "(II[B)I"⟩
abbrev cJ6_stringSize_0f7a4 : ByteArray := prog_25_method_13_code
def yJ6_stringSize_0f7a4 : MethodName := ⟨RJ6, "stringSize", "(I)I"⟩
def RJ9 : String := "java/lang/Math"
def TJ9 : u_T := fun k => match k with
  | _ => ("", "", "", false)
def tyJ9 : Nat → FieldType := fun k => match k with
  | _ => .int
abbrev wsJ90 : List Cond := u_ws RJ9 TJ9 0
theorem nmJ9 : ∀ a, a < 0 → ∀ b, b < 0 → a ≠ b → (TJ9 a).2.1 ≠ (TJ9 b).2.1 := by decide +kernel
theorem tyJ9_ok : ∀ k, k < 0 → parseFieldDescriptor (TJ9 k).2.2.1 = some (tyJ9 k) := by decide +kernel
abbrev cJ9_max_7cf53 : ByteArray := prog_26_method_65_code
def yJ9_max_7cf53 : MethodName := ⟨RJ9, "max", "(II)I"⟩
abbrev cJ9_min_7cf53 : ByteArray := prog_26_method_69_code
def yJ9_min_7cf53 : MethodName := ⟨RJ9, "min", "(II)I"⟩
def RJxd2413 : String := "java/lang/Number"
def TJxd2413 : u_T := fun k => match k with
  | _ => ("", "", "", false)
def tyJxd2413 : Nat → FieldType := fun k => match k with
  | _ => .int
abbrev wsJxd24130 : List Cond := u_ws RJxd2413 TJxd2413 0
theorem nmJxd2413 : ∀ a, a < 0 → ∀ b, b < 0 → a ≠ b → (TJxd2413 a).2.1 ≠ (TJxd2413 b).2.1 := by decide +kernel
theorem tyJxd2413_ok : ∀ k, k < 0 → parseFieldDescriptor (TJxd2413 k).2.2.1 = some (tyJxd2413 k) := by decide +kernel
def RJ0 : String := "java/lang/String"
def TJ0 : u_T := fun k => match k with
  | 0 => ("java/lang/String", "value", "[B", true)
  | 1 => ("java/lang/String", "coder", "B", true)
  | 2 => ("java/lang/String", "hash", "I", false)
  | _ => ("java/lang/String", "hashIsZero", "Z", false)
def tyJ0 : Nat → FieldType := fun k => match k with
  | 0 => .array .byte
  | 1 => .byte
  | 2 => .int
  | _ => .boolean
abbrev wsJ00 : List Cond := u_ws RJ0 TJ0 4
theorem nmJ0 : ∀ a, a < 4 → ∀ b, b < 4 → a ≠ b → (TJ0 a).2.1 ≠ (TJ0 b).2.1 := by decide +kernel
theorem tyJ0_ok : ∀ k, k < 4 → parseFieldDescriptor (TJ0 k).2.2.1 = some (tyJ0 k) := by decide +kernel
abbrev cJ0_init_81219 : ByteArray := prog_29_method_53_code
def yJ0_init_81219 : MethodName := ⟨RJ0, "<init>", "(Ljava/lang/StringBuilder;)V"⟩
abbrev cJ0_length_8abf5 : ByteArray := prog_29_method_54_code
def yJ0_length_8abf5 : MethodName := ⟨RJ0, "length", "()I"⟩
abbrev cJ0_getBytes_840e7 : ByteArray := prog_29_method_147_code
def yJ0_getBytes_840e7 : MethodName := ⟨RJ0, "getBytes", "([BIB)V"⟩
abbrev cJ0_init_db425 : ByteArray := prog_29_method_150_code
def yJ0_init_db425 : MethodName := ⟨RJ0, "<init>", "(Ljava/lang/AbstractStringBuilder;Ljava/lang/Void;)V"⟩
abbrev cJ0_coder_7d493 : ByteArray := prog_29_method_152_code
def yJ0_coder_7d493 : MethodName := ⟨RJ0, "coder", "()B"⟩
abbrev cJ0_checkIndex_df160 : ByteArray := prog_29_method_155_code
def yJ0_checkIndex_df160 : MethodName := ⟨RJ0, "checkIndex", "(II)V"⟩
abbrev cJ0_checkBoundsOffCount_cabcc : ByteArray := prog_29_method_157_code
def yJ0_checkBoundsOffCount_cabcc : MethodName := ⟨RJ0, "checkBoundsOffCount", "(III)I"⟩
abbrev cJ0_checkBoundsBeginEnd_23922 : ByteArray := prog_29_method_158_code
def yJ0_checkBoundsBeginEnd_23922 : MethodName := ⟨RJ0, "checkBoundsBeginEnd", "(III)V"⟩
def RJ4 : String := "java/lang/StringBuilder"
def TJ4 : u_T := fun k => match k with
  | 0 => ("java/lang/AbstractStringBuilder", "value", "[B", false)
  | 1 => ("java/lang/AbstractStringBuilder", "coder", "B", false)
  | 2 => ("java/lang/AbstractStringBuilder", "maybeLatin1", "Z", false)
  | _ => ("java/lang/AbstractStringBuilder", "count", "I", false)
def tyJ4 : Nat → FieldType := fun k => match k with
  | 0 => .array .byte
  | 1 => .byte
  | 2 => .boolean
  | _ => .int
abbrev wsJ40 : List Cond := u_ws RJ4 TJ4 4
theorem nmJ4 : ∀ a, a < 4 → ∀ b, b < 4 → a ≠ b → (TJ4 a).2.1 ≠ (TJ4 b).2.1 := by decide +kernel
theorem tyJ4_ok : ∀ k, k < 4 → parseFieldDescriptor (TJ4 k).2.2.1 = some (tyJ4 k) := by decide +kernel
abbrev cJ4_init_da8c8 : ByteArray := prog_30_method_1_code
def yJ4_init_da8c8 : MethodName := ⟨RJ4, "<init>", "()V"⟩
abbrev cJ4_append_15ec4 : ByteArray := prog_30_method_7_code
def yJ4_append_15ec4 : MethodName := ⟨RJ4, "append", "(Ljava/lang/String;)Ljava/lang/StringBuilder;"⟩
abbrev cJ4_append_cf468 : ByteArray := prog_30_method_14_code
def yJ4_append_cf468 : MethodName := ⟨RJ4, "append", "(C)Ljava/lang/StringBuilder;"⟩
abbrev cJ4_append_bf812 : ByteArray := prog_30_method_15_code
def yJ4_append_bf812 : MethodName := ⟨RJ4, "append", "(I)Ljava/lang/StringBuilder;"⟩
abbrev cJ4_toString_0e30d : ByteArray := prog_30_method_42_code
def yJ4_toString_0e30d : MethodName := ⟨RJ4, "toString", "()Ljava/lang/String;"⟩
abbrev cJ4_charAt_5068e : ByteArray := prog_30_method_88_code
def yJ4_charAt_5068e : MethodName := ⟨RJ4, "charAt", "(I)C"⟩
abbrev cJ4_setLength_d00df : ByteArray := prog_30_method_89_code
def yJ4_setLength_d00df : MethodName := ⟨RJ4, "setLength", "(I)V"⟩
abbrev cJ4_length_8abf5 : ByteArray := prog_30_method_93_code
def yJ4_length_8abf5 : MethodName := ⟨RJ4, "length", "()I"⟩
def RJx7c733 : String := "java/lang/StringIndexOutOfBoundsException"
def TJx7c733 : u_T := fun k => match k with
  | 0 => ("java/lang/Throwable", "backtrace", "Ljava/lang/Object;", false)
  | 1 => ("java/lang/Throwable", "detailMessage", "Ljava/lang/String;", false)
  | 2 => ("java/lang/Throwable", "cause", "Ljava/lang/Throwable;", false)
  | 3 => ("java/lang/Throwable", "stackTrace", "[Ljava/lang/StackTraceElement;", false)
  | 4 => ("java/lang/Throwable", "depth", "I", false)
  | _ => ("java/lang/Throwable", "suppressedExceptions", "Ljava/util/List;", false)
def tyJx7c733 : Nat → FieldType := fun k => match k with
  | 0 => .object "java/lang/Object"
  | 1 => .object "java/lang/String"
  | 2 => .object "java/lang/Throwable"
  | 3 => .array (.object "java/lang/StackTraceElement")
  | 4 => .int
  | _ => .object "java/util/List"
abbrev wsJx7c7330 : List Cond := u_ws RJx7c733 TJx7c733 6
theorem nmJx7c733 : ∀ a, a < 6 → ∀ b, b < 6 → a ≠ b → (TJx7c733 a).2.1 ≠ (TJx7c733 b).2.1 := by decide +kernel
theorem tyJx7c733_ok : ∀ k, k < 6 → parseFieldDescriptor (TJx7c733 k).2.2.1 = some (tyJx7c733 k) := by decide +kernel
abbrev cJx7c733_init_d00df : ByteArray := prog_31_method_3_code
def yJx7c733_init_d00df : MethodName := ⟨RJx7c733, "<init>", "(I)V"⟩
def RJ1 : String := "java/lang/StringLatin1"
def TJ1 : u_T := fun k => match k with
  | _ => ("", "", "", false)
def tyJ1 : Nat → FieldType := fun k => match k with
  | _ => .int
abbrev wsJ10 : List Cond := u_ws RJ1 TJ1 0
theorem nmJ1 : ∀ a, a < 0 → ∀ b, b < 0 → a ≠ b → (TJ1 a).2.1 ≠ (TJ1 b).2.1 := by decide +kernel
theorem tyJ1_ok : ∀ k, k < 0 → parseFieldDescriptor (TJ1 k).2.2.1 = some (tyJ1 k) := by decide +kernel
abbrev cJ1_canEncode_fc78d : ByteArray := prog_32_method_3_code
def yJ1_canEncode_fc78d : MethodName := ⟨RJ1, "canEncode", "(C)Z"⟩
abbrev cJ1_fillNull_b72d1 : ByteArray := prog_32_method_48_code
def yJ1_fillNull_b72d1 : MethodName := ⟨RJ1, "fillNull", "([BII)V"⟩
abbrev cJ1_inflate_0e8fd : ByteArray := prog_32_method_50_code
def yJ1_inflate_0e8fd : MethodName := ⟨RJ1, "inflate", "([BI[BII)V"⟩
def RJ2 : String := "java/lang/StringUTF16"
def TJ2 : u_T := fun k => match k with
  | _ => ("", "", "", false)
def tyJ2 : Nat → FieldType := fun k => match k with
  | _ => .int
abbrev wsJ20 : List Cond := u_ws RJ2 TJ2 0
theorem nmJ2 : ∀ a, a < 0 → ∀ b, b < 0 → a ≠ b → (TJ2 a).2.1 ≠ (TJ2 b).2.1 := by decide +kernel
theorem tyJ2_ok : ∀ k, k < 0 → parseFieldDescriptor (TJ2 k).2.2.1 = some (tyJ2 k) := by decide +kernel
abbrev cJ2_newBytesFor_77867 : ByteArray := prog_33_method_2_code
def yJ2_newBytesFor_77867 : MethodName := ⟨RJ2, "newBytesFor", "(I)[B"⟩
abbrev cJ2_newBytesLength_0f7a4 : ByteArray := prog_33_method_3_code
def yJ2_newBytesLength_0f7a4 : MethodName := ⟨RJ2, "newBytesLength", "(I)I"⟩
abbrev cJ2_putChar_b72d1 : ByteArray := prog_33_method_4_code
def yJ2_putChar_b72d1 : MethodName := ⟨RJ2, "putChar", "([BII)V"⟩
abbrev cJ2_getChar_3b067 : ByteArray := prog_33_method_5_code
def yJ2_getChar_3b067 : MethodName := ⟨RJ2, "getChar", "([BI)C"⟩
abbrev cJ2_length_9d52b : ByteArray := prog_33_method_6_code
def yJ2_length_9d52b : MethodName := ⟨RJ2, "length", "([B)I"⟩
abbrev cJ2_coderFromArrayLen_85cad : ByteArray := prog_33_method_15_code
def yJ2_coderFromArrayLen_85cad : MethodName := ⟨RJ2, "coderFromArrayLen", "([BI)B"⟩
abbrev cJ2_compress_39247 : ByteArray := prog_33_method_17_code
def yJ2_compress_39247 : MethodName := ⟨RJ2, "compress", "([BII)[B"⟩
abbrev cJ2_compress_5af95 : ByteArray := prog_33_method_22_code
def yJ2_compress_5af95 : MethodName := ⟨RJ2, "compress", "([BI[BII)I"⟩
abbrev cJ2_fillNull_b72d1 : ByteArray := prog_33_method_70_code
def yJ2_fillNull_b72d1 : MethodName := ⟨RJ2, "fillNull", "([BII)V"⟩
abbrev cJ2_putCharSB_b72d1 : ByteArray := prog_33_method_71_code
def yJ2_putCharSB_b72d1 : MethodName := ⟨RJ2, "putCharSB", "([BII)V"⟩
abbrev cJ2_getChars_46870 : ByteArray := prog_33_method_77_code
def yJ2_getChars_46870 : MethodName := ⟨RJ2, "getChars", "(III[B)I"⟩
abbrev cJ2_putCharsAt_cd4e5 : ByteArray := prog_33_method_81_code
def yJ2_putCharsAt_cd4e5 : MethodName := ⟨RJ2, "putCharsAt", "([BICCCC)I"⟩
abbrev cJ2_inflate_0e8fd : ByteArray := prog_33_method_86_code
def yJ2_inflate_0e8fd : MethodName := ⟨RJ2, "inflate", "([BI[BII)V"⟩
abbrev cJ2_getChars_ba4f3 : ByteArray := prog_33_method_89_code
def yJ2_getChars_ba4f3 : MethodName := ⟨RJ2, "getChars", "(II[B)I"⟩
abbrev cJ2_checkIndex_2214a : ByteArray := prog_33_method_91_code
def yJ2_checkIndex_2214a : MethodName := ⟨RJ2, "checkIndex", "(I[B)V"⟩
abbrev cJ2_checkBoundsBeginEnd_d044e : ByteArray := prog_33_method_93_code
def yJ2_checkBoundsBeginEnd_d044e : MethodName := ⟨RJ2, "checkBoundsBeginEnd", "(II[B)V"⟩
abbrev cJ2_checkBoundsOffCount_d044e : ByteArray := prog_33_method_94_code
def yJ2_checkBoundsOffCount_d044e : MethodName := ⟨RJ2, "checkBoundsOffCount", "(II[B)V"⟩
def RJ10 : String := "java/lang/System"
def TJ10 : u_T := fun k => match k with
  | _ => ("", "", "", false)
def tyJ10 : Nat → FieldType := fun k => match k with
  | _ => .int
abbrev wsJ100 : List Cond := u_ws RJ10 TJ10 0
theorem nmJ10 : ∀ a, a < 0 → ∀ b, b < 0 → a ≠ b → (TJ10 a).2.1 ≠ (TJ10 b).2.1 := by decide +kernel
theorem tyJ10_ok : ∀ k, k < 0 → parseFieldDescriptor (TJ10 k).2.2.1 = some (tyJ10 k) := by decide +kernel
def RJxfd54e : String := "java/lang/constant/Constable"
def TJxfd54e : u_T := fun k => match k with
  | _ => ("", "", "", false)
def tyJxfd54e : Nat → FieldType := fun k => match k with
  | _ => .int
abbrev wsJxfd54e0 : List Cond := u_ws RJxfd54e TJxfd54e 0
theorem nmJxfd54e : ∀ a, a < 0 → ∀ b, b < 0 → a ≠ b → (TJxfd54e a).2.1 ≠ (TJxfd54e b).2.1 := by decide +kernel
theorem tyJxfd54e_ok : ∀ k, k < 0 → parseFieldDescriptor (TJxfd54e k).2.2.1 = some (tyJxfd54e k) := by decide +kernel
def RJx3cf43 : String := "java/lang/constant/ConstantDesc"
def TJx3cf43 : u_T := fun k => match k with
  | _ => ("", "", "", false)
def tyJx3cf43 : Nat → FieldType := fun k => match k with
  | _ => .int
abbrev wsJx3cf430 : List Cond := u_ws RJx3cf43 TJx3cf43 0
theorem nmJx3cf43 : ∀ a, a < 0 → ∀ b, b < 0 → a ≠ b → (TJx3cf43 a).2.1 ≠ (TJx3cf43 b).2.1 := by decide +kernel
theorem tyJx3cf43_ok : ∀ k, k < 0 → parseFieldDescriptor (TJx3cf43 k).2.2.1 = some (tyJx3cf43 k) := by decide +kernel
def RJ7 : String := "java/util/Arrays"
def TJ7 : u_T := fun k => match k with
  | _ => ("", "", "", false)
def tyJ7 : Nat → FieldType := fun k => match k with
  | _ => .int
abbrev wsJ70 : List Cond := u_ws RJ7 TJ7 0
theorem nmJ7 : ∀ a, a < 0 → ∀ b, b < 0 → a ≠ b → (TJ7 a).2.1 ≠ (TJ7 b).2.1 := by decide +kernel
theorem tyJ7_ok : ∀ k, k < 0 → parseFieldDescriptor (TJ7 k).2.2.1 = some (tyJ7 k) := by decide +kernel
abbrev cJ7_rangeCheck_23922 : ByteArray := prog_39_method_30_code
def yJ7_rangeCheck_23922 : MethodName := ⟨RJ7, "rangeCheck", "(III)V"⟩
abbrev cJ7_fill_eb02e : ByteArray := prog_39_method_110_code
def yJ7_fill_eb02e : MethodName := ⟨RJ7, "fill", "([BIIB)V"⟩
abbrev cJ7_copyOf_9075b : ByteArray := prog_39_method_121_code
def yJ7_copyOf_9075b : MethodName := ⟨RJ7, "copyOf", "([BI)[B"⟩
abbrev cJ7_checkLength_df160 : ByteArray := prog_39_method_131_code
def yJ7_checkLength_df160 : MethodName := ⟨RJ7, "checkLength", "(II)V"⟩
abbrev cJ7_copyOfRange_39247 : ByteArray := prog_39_method_132_code
def yJ7_copyOfRange_39247 : MethodName := ⟨RJ7, "copyOfRange", "([BII)[B"⟩
abbrev cJ7_copyOfRangeByte_39247 : ByteArray := prog_39_method_133_code
def yJ7_copyOfRangeByte_39247 : MethodName := ⟨RJ7, "copyOfRangeByte", "([BII)[B"⟩
def RJ8 : String := "jdk/internal/util/ArraysSupport"
def TJ8 : u_T := fun k => match k with
  | _ => ("", "", "", false)
def tyJ8 : Nat → FieldType := fun k => match k with
  | _ => .int
abbrev wsJ80 : List Cond := u_ws RJ8 TJ8 0
theorem nmJ8 : ∀ a, a < 0 → ∀ b, b < 0 → a ≠ b → (TJ8 a).2.1 ≠ (TJ8 b).2.1 := by decide +kernel
theorem tyJ8_ok : ∀ k, k < 0 → parseFieldDescriptor (TJ8 k).2.2.1 = some (tyJ8 k) := by decide +kernel
abbrev cJ8_newLength_cabcc : ByteArray := prog_41_method_27_code
def yJ8_newLength_cabcc : MethodName := ⟨RJ8, "newLength", "(III)I"⟩
abbrev cJ8_hugeLength_7cf53 : ByteArray := prog_41_method_28_code
def yJ8_hugeLength_7cf53 : MethodName := ⟨RJ8, "hugeLength", "(II)I"⟩
def RJ3 : String := "jdk/internal/util/Preconditions"
def TJ3 : u_T := fun k => match k with
  | _ => ("", "", "", false)
def tyJ3 : Nat → FieldType := fun k => match k with
  | _ => .int
abbrev wsJ30 : List Cond := u_ws RJ3 TJ3 0
theorem nmJ3 : ∀ a, a < 0 → ∀ b, b < 0 → a ≠ b → (TJ3 a).2.1 ≠ (TJ3 b).2.1 := by decide +kernel
theorem tyJ3_ok : ∀ k, k < 0 → parseFieldDescriptor (TJ3 k).2.2.1 = some (tyJ3 k) := by decide +kernel
abbrev cJ3_checkIndex_8e157 : ByteArray := prog_42_method_11_code
def yJ3_checkIndex_8e157 : MethodName := ⟨RJ3, "checkIndex", "(IILjava/util/function/BiFunction;)I"⟩
abbrev cJ3_checkFromToIndex_8c36e : ByteArray := prog_42_method_12_code
def yJ3_checkFromToIndex_8c36e : MethodName := ⟨RJ3, "checkFromToIndex", "(IIILjava/util/function/BiFunction;)I"⟩
abbrev cJ3_checkFromIndexSize_8c36e : ByteArray := prog_42_method_13_code
def yJ3_checkFromIndexSize_8c36e : MethodName := ⟨RJ3, "checkFromIndexSize", "(IIILjava/util/function/BiFunction;)I"⟩
def RL : String := "BellCoresLaw"
abbrev cL_coal : ByteArray := method_3_code
def yL_coal : MethodName := ⟨RL, "coal", "(LBellCores;I[J)I"⟩
abbrev cL_bronze : ByteArray := method_4_code
def yL_bronze : MethodName := ⟨RL, "bronze", "(LBellCores;I[J)I"⟩
abbrev cL_mould : ByteArray := method_5_code
def yL_mould : MethodName := ⟨RL, "mould", "(LBellCores;II[J)I"⟩
abbrev cL_smash : ByteArray := method_6_code
def yL_smash : MethodName := ⟨RL, "smash", "(LBellCores;I[J)I"⟩
abbrev cL_mouldOf : ByteArray := method_7_code
def yL_mouldOf : MethodName := ⟨RL, "mouldOf", "(LBellCores;II[J)I"⟩
abbrev cL_rack : ByteArray := method_8_code
def yL_rack : MethodName := ⟨RL, "rack", "(LBellCores;I[J)I"⟩
abbrev cL_strike : ByteArray := method_9_code
def yL_strike : MethodName := ⟨RL, "strike", "(LBellCores;I[J)I"⟩
abbrev cL_rackOf : ByteArray := method_10_code
def yL_rackOf : MethodName := ⟨RL, "rackOf", "(LBellCores;II[J)I"⟩
abbrev cL_pour : ByteArray := method_11_code
def yL_pour : MethodName := ⟨RL, "pour", "(LBellCores;II[J)I"⟩
abbrev cL_pass : ByteArray := method_12_code
def yL_pass : MethodName := ⟨RL, "pass", "(LBellCores;I[J)I"⟩
abbrev cL_take : ByteArray := method_13_code
def yL_take : MethodName := ⟨RL, "take", "(LBellCores;I[J)I"⟩
abbrev cL_ring : ByteArray := method_14_code
def yL_ring : MethodName := ⟨RL, "ring", "(LBellCores;I[J)I"⟩
abbrev cL_file : ByteArray := method_15_code
def yL_file : MethodName := ⟨RL, "file", "(LBellCores;II[J)I"⟩
abbrev cL_recast : ByteArray := method_16_code
def yL_recast : MethodName := ⟨RL, "recast", "(LBellCores;I[J)I"⟩
abbrev cL_bellOf : ByteArray := method_17_code
def yL_bellOf : MethodName := ⟨RL, "bellOf", "(LBellCores;II[J)I"⟩
abbrev cL_note : ByteArray := method_18_code
def yL_note : MethodName := ⟨RL, "note", "(LBellCores;IZ[J)I"⟩
abbrev cL_wouldCrack : ByteArray := method_19_code
def yL_wouldCrack : MethodName := ⟨RL, "wouldCrack", "(LBellCores;II[J)I"⟩
abbrev cL_coldIn : ByteArray := method_20_code
def yL_coldIn : MethodName := ⟨RL, "coldIn", "(LBellCores;I[J)I"⟩
abbrev cL_peal : ByteArray := method_21_code
def yL_peal : MethodName := ⟨RL, "peal", "(LBellCores;IZ[J)I"⟩
abbrev cL_longest : ByteArray := method_22_code
def yL_longest : MethodName := ⟨RL, "longest", "(LBellCores;[J)I"⟩
abbrev cL_ranked : ByteArray := method_23_code
def yL_ranked : MethodName := ⟨RL, "ranked", "(LBellCores;I[J)I"⟩
abbrev cL_first : ByteArray := method_24_code
def yL_first : MethodName := ⟨RL, "first", "(LBellCores;[J)I"⟩
abbrev cL_line : ByteArray := method_25_code
def yL_line : MethodName := ⟨RL, "line", "(LBellCores;I[J)I"⟩
abbrev cL_rackLine : ByteArray := method_26_code
def yL_rackLine : MethodName := ⟨RL, "rackLine", "(LBellCores;I[J)I"⟩
abbrev cL_character : ByteArray := method_27_code
def yL_character : MethodName := ⟨RL, "character", "(LBellCores;I[J)I"⟩
abbrev cL_append : ByteArray := method_28_code
def yL_append : MethodName := ⟨RL, "append", "(LBellCores;C[J)I"⟩
abbrev cL_run : ByteArray := method_29_code
def yL_run : MethodName := ⟨RL, "run", "(LBellCores;[J)I"⟩
abbrev cL_refusal : ByteArray := method_30_code
def yL_refusal : MethodName := ⟨RL, "refusal", "(LBellCores;Z[J)I"⟩
abbrev cL_account : ByteArray := method_31_code
def yL_account : MethodName := ⟨RL, "account", "(LBellCores;I[J)I"⟩
abbrev cL_meanNote : ByteArray := method_32_code
def yL_meanNote : MethodName := ⟨RL, "meanNote", "(LBellCores;[D)I"⟩
abbrev cL_soundShare : ByteArray := method_33_code
def yL_soundShare : MethodName := ⟨RL, "soundShare", "(LBellCores;[D)I"⟩
abbrev cL_undo : ByteArray := method_34_code
def yL_undo : MethodName := ⟨RL, "undo", "(LBellCores;[J)I"⟩
abbrev cL_restore : ByteArray := method_35_code
def yL_restore : MethodName := ⟨RL, "restore", "(LBellCores;[J)I"⟩
abbrev cL_law : ByteArray := code
def yL_law : MethodName := ⟨RL, "law", "([I)Z"⟩
def wsX6_init : List Cond := .code yX6_init cX6_init 3 none :: ([.methodLink RX6 1 objectInit, .instanceMethod objectInit, .code objectInit ⟨#[0xb1]⟩ 1 none, .fieldLink RX6 7 "BellCores$Table" "rows" "I", .methodLink RX6 13 Lib.Math.max.name, .static Lib.Math.max.name, .initialized "java/lang/Math", .code Lib.Math.max.name Lib.Math.max.code 2 (some .int), .fieldLink RX6 19 "BellCores$Table" "room" "I", .fieldLink RX6 22 "BellCores$Table" "width" "I", .arrayClass .int, .fieldLink RX6 25 "BellCores$Table" "cells" "[I"] ++ wsX60)
def wsX0_init_r1 : List Cond := [Cond.methodLink RX0 3 objectInit, Cond.instanceMethod objectInit, Cond.code objectInit ⟨#[0xb1]⟩ 1 none, Cond.classLink RX0 9 RX6, Cond.instantiable RX6 4, Cond.initialized RX6, Cond.fieldLink RX0 14 "BellCores$Foundry" "moulds" "LBellCores$Table;", Cond.fieldLink RX0 20 "BellCores$Foundry" "racks" "LBellCores$Table;", Cond.fieldLink RX0 23 "BellCores$Foundry" "bells" "LBellCores$Table;", Cond.fieldLink RX0 26 "BellCores$Foundry" "heat" "I", Cond.fieldLink RX0 30 "BellCores$Foundry" "pounds" "I", Cond.fieldLink RX0 33 "BellCores$Foundry" "brought" "I", Cond.fieldLink RX0 36 "BellCores$Foundry" "lost" "I", Cond.fieldLink RX0 39 "BellCores$Foundry" "loadsBurnt" "I", Cond.fieldLink RX0 42 "BellCores$Foundry" "hoursGone" "I", Cond.fieldLink RX0 45 "BellCores$Foundry" "bellsPoured" "I", Cond.methodLink RX0 11 yX6_init, Cond.instanceMethod yX6_init, Cond.code yX6_init cX6_init 3 none, Cond.methodLink RX6 1 objectInit, Cond.fieldLink RX6 7 "BellCores$Table" "rows" "I", Cond.methodLink RX6 13 Lib.Math.max.name, Cond.static Lib.Math.max.name, Cond.initialized "java/lang/Math"]
def wsX0_init_r2 : List Cond := [Cond.code Lib.Math.max.name Lib.Math.max.code 2 (some .int), Cond.fieldLink RX6 19 "BellCores$Table" "room" "I", Cond.fieldLink RX6 22 "BellCores$Table" "width" "I", Cond.arrayClass .int, Cond.fieldLink RX6 25 "BellCores$Table" "cells" "[I"]
def wsX0_init : List Cond := .code yX0_init cX0_init 1 none :: ((wsX0_init_r1 ++ wsX0_init_r2) ++ wsX60 ++ wsX00)
def wsX6_copyFrom : List Cond := .code yX6_copyFrom cX6_copyFrom 3 none :: ([.fieldLink RX6 19 "BellCores$Table" "room" "I", .fieldLink RX6 22 "BellCores$Table" "width" "I", .fieldLink RX6 7 "BellCores$Table" "rows" "I", .fieldLink RX6 25 "BellCores$Table" "cells" "[I"] ++ wsX60 ++ (vx_atM "java/lang/ArrayIndexOutOfBoundsException" ["java/lang/IndexOutOfBoundsException", "java/lang/RuntimeException", "java/lang/Exception"]).filter goodWord)
def wsX0_copyFrom : List Cond := .code yX0_copyFrom cX0_copyFrom 2 none :: ([.fieldLink RX0 14 "BellCores$Foundry" "moulds" "LBellCores$Table;", .fieldLink RX0 20 "BellCores$Foundry" "racks" "LBellCores$Table;", .fieldLink RX0 23 "BellCores$Foundry" "bells" "LBellCores$Table;", .fieldLink RX0 26 "BellCores$Foundry" "heat" "I", .fieldLink RX0 30 "BellCores$Foundry" "pounds" "I", .fieldLink RX0 33 "BellCores$Foundry" "brought" "I", .fieldLink RX0 36 "BellCores$Foundry" "lost" "I", .fieldLink RX0 39 "BellCores$Foundry" "loadsBurnt" "I", .fieldLink RX0 42 "BellCores$Foundry" "hoursGone" "I", .fieldLink RX0 45 "BellCores$Foundry" "bellsPoured" "I", .methodLink RX0 48 yX6_copyFrom, .instanceMethod yX6_copyFrom, .selects RX6 yX6_copyFrom yX6_copyFrom, .initialized RX6, .code yX6_copyFrom cX6_copyFrom 3 none, .fieldLink RX6 19 "BellCores$Table" "room" "I", .fieldLink RX6 22 "BellCores$Table" "width" "I", .fieldLink RX6 7 "BellCores$Table" "rows" "I", .fieldLink RX6 25 "BellCores$Table" "cells" "[I"] ++ wsX00 ++ wsX60 ++ (vx_atM "java/lang/ArrayIndexOutOfBoundsException" ["java/lang/IndexOutOfBoundsException", "java/lang/RuntimeException", "java/lang/Exception"]).filter goodWord)
def wsX0_burnCoal : List Cond := .code yX0_burnCoal cX0_burnCoal 2 none :: ([.fieldLink RX0 26 "BellCores$Foundry" "heat" "I", .methodLink RX0 52 Lib.Math.min.name, .static Lib.Math.min.name, .initialized "java/lang/Math", .code Lib.Math.min.name Lib.Math.min.code 2 (some .int), .fieldLink RX0 39 "BellCores$Foundry" "loadsBurnt" "I"] ++ wsX00)
def wsX5_keep : List Cond := .code yX5_keep cX5_keep 3 (some .boolean) :: ([.fieldLink RX5 7 "BellCores$Refusal" "reason" "I", .fieldLink RX5 13 "BellCores$Refusal" "detail" "I"] ++ wsX50)
def wsX0_refusesPounds : List Cond := .code yX0_refusesPounds cX0_refusesPounds 3 (some .boolean) :: ([.fieldLink RX0 30 "BellCores$Foundry" "pounds" "I", .methodLink RX0 58 yX5_keep, .instanceMethod yX5_keep, .selects RX5 yX5_keep yX5_keep, .initialized RX5, .code yX5_keep cX5_keep 3 (some .boolean), .fieldLink RX5 7 "BellCores$Refusal" "reason" "I", .fieldLink RX5 13 "BellCores$Refusal" "detail" "I"] ++ wsX00 ++ wsX50)
def wsX0_bringBronze : List Cond := .code yX0_bringBronze cX0_bringBronze 2 none :: ([.fieldLink RX0 30 "BellCores$Foundry" "pounds" "I", .fieldLink RX0 33 "BellCores$Foundry" "brought" "I"] ++ wsX00)
abbrev vwCl : List vw_C := [(RJ0, TJ0, 4), (RJ4, TJ4, 4), (RJx00060, TJx00060, 6), (RJx7c733, TJx7c733, 6), (RX0, TX0, 10), (RX1, TX1, 1), (RX2, TX2, 3), (RX4, TX4, 7), (RX5, TX5, 2), (RX6, TX6, 4), (RX7, TX7, 4), (RX8, TX8, 10), (RX9, TX9, 19)]
end
section
/-! ===== the abstract machine: a world is a list of cells, a reference is a place in it; .retAddr j is the j-th thing of the start (a static array, a constant, the script) ===== -/
abbrev gT : Type := Launch × State × (Array Value × va_G) × List (ClassId × FieldType) × (Nat → Value) × Nat × (Nat → Int32)
abbrev gT.l (G : gT) : Launch := G.1
abbrev gT.s0 (G : gT) : State := G.2.1
abbrev gT.a0 (G : gT) : Array Value := G.2.2.1.1
abbrev gT.D (G : gT) : va_G := G.2.2.1.2
abbrev gT.tys (G : gT) : List (ClassId × FieldType) := G.2.2.2.1
abbrev gT.sad (G : gT) : Nat → Value := G.2.2.2.2.1
abbrev gT.L (G : gT) : Nat := G.2.2.2.2.2.1
abbrev gT.xs (G : gT) : Nat → Int32 := G.2.2.2.2.2.2
abbrev gT.bs (G : gT) : Nat := G.s0.heap.size
abbrev xW : Type := List va_E
def rV (G : gT) (ad : List Nat) (v c : Value) : Prop := match v with
  | .ref k => ∃ a, ad[k]? = some a ∧ c = .ref a
  | .retAddr j => c = G.sad j
  | v => c = v
def rVs (G : gT) (ad : List Nat) : List Value → List Value → Prop
  | [], cs => cs = []
  | v :: vs, cs => ∃ c cs', cs = c :: cs' ∧ rV G ad v c ∧ rVs G ad vs cs'
def rR (ad : List Nat) (f : Nat → Option Nat) (g : Nat → Option Nat) : Prop := ∀ i : Nat, match f i with
  | none => g i = none
  | some k => ∃ a, ad[k]? = some a ∧ g i = some a
def rA (ad : List Nat) (d d' : vp_A) : Prop := match d.2 with
  | .inr (.inr (.inr (.inr f))) => ∃ g, d' = (d.1, .inr (.inr (.inr (.inr g)))) ∧ rR ad f g
  | _ => d' = d
def rE (G : gT) (ad : List Nat) (e e' : va_E) : Prop := match e with
  | .inl (t, d) => ∃ q d', G.tys[t]? = some q ∧ e' = .inl (q.1, d') ∧ rA ad d d'
  | .inr (ci, fs) => ∃ fs', e' = .inr (ci, fs') ∧ rVs G ad fs fs'
def rW (G : gT) (ad : List Nat) (w : xW) (ws : va_W) : Prop := ad.length = w.length ∧ ws.length = w.length ∧
  ∀ (i : Nat) (e : va_E), w[i]? = some e → ∃ a e', ad[i]? = some a ∧ ws[i]? = some (a, e') ∧ rE G ad e e'
def rO (G : gT) (ad : List Nat) (v c : Option Value) : Prop := match v with
  | none => c = none
  | some v => ∃ c', c = some c' ∧ rV G ad v c'
/-- the locals that are known -/
def rL (G : gT) (ad : List Nat) (ls : List (Option Value)) (lc : Array Slot) (nL : Nat) : Prop := lc.size = nL ∧ lv_wf lc ∧ ∀ (i : Nat) (v : Value), ls[i]? = some (some v) → ∃ c, rV G ad v c ∧ lc[i]? = some (.val c)
/-- more addresses -/
def adM (ad ad' : List Nat) : Prop := ∀ (i a : Nat), ad[i]? = some a → ad'[i]? = some a
theorem adM.rf {ad : List Nat} : adM ad ad := fun _ _ h => h
theorem adM.tr {a b c : List Nat} (h : adM a b) (h2 : adM b c) : adM a c := fun i x q => h2 i x (h i x q)
theorem adM.app {a b : List Nat} : adM a (a ++ b) := fun i x h => by
  rw [List.getElem?_append_left (List.getElem?_eq_some_iff.mp h).1]; exact h
theorem rV.mono {G : gT} {ad ad' : List Nat} {v c : Value} (h : rV G ad v c) (m : adM ad ad') : rV G ad' v c := by
  cases v <;> first | exact h | (obtain ⟨a, h1, h2⟩ := h; exact ⟨a, m _ _ h1, h2⟩)
theorem rVs.mono {G : gT} {ad ad' : List Nat} (m : adM ad ad') : ∀ {vs cs : List Value}, rVs G ad vs cs → rVs G ad' vs cs
  | [], _, h => h
  | _ :: _, _, ⟨c, cs', e, h1, h2⟩ => ⟨c, cs', e, h1.mono m, rVs.mono m h2⟩
theorem rVs.len {G : gT} {ad : List Nat} : ∀ {vs cs : List Value}, rVs G ad vs cs → cs.length = vs.length
  | [], _, h => by rw [show _ = [] from h]
  | _ :: _, _, ⟨c, cs', e, _, h2⟩ => by rw [e, List.length_cons, List.length_cons, h2.len]
theorem rVs.at {G : gT} {ad : List Nat} : ∀ {vs cs : List Value}, rVs G ad vs cs → ∀ {i : Nat} {v : Value}, vs[i]? = some v → ∃ c, cs[i]? = some c ∧ rV G ad v c
  | [], _, _, i, v, h => by simp at h
  | _ :: _, _, ⟨c, cs', e, h1, h2⟩, 0, v, h => by
    subst e
    simp at h
    subst h
    exact ⟨c, by simp, h1⟩
  | _ :: _, _, ⟨c, cs', e, h1, h2⟩, i + 1, v, h => by
    subst e
    simp at h
    obtain ⟨c2, a, b⟩ := rVs.at h2 h
    exact ⟨c2, by simpa using a, b⟩
theorem rVs.set {G : gT} {ad : List Nat} : ∀ {vs cs : List Value}, rVs G ad vs cs → ∀ {i : Nat} {v c : Value}, rV G ad v c → rVs G ad (vs.set i v) (cs.set i c)
  | [], _, h, i, v, c, _ => by rw [show _ = [] from h]; rfl
  | _ :: _, _, ⟨c1, cs', e, h1, h2⟩, 0, v, c, h => by subst e; exact ⟨c, cs', rfl, h, h2⟩
  | _ :: _, _, ⟨c1, cs', e, h1, h2⟩, i + 1, v, c, h => by subst e; exact ⟨c1, cs'.set i c, rfl, h1, rVs.set h2 h⟩
theorem rVs.app {G : gT} {ad : List Nat} : ∀ {vs cs vs2 cs2 : List Value}, rVs G ad vs cs → rVs G ad vs2 cs2 → rVs G ad (vs ++ vs2) (cs ++ cs2)
  | [], _, _, _, h, h2 => by rw [show _ = [] from h]; exact h2
  | _ :: _, _, _, _, ⟨c1, cs', e, h1, h3⟩, h2 => by subst e; exact ⟨c1, _, rfl, h1, rVs.app h3 h2⟩
theorem rVs.rev {G : gT} {ad : List Nat} : ∀ {vs cs : List Value}, rVs G ad vs cs → rVs G ad vs.reverse cs.reverse
  | [], _, h => by rw [show _ = [] from h]; rfl
  | _ :: _, _, ⟨c1, cs', e, h1, h3⟩ => by
    subst e
    rw [List.reverse_cons, List.reverse_cons]
    exact h3.rev.app ⟨c1, [], rfl, h1, rfl⟩
theorem rR.mono {ad ad' : List Nat} {f g : Nat → Option Nat} (h : rR ad f g) (m : adM ad ad') : rR ad' f g := fun i => by
  have h := h i
  cases hf : f i with
  | none => rw [hf] at h; exact h
  | some k => rw [hf] at h; obtain ⟨a, h1, h2⟩ := h; exact ⟨a, m _ _ h1, h2⟩
theorem rA.mono {ad ad' : List Nat} {d d' : vp_A} (h : rA ad d d') (m : adM ad ad') : rA ad' d d' := by
  obtain ⟨n, x⟩ := d
  rcases x with f | f | f | f | f
  · exact h
  · exact h
  · exact h
  · exact h
  · obtain ⟨g, h1, h2⟩ := h
    exact ⟨g, h1, h2.mono m⟩
theorem rA.one {ad : List Nat} {d d' : vp_A} (h : rA ad d d') : d'.1 = d.1 := by
  obtain ⟨n, x⟩ := d
  rcases x with f | f | f | f | f
  · rw [show d' = _ from h]
  · rw [show d' = _ from h]
  · rw [show d' = _ from h]
  · rw [show d' = _ from h]
  · obtain ⟨g, h1, h2⟩ := h
    rw [h1]
theorem rE.mono {G : gT} {ad ad' : List Nat} {e e' : va_E} (h : rE G ad e e') (m : adM ad ad') : rE G ad' e e' := by
  rcases e with ⟨t, d⟩ | ⟨ci, fs⟩
  · obtain ⟨q, d', h1, h2, h3⟩ := h
    exact ⟨q, d', h1, h2, h3.mono m⟩
  · obtain ⟨fs', h1, h2⟩ := h
    exact ⟨fs', h1, h2.mono m⟩
theorem rO.mono {G : gT} {ad ad' : List Nat} {v c : Option Value} (h : rO G ad v c) (m : adM ad ad') : rO G ad' v c := by
  cases v with
  | none => exact h
  | some v => obtain ⟨c', h1, h2⟩ := h; exact ⟨c', h1, h2.mono m⟩
theorem rL.mono {G : gT} {ad ad' : List Nat} {ls : List (Option Value)} {lc : Array Slot} {nL : Nat} (h : rL G ad ls lc nL) (m : adM ad ad') : rL G ad' ls lc nL :=
  ⟨h.1, h.2.1, fun i v hv => by obtain ⟨c, h1, h2⟩ := h.2.2 i v hv; exact ⟨c, h1.mono m, h2⟩⟩
theorem rV.cat {G : gT} {ad : List Nat} {v c : Value} (hs : ∀ j, (G.sad j).category = 1) (h : rV G ad v c) : c.category = v.category := by
  cases v with
  | ref k => obtain ⟨a, h1, h2⟩ := h; rw [h2]; rfl
  | retAddr j => rw [show c = _ from h, hs]; rfl
  | int x => rw [show c = _ from h]
  | long x => rw [show c = _ from h]
  | float x => rw [show c = _ from h]
  | double x => rw [show c = _ from h]
  | null => rw [show c = _ from h]
theorem rW.at {G : gT} {ad : List Nat} {w : xW} {ws : va_W} (h : rW G ad w ws) {i : Nat} {e : va_E} (he : w[i]? = some e) : ∃ a e', ad[i]? = some a ∧ ws[i]? = some (a, e') ∧ rE G ad e e' := h.2.2 i e he
theorem rW.set {G : gT} {ad : List Nat} {w : xW} {ws : va_W} (h : rW G ad w ws) {i a : Nat} {e e' : va_E} (ha : ad[i]? = some a) (he : rE G ad e e') : rW G ad (w.set i e) (ws.set i (a, e')) := by
  refine ⟨by rw [List.length_set]; exact h.1, by rw [List.length_set, List.length_set]; exact h.2.1, fun j x hx => ?_⟩
  by_cases hj : i = j
  · subst hj
    have hlt : i < w.length := by
      rw [← h.1]; exact (List.getElem?_eq_some_iff.mp ha).1
    rw [List.getElem?_set_self hlt] at hx
    cases hx
    exact ⟨a, e', ha, by rw [List.getElem?_set_self (by rw [h.2.1]; exact hlt)], he⟩
  · rw [List.getElem?_set_ne hj] at hx
    obtain ⟨b, x', h1, h2, h3⟩ := h.at hx
    exact ⟨b, x', h1, by rw [List.getElem?_set_ne hj]; exact h2, h3⟩
theorem rW.push {G : gT} {ad : List Nat} {w : xW} {ws : va_W} (h : rW G ad w ws) {a : Nat} {e e' : va_E} (he : rE G (ad ++ [a]) e e') : rW G (ad ++ [a]) (w ++ [e]) (ws ++ [(a, e')]) := by
  refine ⟨by simp [h.1], by simp [h.2.1], fun j x hx => ?_⟩
  rcases Nat.lt_or_ge j w.length with q | q
  · rw [List.getElem?_append_left q] at hx
    obtain ⟨b, x', h1, h2, h3⟩ := h.at hx
    exact ⟨b, x', by rw [List.getElem?_append_left (by rw [h.1]; exact q)]; exact h1, by rw [List.getElem?_append_left (by rw [h.2.1]; exact q)]; exact h2, h3.mono adM.app⟩
  · rw [List.getElem?_append_right q] at hx
    have hj : j = w.length := by
      rcases Nat.lt_or_ge w.length j with q2 | q2
      · have hs : ([e] : List va_E)[j - w.length]? = none := by
          rw [List.getElem?_eq_none_iff]; simp; omega
        rw [hs] at hx; cases hx
      · omega
    subst hj
    simp at hx
    subst hx
    refine ⟨a, e', ?_, ?_, he⟩
    · rw [← h.1]; simp
    · rw [← h.2.1]; simp
theorem rW.lt {G : gT} {ad : List Nat} {w : xW} {ws : va_W} (h : rW G ad w ws) {i a : Nat} (ha : ad[i]? = some a) : ∃ e, w[i]? = some e := by
  have : i < w.length := by rw [← h.1]; exact (List.getElem?_eq_some_iff.mp ha).1
  exact ⟨w[i], List.getElem?_eq_getElem this⟩
end
section
/-! ===== methods, contracts, and the walk of a method as a function ===== -/
/-- a method as its callers see it: its name, bytes, locals, answer, handlers, arguments -/
abbrev m0T : Type := MethodName × ByteArray × Nat × Option FieldType × List (Nat × Nat × Nat × Nat) × Nat
abbrev m0T.y (m : m0T) : MethodName := m.1
abbrev m0T.cc (m : m0T) : ByteArray := m.2.1
abbrev m0T.nL (m : m0T) : Nat := m.2.2.1
abbrev m0T.ret (m : m0T) : Option FieldType := m.2.2.2.1
abbrev m0T.hh (m : m0T) : List (Nat × Nat × Nat × Nat) := m.2.2.2.2.1
abbrev m0T.na (m : m0T) : Nat := m.2.2.2.2.2
def m0T.w (m : m0T) : Jvm.Cond := match m.hh with
  | [] => .code m.y m.cc m.nL m.ret
  | hh => .codeWith m.y m.cc m.nL m.ret hh
/-- a constant pool as the walk sees it: fields, statics, methods, classes, numbers -/
abbrev cpT : Type := (Nat → Option (Nat × Nat × FieldType × Bool)) × (Nat → Option Value) × (Nat → Option (Nat × m0T × Nat)) × (Nat → Option (Nat ⊕ Nat)) × (Nat → Option Int32)
abbrev cpT.fld (c : cpT) := c.1
abbrev cpT.stc (c : cpT) := c.2.1
abbrev cpT.mth (c : cpT) := c.2.2.1
abbrev cpT.cls (c : cpT) := c.2.2.2.1
abbrev cpT.num (c : cpT) := c.2.2.2.2
/-- a method as its walk sees it: what callers see, its instructions (each with the next place and its target), its pool, its switches, what its handlers answer, whether it is a constructor -/
abbrev mT : Type := m0T × (Nat → Option (Instr × Nat × Nat)) × cpT × (Nat → Option (Int × List Nat × Nat)) × List (Nat × Int32) × Bool
abbrev mT.m (M : mT) : m0T := M.1
abbrev mT.cd (M : mT) := M.2.1
abbrev mT.cp (M : mT) : cpT := M.2.2.1
abbrev mT.sw (M : mT) := M.2.2.2.1
abbrev mT.hs (M : mT) : List (Nat × Int32) := M.2.2.2.2.1
abbrev mT.ini (M : mT) : Bool := M.2.2.2.2.2
def rmS (d mc ms : Nat) : Room := { frames := d, cells := mc, slots := ms, locals := 64 * d }
/-- the heap below the law's start is as it was -/
def hLow (G : gT) (H : Heap) : Prop := G.bs ≤ H.size ∧ ∀ q : Nat, q < G.bs → H[q]? = G.s0.heap[q]?
def PcS (G : gT) (ws : va_W) (sz : Nat) (ca : List Value) : Array Value → State → Prop := fun a U =>
  a = ca.toArray ∧ U.heap.size = sz ∧ G.s0.WarmedH U.vm ∧ hLow G U.heap ∧ va_P G.D vwCl ws U.heap ∧ va_D (fun q => G.bs ≤ q) ws
/-- the world behind it -/
def WEnd (G : gT) (ad : List Nat) (ws : va_W) (sz : Nat) (st t : State) (w' : xW) (ad' : List Nat) : Prop :=
  adM ad ad' ∧ ∃ ws', rW G ad' w' ws' ∧ va_P G.D vwCl ws' t.heap ∧ va_D (va_A ws sz) ws' ∧ va_F (va_A ws sz) st t
def QcS (G : gT) (ad : List Nat) (ws : va_W) (sz : Nat) (K : Option Value → xW → Prop) : Array Value → State → Outcome → State → Prop := fun _ st o t =>
  ∃ (v c : Option Value) (w' : xW) (ad' : List Nat), o = .returned c ∧ rO G ad' v c ∧ K v w' ∧ WEnd G ad ws sz st t w' ad'
/-- the exceptions that are thrown -/
def exN (x : Nat) : String := match x with
  | 0 => "java/lang/IllegalArgumentException"
  | 1 => "java/lang/UnsupportedOperationException"
  | 2 => "java/lang/IndexOutOfBoundsException"
  | 3 => "java/util/NoSuchElementException"
  | 4 => "java/lang/IllegalStateException"
  | _ => "java/lang/ArithmeticException"
def XcS (G : gT) (ad : List Nat) (ws : va_W) (sz : Nat) (KX : Nat → xW → Prop) : String → State → State → Prop := fun E st t =>
  ∃ (x : Nat) (w' : xW) (ad' : List Nat), E = exN x ∧ KX x w' ∧ WEnd G ad ws sz st t w' ad'
/-- THE CONTRACT: from the world w, with these arguments, within d frames, mc cells and ms slots, the method returns v with world w' (K v w'), or throws the x-th exception (KX x w') -/
def Spec (G : gT) (d mc ms : Nat) (m : m0T) (as : List Value) (w : xW) (K : Option Value → xW → Prop) (KX : Nat → xW → Prop) : Prop :=
  ∀ (ad : List Nat) (ws : va_W) (sz : Nat) (ca : List Value), rW G ad w ws → rVs G ad as ca →
    vx_Met G.l m.y [m.w] (rmS d mc ms) (PcS G ws sz ca) (QcS G ad ws sz K) (XcS G ad ws sz KX) mc ms (va_A ws sz)
/-- what holds in an activation of M -/
def Ctx (G : gT) (M : mT) (d : Nat) (A : Nat → Prop) (R : Room) (p : Program) (e : Env) (s : State) (m : MethodId) (args : Array Value) (meth : Method) (c : Code) : Prop :=
  p.tables.exec = Jvm.exec ∧ c.code = M.m.cc ∧ meth.sig.returnType = M.m.ret ∧ c.maxLocals = M.m.nL ∧ s.vm.findClass M.m.y.cls = some m.cls ∧ meth.locks = false ∧ G.s0.WarmedH s.vm ∧ hLow G s.heap ∧
  (∀ q, A q → G.bs ≤ q) ∧ (∀ q, s.heap.size ≤ q → A q) ∧ d ≤ R.frames ∧ 64 * d ≤ R.locals ∧ (M.ini = true → meth.name = "<init>") ∧ c.exceptionTable.toList = tableOf M.m.hh
/-- the world at a point of an activation -/
def WAt (G : gT) (A : Nat → Prop) (ad0 : List Nat) (H0 H : Heap) (locs : List Loc) (w : xW) (ad : List Nat) (ws : va_W) : Prop :=
  adM ad0 ad ∧ rW G ad w ws ∧ va_P G.D vwCl ws H ∧ va_D A ws ∧ va_S A H0 H locs
/-- an instruction that leaves the method with v -/
def retI (M : mT) (pc : Nat) (v : Option Value) : Prop := ∃ n t, match v with
  | none => M.cd pc = some (.return_, n, t) ∧ M.m.ret = none
  | some (.int x) => M.cd pc = some (.ireturn, n, t) ∧ ∃ ty, M.m.ret = some ty ∧ narrow ty (.int x) = .int x
  | some (.float _) => M.cd pc = some (.freturn, n, t) ∧ M.m.ret = some .float
  | some (.double _) => M.cd pc = some (.dreturn, n, t) ∧ M.m.ret = some .double
  | some (.ref _) => M.cd pc = some (.areturn, n, t) ∧ ((∃ C, M.m.ret = some (.object C)) ∨ ∃ C, M.m.ret = some (.array C))
  | some (.retAddr _) => M.cd pc = some (.areturn, n, t) ∧ ((∃ C, M.m.ret = some (.object C)) ∨ ∃ C, M.m.ret = some (.array C))
  | _ => False
/-- 'throw new E(..)' begins here -/
def thrI (M : mT) (pc x : Nat) : Prop := ∃ i n t, M.cd pc = some (.new i, n, t) ∧ M.cp.cls i = some (.inr x)
/-- where the activation ends -/
def FinQ (G : gT) (M : mT) (A : Nat → Prop) (ad0 : List Nat) (R : Room) (p : Program) (e : Env) (s : State) (m : MethodId) (args : Array Value) (below : List Frame) (meth : Method) (c : Code) (Q : State → Prop) (K : Option Value → xW → Prop) (KX : Nat → xW → Prop) : Prop :=
  (∀ (pc : Nat) (v cv : Option Value) (w : xW) (ad : List Nat) (ws : va_W) (H : Heap) (locs : List Loc) (cells slots : Nat) (lc : Array Slot), K v w → retI M pc v → rO G ad v cv → WAt G A ad0 s.heap H locs w ad ws → cells ≤ R.cells → slots ≤ R.slots →
    W p G.l e R s m args below meth c H locs cells slots Q (F0 m pc lc cv.toList)) ∧
  (∀ (pc x : Nat) (w : xW) (ad : List Nat) (ws : va_W) (H : Heap) (locs : List Loc) (cells slots : Nat) (lc : Array Slot), KX x w → thrI M pc x → 6 ≤ R.frames → 384 ≤ R.locals → lc.size = M.m.nL → WAt G A ad0 s.heap H locs w ad ws → cells + 1 ≤ R.cells → slots + 6 ≤ R.slots →
    W p G.l e R s m args below meth c H locs cells slots Q (F0 m pc lc []))
/-- THE WALK'S JUDGEMENT: from here, in any activation of M, the walk comes to its end with K or KX -/
def AW (G : gT) (M : mT) (d bc bs pc : Nat) (ls : List (Option Value)) (st : List Value) (w : xW) (K : Option Value → xW → Prop) (KX : Nat → xW → Prop) : Prop :=
  ∀ (A : Nat → Prop) (ad0 : List Nat) (R : Room) (p : Program) (e : Env) (s : State) (m : MethodId) (args : Array Value) (below : List Frame) (meth : Method) (c : Code) (Q : State → Prop),
    Ctx G M d A R p e s m args meth c → FinQ G M A ad0 R p e s m args below meth c Q K KX →
    ∀ (ad : List Nat) (ws : va_W) (H : Heap) (locs : List Loc) (cells slots : Nat) (lc : Array Slot) (sc : List Value), WAt G A ad0 s.heap H locs w ad ws → rL G ad ls lc M.m.nL → rVs G ad st sc → cells + bc ≤ R.cells → slots + bs ≤ R.slots →
      W p G.l e R s m args below meth c H locs cells slots Q (F0 m pc lc sc)
/-! small functions that compute by being unfolded -/
def fL {α : Type} : List α → (List α → Prop) → Prop
  | [], k => k []
  | a :: l, k => fL l (fun l' => k (a :: l'))
theorem fL_eq {α : Type} : ∀ (l : List α) (k : List α → Prop), fL l k = k l
  | [], _ => rfl
  | a :: l, k => fL_eq l (fun l' => k (a :: l'))
def fN (n : Nat) (k : Nat → Prop) : Prop := match n with
  | 0 => k 0 | 1 => k 1 | 2 => k 2 | 3 => k 3 | 4 => k 4 | 5 => k 5 | 6 => k 6 | 7 => k 7 | 8 => k 8 | 9 => k 9 | 10 => k 10 | 11 => k 11 | 12 => k 12 | 13 => k 13 | 14 => k 14 | 15 => k 15
  | 16 => k 16 | 17 => k 17 | 18 => k 18 | 19 => k 19 | 20 => k 20 | 21 => k 21 | 22 => k 22 | 23 => k 23 | 24 => k 24 | 25 => k 25 | 26 => k 26 | 27 => k 27 | 28 => k 28 | 29 => k 29 | 30 => k 30 | 31 => k 31
  | 32 => k 32 | 33 => k 33 | 34 => k 34 | 35 => k 35 | 36 => k 36 | 37 => k 37 | 38 => k 38 | 39 => k 39 | 40 => k 40 | 41 => k 41 | 42 => k 42 | 43 => k 43 | 44 => k 44 | 45 => k 45 | 46 => k 46 | 47 => k 47
  | n => k n
theorem fN_eq (n : Nat) (k : Nat → Prop) : fN n k = k n := by
  unfold fN
  split <;> rfl
def fV (v : Value) (k : Value → Prop) : Prop := match v with
  | .ref n => fN n (fun n => k (.ref n))
  | .int x => k (.int x)
  | .long x => k (.long x)
  | .float x => k (.float x)
  | .double x => k (.double x)
  | .null => k .null
  | .retAddr j => k (.retAddr j)
theorem fV_eq (v : Value) (k : Value → Prop) : fV v k = k v := by
  cases v with
  | ref n => exact fN_eq n (fun n => k (.ref n))
  | _ => rfl
def fVs : List Value → (List Value → Prop) → Prop
  | [], k => k []
  | v :: l, k => fV v (fun v' => fVs l (fun l' => k (v' :: l')))
theorem fVs_eq : ∀ (l : List Value) (k : List Value → Prop), fVs l k = k l
  | [], _ => rfl
  | v :: l, k => by
    unfold fVs
    rw [fV_eq, fVs_eq l]
def fE (e : va_E) (k : va_E → Prop) : Prop := match e with
  | .inl (t, n, .inl f) => k (.inl (t, n, .inl f))
  | .inl (t, n, .inr (.inr (.inr (.inr f)))) => k (.inl (t, n, .inr (.inr (.inr (.inr f)))))
  | .inl x => k (.inl x)
  | .inr (ci, fs) => fVs fs (fun fs' => k (.inr (ci, fs')))
theorem fE_eq (e : va_E) (k : va_E → Prop) : fE e k = k e := by
  unfold fE
  split <;> first | rfl | exact fVs_eq _ _
def fW : xW → (xW → Prop) → Prop
  | [], k => k []
  | e :: l, k => fE e (fun e' => fW l (fun l' => k (e' :: l')))
theorem fW_eq : ∀ (l : xW) (k : xW → Prop), fW l k = k l
  | [], _ => rfl
  | v :: l, k => by
    unfold fW
    rw [fE_eq, fW_eq l]
def nth {α : Type} : List α → Nat → Option α
  | [], _ => none
  | a :: _, 0 => some a
  | _ :: l, n + 1 => nth l n
theorem nth_eq {α : Type} : ∀ (l : List α) (n : Nat), nth l n = l[n]?
  | [], _ => by simp [nth]
  | a :: _, 0 => by simp [nth]
  | _ :: l, n + 1 => by simp [nth, nth_eq l n]
def stN {α : Type} : List α → Nat → α → List α
  | [], _, _ => []
  | _ :: l, 0, x => x :: l
  | a :: l, n + 1, x => a :: stN l n x
theorem stN_eq {α : Type} : ∀ (l : List α) (n : Nat) (x : α), stN l n x = l.set n x
  | [], _, _ => rfl
  | _ :: _, 0, _ => rfl
  | a :: l, n + 1, x => by simp [stN, stN_eq l n x]
def lenL {α : Type} : List α → Nat
  | [] => 0
  | _ :: l => lenL l + 1
theorem lenL_eq {α : Type} : ∀ (l : List α), lenL l = l.length
  | [] => rfl
  | _ :: l => by simp [lenL, lenL_eq l]
def gtL (ls : List (Option Value)) (i : Nat) : Option Value := match nth ls i with
  | some (some v) => some v
  | _ => none
theorem gtL_some {ls : List (Option Value)} {i : Nat} {v : Value} (h : gtL ls i = some v) : ls[i]? = some (some v) := by
  unfold gtL at h
  rw [nth_eq] at h
  split at h
  · cases h; assumption
  · cases h
def clr : Option Value → Option Value
  | some (.long _) => none
  | some (.double _) => none
  | x => x
def stL : List (Option Value) → Nat → Value → List (Option Value)
  | [], _, _ => []
  | _ :: l, 0, v => some v :: l
  | a :: l, 1, v => clr a :: stL l 0 v
  | a :: l, n + 2, v => a :: stL l (n + 1) v
def st2 (l : List (Option Value)) (i : Nat) (v : Value) : List (Option Value) := stN (stL l i v) (i + 1) none
def msk : List Bool → List (Option Value) → List (Option Value)
  | [], _ => []
  | _, [] => []
  | true :: b, a :: l => a :: msk b l
  | false :: b, _ :: l => none :: msk b l
theorem msk_at : ∀ (b : List Bool) (l : List (Option Value)) (i : Nat) (v : Value), (msk b l)[i]? = some (some v) → l[i]? = some (some v)
  | [], _, _, _, h => by simp [msk] at h
  | _ :: _, [], _, _, h => by simp [msk] at h
  | true :: b, a :: l, 0, v, h => by simpa [msk] using h
  | true :: b, a :: l, i + 1, v, h => by
    simp [msk] at h
    simpa using msk_at b l i v h
  | false :: b, a :: l, 0, v, h => by simp [msk] at h
  | false :: b, a :: l, i + 1, v, h => by
    simp [msk] at h
    simpa using msk_at b l i v h
/-- the last n of a stack, first pushed first -/
def popN : Nat → List Value → List Value → Option (List Value × List Value)
  | 0, acc, st => some (acc, st)
  | _ + 1, _, [] => none
  | n + 1, acc, v :: st => popN n (v :: acc) st
theorem popN_eq : ∀ (n : Nat) (acc st as rest : List Value), popN n acc st = some (as, rest) → acc.reverse ++ st = as.reverse ++ rest ∧ as.length = acc.length + n
  | 0, acc, st, as, rest, h => by cases h; exact ⟨rfl, rfl⟩
  | n + 1, acc, [], as, rest, h => by cases h
  | n + 1, acc, v :: st, as, rest, h => by
    obtain ⟨h1, h2⟩ := popN_eq n (v :: acc) st as rest h
    refine ⟨by rw [← h1]; simp, by rw [h2]; simp; omega⟩
def catS : List Value → Nat
  | [] => 0
  | .long _ :: l => catS l + 2
  | .double _ :: l => catS l + 2
  | _ :: l => catS l + 1
def stepsF (j : Nat) : Int32 := ([0, 2, 4, 5, 7, 9, 11, 12] : List Int32).getD j 0
def onesF (j : Nat) : Int32 := nI (48 + j % 10)
def tensF (j : Nat) : Int32 := nI (48 + j / 10)
/-- the static arrays, and the script: kind, length, contents -/
def stF (G : gT) (j : Nat) : Option (Nat × Nat × (Nat → Int32)) := match j with
  | 0 => some (0, 8, stepsF)
  | 1 => some (3, 100, onesF)
  | 2 => some (3, 100, tensF)
  | 6 => some (0, G.L, G.xs)
  | _ => none
def cI : ClassFile.Cond → Int32 → Int32 → Prop
  | .eq, x, y => x = y
  | .ne, x, y => ¬ x = y
  | .lt, x, y => x < y
  | .ge, x, y => y ≤ x
  | .gt, x, y => y < x
  | .le, x, y => x ≤ y
def cN : ClassFile.Cond → Int32 → Int32 → Prop
  | .eq, x, y => ¬ x = y
  | .ne, x, y => x = y
  | .lt, x, y => ¬ x < y
  | .ge, x, y => ¬ y ≤ x
  | .gt, x, y => ¬ y < x
  | .le, x, y => ¬ x ≤ y
/-- fresh objects, by their kind: how many slots, what they hold -/
def newF (ci : Nat) : Option (Nat × List Value) := match ci with
  | 1 => some (4, [.null, .int 0, .int 0, .int 0])
  | 4 => some (10, [.null, .null, .null, .int 0, .int 0, .int 0, .int 0, .int 0, .int 0, .int 0])
  | 5 => some (1, [.null])
  | 6 => some (3, [.null, .int 0, .int 0])
  | 7 => some (7, [.null, .int 0, .int 0, .int 0, .null, .null, .null])
  | 8 => some (2, [.int 0, .int 0])
  | 9 => some (4, [.int 0, .int 0, .null, .int 0])
  | 10 => some (4, [.null, .null, .int 0, .int 0])
  | 11 => some (10, [.null, .null, .null, .null, .null, .null, .null, .null, .null, .int 0])
  | 12 => some (19, [.null, .null, .null, .null, .int 0, .int 0, .int 0, .int 0, .int 0, .int 0, .null, .int 0, .int 0, .null, .int 0, .null, .int 0, .null, .int 0])
  | _ => none
end
section
/-! ===== the walk of one instruction, and of many ===== -/
/-- a call: within what is left, the callee keeps its contract -/
def CallC (G : gT) (d bc bs : Nat) (m : m0T) (as : List Value) (w : xW) (Kc : Nat → Nat → Option Value → xW → Prop) (KXc : Nat → xW → Prop) : Prop :=
  ∃ d' mc ms, d' < d ∧ mc ≤ bc ∧ ms ≤ bs ∧ Spec G d' mc ms m as w (Kc (bc - mc) (bs - ms)) KXc
/-- where a switch goes -/
def swTo (x : Int32) (lo : Int) (ts : List Nat) (df t : Nat) : Prop :=
  (∃ (j : Nat), x.toInt = lo + j ∧ ts[j]? = some t) ∨ ((x.toInt < lo ∨ lo + ts.length ≤ x.toInt) ∧ t = df)
abbrev recT : Type := Nat → Nat → Nat → List (Option Value) → List Value → xW → Prop
section WPS
variable (G : gT) (M : mT) (cut : Nat → Option (List Bool)) (d : Nat) (K : Option Value → xW → Prop) (KX : Nat → xW → Prop)
def wpG (rec : recT) (bc bs pc : Nat) (ls : List (Option Value)) (st : List Value) (w : xW) : Prop := match cut pc with
  | some lv => AW G M d bc bs pc (msk lv ls) st w K KX
  | none => rec bc bs pc ls st w
/-- behind a call -/
def wpC (go : recT) (np : Nat) (ls : List (Option Value)) (rest : List Value) (bc bs : Nat) (v : Option Value) (w : xW) : Prop := match v with
  | none => fW w (fun w => go bc bs np ls rest w)
  | some v => fV v (fun v => fW w (fun w => go bc bs np ls (v :: rest) w))
/-- a call's exception: caught by a handler that answers a number, or nothing may come -/
def hsF : List (Nat × Int32) → Nat → Option Int32
  | [], _ => none
  | (y, v) :: l, x => match Nat.beq y x with
    | true => some v
    | false => hsF l x
def wpX (x : Nat) (w : xW) : Prop := match hsF M.hs x with
  | some v => K (some (.int v)) w
  | none => False
def wpCall (go : recT) (bc bs np : Nat) (ls : List (Option Value)) (w : xW) (m : m0T) (as rest : List Value) : Prop :=
  match Nat.ble (catS rest) 8 with
  | true => CallC G d bc bs m as w (wpC go np ls rest) (wpX M K)
  | false => False
def wpCall0 (go : recT) (bc bs np : Nat) (ls : List (Option Value)) (w : xW) (m : m0T) (as rest : List Value) : Prop :=
  match Nat.ble (catS rest) 8 with
  | true => CallC G d bc bs m as w (wpC go np ls rest) (fun _ _ => False)
  | false => False
def wpKV (go : recT) (bc bs np : Nat) (ls : List (Option Value)) (st : List Value) (w : xW) (m : m0T) (ci : Nat) : Prop := match popN m.na [] st with
  | some (as, .ref b :: rest) => (match nth w b with
    | some (.inr (c2, _)) => (match Nat.beq c2 ci with
      | true => wpCall G M d K go bc bs np ls w m (.ref b :: as) rest
      | false => False)
    | _ => False)
  | _ => False
def wpKS (go : recT) (bc bs np : Nat) (ls : List (Option Value)) (st : List Value) (w : xW) (m : m0T) : Prop := match popN m.na [] st with
  | some (as, rest) => wpCall0 G d go bc bs np ls w m as rest
  | _ => False
def wpKI (go : recT) (bc bs np : Nat) (ls : List (Option Value)) (st : List Value) (w : xW) (m : m0T) : Prop := match popN m.na [] st with
  | some (as, .ref b :: rest) => wpCall0 G d go bc bs np ls w m (.ref b :: as) rest
  | _ => False
def wpKO (go : recT) (bc bs np : Nat) (ls : List (Option Value)) (st : List Value) (w : xW) : Prop := match st with
  | .ref b :: rest => (match Nat.ble (catS rest) 8 with
    | true => 1 ≤ d ∧ go bc bs np ls rest w
    | false => False)
  | _ => False
def wpKX (go : recT) (bc bs np : Nat) (ls : List (Option Value)) (st : List Value) (w : xW) : Prop := match st with
  | .int y :: .int x :: rest => (match Nat.ble (catS rest) 8 with
    | true => 1 ≤ d ∧ go bc bs np ls (.int (if x < y then y else x) :: rest) w
    | false => False)
  | _ => False
def wpKM (go : recT) (bc bs np : Nat) (ls : List (Option Value)) (st : List Value) (w : xW) : Prop := match st with
  | .int y :: .int x :: rest => (match Nat.ble (catS rest) 8 with
    | true => 1 ≤ d ∧ go bc bs np ls (.int (if y < x then y else x) :: rest) w
    | false => False)
  | _ => False
def wpKC (go : recT) (bc bs np : Nat) (ls : List (Option Value)) (st : List Value) (w : xW) : Prop := match st with
  | .int n :: .int dp :: .ref b :: .int sp :: .ref a :: rest => (match nth w a, nth w b with
    | some (.inl (3, n0, .inl f)), some (.inl (3, n1, .inl g)) => (match Nat.ble (catS rest) 8 with
      | true => 4 ≤ d ∧ ¬ sp < 0 ∧ ¬ dp < 0 ∧ ¬ n < 0 ∧ sp.toNatClampNeg + n.toNatClampNeg ≤ n0 ∧ dp.toNatClampNeg + n.toNatClampNeg ≤ n1 ∧ (∀ i, i < n.toNatClampNeg → fits .byte (.int (f (sp.toNatClampNeg + i))) = true) ∧
        fL (stN w b (.inl (3, n1, .inl (va_cpy f g sp.toNatClampNeg dp.toNatClampNeg n.toNatClampNeg)))) (fun w => go bc bs np ls rest w)
      | false => False)
    | _, _ => False)
  | _ => False
def wpKU (go : recT) (bc bs np : Nat) (ls : List (Option Value)) (st : List Value) (w : xW) (m : m0T) : Prop := match popN m.na [] st with
  | some (as, .ref b :: rest) => (match nth w b with
    | some (.inr (c2, _)) => (match Nat.beq c2 1 with
      | true => wpCall0 G d go bc bs np ls w m (.ref b :: as) rest
      | false => False)
    | _ => False)
  | _ => False
def wpLd (go : recT) (bc bs np : Nat) (ls : List (Option Value)) (st : List Value) (w : xW) (v : Value) : Prop := go bc bs np ls (v :: st) w
/-- storing a value of one slot, of two slots -/
def wpS1 (go : recT) (bc bs np : Nat) (ls : List (Option Value)) (st : List Value) (w : xW) (i : Nat) (v : Value) : Prop := match Nat.blt i M.m.nL with
  | true => fL (stL ls i v) (fun ls => go bc bs np ls st w)
  | false => False
def wpS2 (go : recT) (bc bs np : Nat) (ls : List (Option Value)) (st : List Value) (w : xW) (i : Nat) (v : Value) : Prop := match Nat.blt (i + 1) M.m.nL with
  | true => fL (st2 ls i v) (fun ls => go bc bs np ls st w)
  | false => False
def wpPut (go : recT) (bc bs np : Nat) (ls : List (Option Value)) (st : List Value) (w : xW) (a ci k : Nat) (v : Value) : Prop := match nth w a with
  | some (.inr (c2, fs)) => (match Nat.beq c2 ci, Nat.blt k (lenL fs) with
    | true, true => fL (stN fs k v) (fun fs => fL (stN w a (.inr (ci, fs))) (fun w => go bc bs np ls st w))
    | _, _ => False)
  | _ => False
def wpNewA (go : recT) (bc bs np : Nat) (ls : List (Option Value)) (st : List Value) (w : xW) (t : Nat) (n : Int32) (zero : Nat → va_E) : Prop :=
  ¬ n < 0 ∧ n.toNatClampNeg ≤ 65536 ∧ 1 ≤ bc ∧ n.toNatClampNeg ≤ bs ∧ fN (lenL w) (fun q => fL (w ++ [zero n.toNatClampNeg]) (fun w => go (bc - 1) (bs - n.toNatClampNeg) np ls (.ref q :: st) w))
def wpI (go : recT) (bc bs pc : Nat) (ls : List (Option Value)) (st : List Value) (w : xW) (i : Instr) (np tg : Nat) : Prop := match i with
  | .iconst n => wpLd go bc bs np ls st w (.int (Int32.ofInt n))
  | .bipush n => wpLd go bc bs np ls st w (.int (Int8.ofInt n).toInt32)
  | .sipush n => wpLd go bc bs np ls st w (.int (Int16.ofInt n).toInt32)
  | .aconst_null => wpLd go bc bs np ls st w .null
  | .fconst f => (match f with | 0 => wpLd go bc bs np ls st w (.float FP.fconst0) | _ => False)
  | .dconst f => (match f with | 0 => wpLd go bc bs np ls st w (.double FP.dconst0) | _ => False)
  | .ldc k => (match M.cp.num k with | some v => wpLd go bc bs np ls st w (.int v) | none => False)
  | .iload_n k => (match gtL ls k with | some (.int x) => wpLd go bc bs np ls st w (.int x) | _ => False)
  | .iload k => (match gtL ls k with | some (.int x) => wpLd go bc bs np ls st w (.int x) | _ => False)
  | .fload k => (match gtL ls k with | some (.float x) => wpLd go bc bs np ls st w (.float x) | _ => False)
  | .dload k => (match gtL ls k with | some (.double x) => wpLd go bc bs np ls st w (.double x) | _ => False)
  | .aload_n k => (match gtL ls k with | some (.ref x) => wpLd go bc bs np ls st w (.ref x) | some .null => wpLd go bc bs np ls st w .null | some (.retAddr x) => wpLd go bc bs np ls st w (.retAddr x) | _ => False)
  | .aload k => (match gtL ls k with | some (.ref x) => wpLd go bc bs np ls st w (.ref x) | some .null => wpLd go bc bs np ls st w .null | some (.retAddr x) => wpLd go bc bs np ls st w (.retAddr x) | _ => False)
  | .istore_n k => (match st with | .int x :: st => wpS1 M go bc bs np ls st w k (.int x) | _ => False)
  | .istore k => (match st with | .int x :: st => wpS1 M go bc bs np ls st w k (.int x) | _ => False)
  | .fstore k => (match st with | .float x :: st => wpS1 M go bc bs np ls st w k (.float x) | _ => False)
  | .dstore k => (match st with | .double x :: st => wpS2 M go bc bs np ls st w k (.double x) | _ => False)
  | .astore_n k => (match st with | .ref x :: st => wpS1 M go bc bs np ls st w k (.ref x) | .null :: st => wpS1 M go bc bs np ls st w k .null | .retAddr x :: st => wpS1 M go bc bs np ls st w k (.retAddr x) | _ => False)
  | .astore k => (match st with | .ref x :: st => wpS1 M go bc bs np ls st w k (.ref x) | .null :: st => wpS1 M go bc bs np ls st w k .null | .retAddr x :: st => wpS1 M go bc bs np ls st w k (.retAddr x) | _ => False)
  | .iinc k n => (match gtL ls k with | some (.int x) => wpS1 M go bc bs np ls st w k (.int (x + Int32.ofInt n)) | _ => False)
  | .iadd => (match st with | .int y :: .int x :: st => wpLd go bc bs np ls st w (.int (x + y)) | _ => False)
  | .isub => (match st with | .int y :: .int x :: st => wpLd go bc bs np ls st w (.int (x - y)) | _ => False)
  | .imul => (match st with | .int y :: .int x :: st => wpLd go bc bs np ls st w (.int (x * y)) | _ => False)
  | .iand => (match st with | .int y :: .int x :: st => wpLd go bc bs np ls st w (.int (x &&& y)) | _ => False)
  | .ior => (match st with | .int y :: .int x :: st => wpLd go bc bs np ls st w (.int (x ||| y)) | _ => False)
  | .ixor => (match st with | .int y :: .int x :: st => wpLd go bc bs np ls st w (.int (x ^^^ y)) | _ => False)
  | .ishl => (match st with | .int y :: .int x :: st => wpLd go bc bs np ls st w (.int (x <<< (y &&& 31))) | _ => False)
  | .ishr => (match st with | .int y :: .int x :: st => wpLd go bc bs np ls st w (.int (x >>> (y &&& 31))) | _ => False)
  | .idiv => (match st with | .int y :: .int x :: st => ¬ y = 0 ∧ wpLd go bc bs np ls st w (.int (x / y)) | _ => False)
  | .irem => (match st with | .int y :: .int x :: st => ¬ y = 0 ∧ wpLd go bc bs np ls st w (.int (x - x / y * y)) | _ => False)
  | .ineg => (match st with | .int x :: st => wpLd go bc bs np ls st w (.int (-x)) | _ => False)
  | .i2l => (match st with | .int x :: st => wpLd go bc bs np ls st w (.long x.toInt64) | _ => False)
  | .i2b => (match st with | .int x :: st => wpLd go bc bs np ls st w (.int x.toInt8.toInt32) | _ => False)
  | .i2c => (match st with | .int x :: st => wpLd go bc bs np ls st w (.int (x.toUInt32 % 65536).toInt32) | _ => False)
  | .i2d => (match st with | .int x :: st => wpLd go bc bs np ls st w (.double (FP.i2d x)) | _ => False)
  | .i2f => (match st with | .int x :: st => wpLd go bc bs np ls st w (.float (FP.i2f x)) | _ => False)
  | .f2d => (match st with | .float x :: st => vf_n64 (FP.f2d x) ∧ wpLd go bc bs np ls st w (.double (FP.f2d x)) | _ => False)
  | .ddiv => (match st with | .double y :: .double x :: st => vf_n64 (FP.ddiv x y) ∧ wpLd go bc bs np ls st w (.double (FP.ddiv x y)) | _ => False)
  | .fdiv => (match st with | .float y :: .float x :: st => vf_n32 (FP.fdiv x y) ∧ wpLd go bc bs np ls st w (.float (FP.fdiv x y)) | _ => False)
  | .lcmp => (match st with | .long y :: .long x :: st => wpLd go bc bs np ls st w (.int (lg_cmp x y)) | _ => False)
  | .dcmp op => (match st with | .double y :: .double x :: st => wpLd go bc bs np ls st w (.int (Op.cmpValue (FP.dcmp x y) op)) | _ => False)
  | .fcmp op => (match st with | .float y :: .float x :: st => wpLd go bc bs np ls st w (.int (Op.cmpValue (FP.fcmp x y) op)) | _ => False)
  | .dup => (match st with
    | .ref x :: st => go bc bs np ls (.ref x :: .ref x :: st) w
    | .int x :: st => go bc bs np ls (.int x :: .int x :: st) w
    | _ => False)
  | .dup2 => (match st with
    | .int y :: .ref x :: st => go bc bs np ls (.int y :: .ref x :: .int y :: .ref x :: st) w
    | _ => False)
  | .dup_x1 => (match st with
    | .int y :: .ref x :: st => go bc bs np ls (.int y :: .ref x :: .int y :: st) w
    | _ => False)
  | .pop => (match st with
    | .ref x :: st => go bc bs np ls st w
    | .int x :: st => go bc bs np ls st w
    | _ => False)
  | .goto _ => go bc bs tg ls st w
  | .ifCond c _ => (match st with | .int x :: st => (cI c x 0 → go bc bs tg ls st w) ∧ (cN c x 0 → go bc bs np ls st w) | _ => False)
  | .if_icmp c _ => (match st with | .int y :: .int x :: st => (cI c x y → go bc bs tg ls st w) ∧ (cN c x y → go bc bs np ls st w) | _ => False)
  | .ifnonnull _ => (match st with | .ref x :: st => go bc bs tg ls st w | .null :: st => go bc bs np ls st w | _ => False)
  | .ifnull _ => (match st with | .ref x :: st => go bc bs np ls st w | .null :: st => go bc bs tg ls st w | _ => False)
  | .if_acmp c _ => (match c, st with
    | .eq, .retAddr y :: .retAddr x :: st => (match Nat.ble 3 x, Nat.ble x 5, Nat.ble 3 y, Nat.ble y 5, Nat.beq x y with
      | true, true, true, true, true => go bc bs tg ls st w
      | true, true, true, true, false => go bc bs np ls st w
      | _, _, _, _, _ => False)
    | .ne, .retAddr y :: .retAddr x :: st => (match Nat.ble 3 x, Nat.ble x 5, Nat.ble 3 y, Nat.ble y 5, Nat.beq x y with
      | true, true, true, true, true => go bc bs np ls st w
      | true, true, true, true, false => go bc bs tg ls st w
      | _, _, _, _, _ => False)
    | _, _ => False)
  | .tableswitch _ _ _ _ => (match st with
    | .int x :: st => (match M.sw pc with
      | some (lo, ts, df) => ∃ t, swTo x lo ts df t ∧ go bc bs t ls st w
      | none => False)
    | _ => False)
  | .getfield k => (match M.cp.fld k, st with
    | some (ci, j, _), .ref a :: st => (match nth w a with
      | some (.inr (c2, fs)) => (match Nat.beq c2 ci with
        | true => (match nth fs j with
          | some v => wpLd go bc bs np ls st w v
          | none => False)
        | false => False)
      | _ => False)
    | _, _ => False)
  | .putfield k => (match M.cp.fld k, st with
    | some (ci, j, ty, fin), v :: .ref a :: st => (match fin && !M.ini with
      | true => False
      | false => (match ty, v with
        | .int, .int x => wpPut go bc bs np ls st w a ci j (.int x)
        | .object _, .ref x => wpPut go bc bs np ls st w a ci j (.ref x)
        | .object _, .null => wpPut go bc bs np ls st w a ci j .null
        | .array _, .ref x => wpPut go bc bs np ls st w a ci j (.ref x)
        | ty, .int x => narrow ty (.int x) = .int x ∧ fits ty (.int x) = true ∧ wpPut go bc bs np ls st w a ci j (.int x)
        | _, _ => False))
    | _, _ => False)
  | .getstatic k => (match M.cp.stc k with | some v => wpLd go bc bs np ls st w v | none => False)
  | .new k => (match M.cp.cls k with
    | some (.inl ci) => (match newF ci with
      | some (n, fs) => 1 ≤ bc ∧ n ≤ bs ∧ fN (lenL w) (fun q => fL (w ++ [.inr (ci, fs)]) (fun w => go (bc - 1) (bs - n) np ls (.ref q :: st) w))
      | none => False)
    | some (.inr x) => (match st with
      | [] => 6 ≤ d ∧ 1 ≤ bc ∧ 6 ≤ bs ∧ KX x w
      | _ => False)
    | none => False)
  | .newarray t => (match st with
    | .int n :: st => (match t with
      | .int => wpNewA go bc bs np ls st w 0 n (fun n => .inl (0, n, .inl (fun _ => 0)))
      | .boolean => wpNewA go bc bs np ls st w 1 n (fun n => .inl (1, n, .inl (fun _ => 0)))
      | .char => wpNewA go bc bs np ls st w 2 n (fun n => .inl (2, n, .inl (fun _ => 0)))
      | .byte => wpNewA go bc bs np ls st w 3 n (fun n => .inl (3, n, .inl (fun _ => 0)))
      | .long => wpNewA go bc bs np ls st w 4 n (fun n => .inl (4, n, .inr (.inl (fun _ => 0))))
      | .double => wpNewA go bc bs np ls st w 5 n (fun n => .inl (5, n, .inr (.inr (.inr (.inl (fun _ => 0))))))
      | _ => False)
    | _ => False)
  | .anewarray k => (match M.cp.cls k, st with
    | some (.inl 4), .int n :: st => wpNewA go bc bs np ls st w 6 n (fun n => .inl (6, n, .inr (.inr (.inr (.inr (fun _ => none))))))
    | _, _ => False)
  | .arraylength => (match st with
    | .ref a :: st => (match nth w a with
      | some (.inl (_, n, _)) => wpLd go bc bs np ls st w (.int (nI n))
      | _ => False)
    | .retAddr j :: st => (match stF G j with
      | some (_, n, _) => wpLd go bc bs np ls st w (.int (nI n))
      | none => False)
    | _ => False)
  | .iaload => (match st with
    | .int i :: .ref a :: st => (match nth w a with
      | some (.inl (0, n, .inl f)) => vp_in i n ∧ wpLd go bc bs np ls st w (.int (f i.toNatClampNeg))
      | _ => False)
    | .int i :: .retAddr j :: st => (match stF G j with
      | some (0, n, f) => vp_in i n ∧ wpLd go bc bs np ls st w (.int (f i.toNatClampNeg))
      | _ => False)
    | _ => False)
  | .baload => (match st with
    | .int i :: .ref a :: st => (match nth w a with
      | some (.inl (1, n, .inl f)) => vp_in i n ∧ wpLd go bc bs np ls st w (.int (f i.toNatClampNeg))
      | some (.inl (3, n, .inl f)) => vp_in i n ∧ wpLd go bc bs np ls st w (.int (f i.toNatClampNeg))
      | _ => False)
    | .int i :: .retAddr j :: st => (match stF G j with
      | some (3, n, f) => vp_in i n ∧ wpLd go bc bs np ls st w (.int (f i.toNatClampNeg))
      | _ => False)
    | _ => False)
  | .caload => (match st with
    | .int i :: .ref a :: st => (match nth w a with
      | some (.inl (2, n, .inl f)) => vp_in i n ∧ wpLd go bc bs np ls st w (.int (f i.toNatClampNeg))
      | _ => False)
    | _ => False)
  | .laload => (match st with
    | .int i :: .ref a :: st => (match nth w a with
      | some (.inl (4, n, .inr (.inl f))) => vp_in i n ∧ wpLd go bc bs np ls st w (.long (f i.toNatClampNeg))
      | _ => False)
    | _ => False)
  | .daload => (match st with
    | .int i :: .ref a :: st => (match nth w a with
      | some (.inl (5, n, .inr (.inr (.inr (.inl f))))) => vp_in i n ∧ wpLd go bc bs np ls st w (.double (f i.toNatClampNeg))
      | _ => False)
    | _ => False)
  | .aaload => (match st with
    | .int i :: .ref a :: st => (match nth w a with
      | some (.inl (6, n, .inr (.inr (.inr (.inr f))))) => vp_in i n ∧ (match f i.toNatClampNeg with
        | none => wpLd go bc bs np ls st w .null
        | some x => wpLd go bc bs np ls st w (.ref x))
      | _ => False)
    | _ => False)
  | .iastore => (match st with
    | .int x :: .int i :: .ref a :: st => (match nth w a with
      | some (.inl (0, n, .inl f)) => vp_in i n ∧ fL (stN w a (.inl (0, n, .inl (upd f i.toNatClampNeg x)))) (fun w => go bc bs np ls st w)
      | _ => False)
    | _ => False)
  | .bastore => (match st with
    | .int x :: .int i :: .ref a :: st => (match nth w a with
      | some (.inl (1, n, .inl f)) => vp_in i n ∧ fL (stN w a (.inl (1, n, .inl (upd f i.toNatClampNeg (vp_nar .boolean x))))) (fun w => go bc bs np ls st w)
      | some (.inl (3, n, .inl f)) => vp_in i n ∧ fL (stN w a (.inl (3, n, .inl (upd f i.toNatClampNeg (vp_nar .byte x))))) (fun w => go bc bs np ls st w)
      | _ => False)
    | _ => False)
  | .castore => (match st with
    | .int x :: .int i :: .ref a :: st => (match nth w a with
      | some (.inl (2, n, .inl f)) => vp_in i n ∧ fL (stN w a (.inl (2, n, .inl (upd f i.toNatClampNeg (vp_nar .char x))))) (fun w => go bc bs np ls st w)
      | _ => False)
    | _ => False)
  | .lastore => (match st with
    | .long x :: .int i :: .ref a :: st => (match nth w a with
      | some (.inl (4, n, .inr (.inl f))) => vp_in i n ∧ fL (stN w a (.inl (4, n, .inr (.inl (vp_updL f i.toNatClampNeg x))))) (fun w => go bc bs np ls st w)
      | _ => False)
    | _ => False)
  | .dastore => (match st with
    | .double x :: .int i :: .ref a :: st => (match nth w a with
      | some (.inl (5, n, .inr (.inr (.inr (.inl f))))) => vp_in i n ∧ fL (stN w a (.inl (5, n, .inr (.inr (.inr (.inl (vf_upd f i.toNatClampNeg x))))))) (fun w => go bc bs np ls st w)
      | _ => False)
    | _ => False)
  | .aastore => (match st with
    | .ref x :: .int i :: .ref a :: st => (match nth w a, nth w x with
      | some (.inl (6, n, .inr (.inr (.inr (.inr f))))), some (.inr (4, _)) => vp_in i n ∧ fL (stN w a (.inl (6, n, .inr (.inr (.inr (.inr (va_up f i.toNatClampNeg (some x)))))))) (fun w => go bc bs np ls st w)
      | _, _ => False)
    | _ => False)
  | .invokevirtual k => (match M.cp.mth k with
    | some (0, m, ci) => wpKV G M d K go bc bs np ls st w m ci
    | some (9, m, ci) => wpKU G d go bc bs np ls st w m
    | _ => False)
  | .invokestatic k => (match M.cp.mth k with
    | some (1, m, ci) => wpKS G d go bc bs np ls st w m
    | some (3, m, ci) => wpKS G d go bc bs np ls st w m
    | some (6, m, ci) => wpKX d go bc bs np ls st w
    | some (7, m, ci) => wpKM d go bc bs np ls st w
    | some (8, m, ci) => wpKC d go bc bs np ls st w
    | some (11, m, ci) => wpKS G d go bc bs np ls st w m
    | _ => False)
  | .invokespecial k => (match M.cp.mth k with
    | some (2, m, ci) => wpKI G d go bc bs np ls st w m
    | some (4, m, ci) => wpKI G d go bc bs np ls st w m
    | some (5, m, ci) => wpKO d go bc bs np ls st w
    | some (10, m, ci) => wpKU G d go bc bs np ls st w m
    | _ => False)
  | .ireturn => (match st with
    | [.int x] => (match M.m.ret with
      | some .int => K (some (.int x)) w
      | some ty => narrow ty (.int x) = .int x ∧ K (some (.int x)) w
      | none => False)
    | _ => False)
  | .areturn => (match st with
    | [.ref x] => K (some (.ref x)) w
    | [.retAddr x] => K (some (.retAddr x)) w
    | _ => False)
  | .dreturn => (match st with | [.double x] => K (some (.double x)) w | _ => False)
  | .freturn => (match st with | [.float x] => K (some (.float x)) w | _ => False)
  | .return_ => (match st with | [] => K none w | _ => False)
  | _ => False
def wp : Nat → Nat → Nat → Nat → List (Option Value) → List Value → xW → Prop
  | 0, bc, bs, pc, ls, st, w => AW G M d bc bs pc ls st w K KX
  | n + 1, bc, bs, pc, ls, st, w => (match M.cd pc with
    | some (i, np, tg) => wpI G M d K KX (wpG G M cut d K KX (wp n)) bc bs pc ls st w i np tg
    | none => False)
end WPS
end
section
/-! ===== the walk is right: instructions that move values only ===== -/
theorem rVs.cons {G : gT} {ad : List Nat} {v c : Value} {vs cs : List Value} (h : rV G ad v c) (h2 : rVs G ad vs cs) : rVs G ad (v :: vs) (c :: cs) := ⟨c, cs, rfl, h, h2⟩
theorem rL.at {G : gT} {ad : List Nat} {ls : List (Option Value)} {lc : Array Slot} {nL : Nat} (h : rL G ad ls lc nL) {i : Nat} {v : Value} (hv : gtL ls i = some v) : ∃ c, rV G ad v c ∧ lc[i]? = some (.val c) := h.2.2 i v (gtL_some hv)
theorem rL.msk {G : gT} {ad : List Nat} {ls : List (Option Value)} {lc : Array Slot} {nL : Nat} (h : rL G ad ls lc nL) (b : List Bool) : rL G ad (msk b ls) lc nL := ⟨h.1, h.2.1, fun i v hv => h.2.2 i v (msk_at b ls i v hv)⟩
theorem AW.msk {G : gT} {M : mT} {d bc bs pc : Nat} {ls : List (Option Value)} {st : List Value} {w : xW} {K : Option Value → xW → Prop} {KX : Nat → xW → Prop} (b : List Bool) (h : AW G M d bc bs pc (msk b ls) st w K KX) : AW G M d bc bs pc ls st w K KX :=
  fun A ad0 R p e s m args below meth c Q C F ad ws H locs cells slots lc sc hW hL hS h1 h2 => h A ad0 R p e s m args below meth c Q C F ad ws H locs cells slots lc sc hW (hL.msk b) hS h1 h2
/-- all values of the locals -/
def allL (lc : Array Slot) : List (Nat × Value) := (List.range lc.size).filterMap (fun (i : Nat) => match (lc[i]? : Option Slot) with
  | some (.val v) => some (i, v)
  | _ => none)
theorem allL_in {lc : Array Slot} {i : Nat} {v : Value} : (i, v) ∈ allL lc ↔ lc[i]? = some (.val v) := by
  unfold allL
  rw [List.mem_filterMap]
  constructor
  · rintro ⟨j, -, hj⟩
    split at hj
    · cases hj; assumption
    · cases hj
  · intro h
    refine ⟨i, List.mem_range.mpr (Array.getElem?_eq_some_iff.mp h).1, ?_⟩
    rw [h]
theorem rL.all {G : gT} {ad : List Nat} {ls : List (Option Value)} {lc : Array Slot} {nL : Nat} (h : rL G ad ls lc nL) : lv_has lc nL (allL lc) := ⟨h.1, h.2.1, fun q hq => allL_in.mp hq⟩
theorem stL_at : ∀ (ls : List (Option Value)) (i : Nat) (v : Value) (j : Nat) (x : Value), (stL ls i v)[j]? = some (some x) → (j = i ∧ x = v) ∨ (¬ j = i ∧ ls[j]? = some (some x) ∧ (j + 1 = i → x.category = 1))
  | [], i, v, j, x, h => by simp [stL] at h
  | a :: l, 0, v, 0, x, h => by simp [stL] at h; exact Or.inl ⟨rfl, h.symm⟩
  | a :: l, 0, v, j + 1, x, h => by simp [stL] at h; exact Or.inr ⟨by omega, by simpa using h, by omega⟩
  | a :: l, 1, v, 0, x, h => by
    simp [stL] at h
    refine Or.inr ⟨by omega, ?_, fun _ => ?_⟩
    · cases a with
      | none => simp [clr] at h
      | some y => cases y <;> simp [clr] at h <;> subst h <;> rfl
    · cases a with
      | none => simp [clr] at h
      | some y => cases y <;> simp [clr] at h <;> subst h <;> rfl
  | a :: l, 1, v, j + 1, x, h => by
    simp [stL] at h
    rcases stL_at l 0 v j x h with ⟨q1, q2⟩ | ⟨q1, q2, q3⟩
    · exact Or.inl ⟨by omega, q2⟩
    · exact Or.inr ⟨by omega, by simpa using q2, by omega⟩
  | a :: l, n + 2, v, 0, x, h => by simp [stL] at h; exact Or.inr ⟨by omega, by simpa using h, by omega⟩
  | a :: l, n + 2, v, j + 1, x, h => by
    simp [stL] at h
    rcases stL_at l (n + 1) v j x h with ⟨q1, q2⟩ | ⟨q1, q2, q3⟩
    · exact Or.inl ⟨by omega, q2⟩
    · exact Or.inr ⟨by omega, by simpa using q2, fun h => q3 (by omega)⟩
theorem rL.st1 {G : gT} {ad : List Nat} {ls : List (Option Value)} {lc lc' : Array Slot} {nL i : Nat} {v c : Value} (hs : ∀ j, (G.sad j).category = 1) (h : rL G ad ls lc nL) (hv : rV G ad v c)
    (h' : lv_has lc' nL ((i, c) :: (allL lc).filter (fun q => !(q.1 == i) && !(q.1 + 1 == i && q.2.category == 2)))) : rL G ad (stL ls i v) lc' nL := by
  refine ⟨h'.1, h'.2.1, fun j x hx => ?_⟩
  rcases stL_at ls i v j x hx with ⟨rfl, rfl⟩ | ⟨h1, h2, h3⟩
  · exact ⟨c, hv, h'.2.2 (j, c) List.mem_cons_self⟩
  · obtain ⟨c2, q1, q2⟩ := h.2.2 j x h2
    refine ⟨c2, q1, h'.2.2 (j, c2) (List.mem_cons_of_mem _ (List.mem_filter.mpr ⟨allL_in.mpr q2, ?_⟩))⟩
    have hc := q1.cat hs
    by_cases hj : j + 1 = i
    · have := h3 hj
      simp [h1, hc, this]
    · simp [h1, hj]
theorem stN_at {α : Type} {l : List α} {i j : Nat} {x y : α} (h : (stN l i x)[j]? = some y) : (j = i ∧ y = x) ∨ (¬ j = i ∧ l[j]? = some y) := by
  rw [stN_eq] at h
  by_cases hj : i = j
  · subst hj
    have hlt : i < (l.set i x).length := (List.getElem?_eq_some_iff.mp h).1
    rw [List.getElem?_set_self (by simpa using hlt)] at h
    cases h
    exact Or.inl ⟨rfl, rfl⟩
  · rw [List.getElem?_set_ne hj] at h
    exact Or.inr ⟨fun q => hj q.symm, h⟩
theorem rL.st2 {G : gT} {ad : List Nat} {ls : List (Option Value)} {lc lc' : Array Slot} {nL i : Nat} {v c : Value} (hs : ∀ j, (G.sad j).category = 1) (h : rL G ad ls lc nL) (hv : rV G ad v c)
    (h' : lv_has lc' nL ((i, c) :: (allL lc).filter (fun q => !(q.1 == i) && (!(q.1 == i + 1) && !(q.1 + 1 == i && q.2.category == 2))))) : rL G ad (st2 ls i v) lc' nL := by
  refine ⟨h'.1, h'.2.1, fun j x hx => ?_⟩
  have hx : (stN (stL ls i v) (i + 1) none)[j]? = some (some x) := hx
  rcases stN_at hx with ⟨-, h0⟩ | ⟨h0, hx⟩
  · cases h0
  rcases stL_at ls i v j x hx with ⟨rfl, rfl⟩ | ⟨h1, h2, h3⟩
  · exact ⟨c, hv, h'.2.2 (j, c) List.mem_cons_self⟩
  · obtain ⟨c2, q1, q2⟩ := h.2.2 j x h2
    refine ⟨c2, q1, h'.2.2 (j, c2) (List.mem_cons_of_mem _ (List.mem_filter.mpr ⟨allL_in.mpr q2, ?_⟩))⟩
    have hc := q1.cat hs
    by_cases hj : j + 1 = i
    · have := h3 hj
      simp [h1, h0, hc, this]
    · simp [h1, h0, hj]
section QQ
variable {G : gT} {M : mT} {d bc bs pc : Nat} {ls : List (Option Value)} {st : List Value} {w : xW} {K : Option Value → xW → Prop} {KX : Nat → xW → Prop} {go : recT}
theorem q_iconst (hgo : ∀ bc bs pc ls st w, go bc bs pc ls st w → AW G M d bc bs pc ls st w K KX) {n : Int} (hd : decode M.m.cc pc = .ok (.iconst n, 1)) (h : go bc bs (pc + 1) ls (.int (Int32.ofInt n) :: st) w) : AW G M d bc bs pc ls st w K KX := by
  intro A ad0 R p e s m args below meth c Q C F ad ws H locs cells slots lc sc hW hL hS h1 h2
  exact lv_iconst C.1 C.2.1 hd rfl (hgo _ _ _ _ _ _ h A ad0 R p e s m args below meth c Q C F ad ws H locs cells slots lc _ hW hL (.cons rfl hS) h1 h2)
theorem q_bipush (hgo : ∀ bc bs pc ls st w, go bc bs pc ls st w → AW G M d bc bs pc ls st w K KX) {n : Int} (hd : decode M.m.cc pc = .ok (.bipush n, 2)) (h : go bc bs (pc + 2) ls (.int (Int8.ofInt n).toInt32 :: st) w) : AW G M d bc bs pc ls st w K KX := by
  intro A ad0 R p e s m args below meth c Q C F ad ws H locs cells slots lc sc hW hL hS h1 h2
  exact lv_bipush C.1 C.2.1 hd rfl (hgo _ _ _ _ _ _ h A ad0 R p e s m args below meth c Q C F ad ws H locs cells slots lc _ hW hL (.cons rfl hS) h1 h2)
theorem q_sipush (hgo : ∀ bc bs pc ls st w, go bc bs pc ls st w → AW G M d bc bs pc ls st w K KX) {n : Int} (hd : decode M.m.cc pc = .ok (.sipush n, 3)) (h : go bc bs (pc + 3) ls (.int (Int16.ofInt n).toInt32 :: st) w) : AW G M d bc bs pc ls st w K KX := by
  intro A ad0 R p e s m args below meth c Q C F ad ws H locs cells slots lc sc hW hL hS h1 h2
  exact lv_sipush C.1 C.2.1 hd rfl (hgo _ _ _ _ _ _ h A ad0 R p e s m args below meth c Q C F ad ws H locs cells slots lc _ hW hL (.cons rfl hS) h1 h2)
theorem q_aconst_null (hgo : ∀ bc bs pc ls st w, go bc bs pc ls st w → AW G M d bc bs pc ls st w K KX) (hd : decode M.m.cc pc = .ok (.aconst_null, 1)) (h : go bc bs (pc + 1) ls (.null :: st) w) : AW G M d bc bs pc ls st w K KX := by
  intro A ad0 R p e s m args below meth c Q C F ad ws H locs cells slots lc sc hW hL hS h1 h2
  exact lv_null C.1 C.2.1 hd (hgo _ _ _ _ _ _ h A ad0 R p e s m args below meth c Q C F ad ws H locs cells slots lc _ hW hL (.cons rfl hS) h1 h2)
theorem q_fconst0 (hgo : ∀ bc bs pc ls st w, go bc bs pc ls st w → AW G M d bc bs pc ls st w K KX) (hd : decode M.m.cc pc = .ok (.fconst 0, 1)) (h : go bc bs (pc + 1) ls (.float FP.fconst0 :: st) w) : AW G M d bc bs pc ls st w K KX := by
  intro A ad0 R p e s m args below meth c Q C F ad ws H locs cells slots lc sc hW hL hS h1 h2
  exact lv_fconst0 C.1 C.2.1 hd (hgo _ _ _ _ _ _ h A ad0 R p e s m args below meth c Q C F ad ws H locs cells slots lc _ hW hL (.cons rfl hS) h1 h2)
theorem q_dconst0 (hgo : ∀ bc bs pc ls st w, go bc bs pc ls st w → AW G M d bc bs pc ls st w K KX) (hd : decode M.m.cc pc = .ok (.dconst 0, 1)) (h : go bc bs (pc + 1) ls (.double FP.dconst0 :: st) w) : AW G M d bc bs pc ls st w K KX := by
  intro A ad0 R p e s m args below meth c Q C F ad ws H locs cells slots lc sc hW hL hS h1 h2
  exact lv_dconst0 C.1 C.2.1 hd (hgo _ _ _ _ _ _ h A ad0 R p e s m args below meth c Q C F ad ws H locs cells slots lc _ hW hL (.cons rfl hS) h1 h2)
theorem q_iload_n (hgo : ∀ bc bs pc ls st w, go bc bs pc ls st w → AW G M d bc bs pc ls st w K KX) {k : Fin 4} {x : Int32} (hd : decode M.m.cc pc = .ok (.iload_n k, 1)) (hx : gtL ls k = some (.int x)) (h : go bc bs (pc + 1) ls (.int x :: st) w) : AW G M d bc bs pc ls st w K KX := by
  intro A ad0 R p e s m args below meth c Q C F ad ws H locs cells slots lc sc hW hL hS h1 h2
  obtain ⟨v, hv, hq⟩ := hL.at hx
  cases (show v = _ from hv)
  exact lv_iload_n C.1 C.2.1 hd rfl hq (hgo _ _ _ _ _ _ h A ad0 R p e s m args below meth c Q C F ad ws H locs cells slots lc _ hW hL (.cons rfl hS) h1 h2)
theorem q_iload (hgo : ∀ bc bs pc ls st w, go bc bs pc ls st w → AW G M d bc bs pc ls st w K KX) {k : Nat} {x : Int32} (hd : decode M.m.cc pc = .ok (.iload k, 2)) (hx : gtL ls k = some (.int x)) (h : go bc bs (pc + 2) ls (.int x :: st) w) : AW G M d bc bs pc ls st w K KX := by
  intro A ad0 R p e s m args below meth c Q C F ad ws H locs cells slots lc sc hW hL hS h1 h2
  obtain ⟨v, hv, hq⟩ := hL.at hx
  cases (show v = _ from hv)
  exact lv_iload C.1 C.2.1 hd hq (hgo _ _ _ _ _ _ h A ad0 R p e s m args below meth c Q C F ad ws H locs cells slots lc _ hW hL (.cons rfl hS) h1 h2)
theorem q_fload (hgo : ∀ bc bs pc ls st w, go bc bs pc ls st w → AW G M d bc bs pc ls st w K KX) {k : Nat} {x : UInt32} (hd : decode M.m.cc pc = .ok (.fload k, 2)) (hx : gtL ls k = some (.float x)) (h : go bc bs (pc + 2) ls (.float x :: st) w) : AW G M d bc bs pc ls st w K KX := by
  intro A ad0 R p e s m args below meth c Q C F ad ws H locs cells slots lc sc hW hL hS h1 h2
  obtain ⟨v, hv, hq⟩ := hL.at hx
  cases (show v = _ from hv)
  exact lv_fload C.1 C.2.1 hd hq (hgo _ _ _ _ _ _ h A ad0 R p e s m args below meth c Q C F ad ws H locs cells slots lc _ hW hL (.cons rfl hS) h1 h2)
theorem q_dload (hgo : ∀ bc bs pc ls st w, go bc bs pc ls st w → AW G M d bc bs pc ls st w K KX) {k : Nat} {x : UInt64} (hd : decode M.m.cc pc = .ok (.dload k, 2)) (hx : gtL ls k = some (.double x)) (h : go bc bs (pc + 2) ls (.double x :: st) w) : AW G M d bc bs pc ls st w K KX := by
  intro A ad0 R p e s m args below meth c Q C F ad ws H locs cells slots lc sc hW hL hS h1 h2
  obtain ⟨v, hv, hq⟩ := hL.at hx
  cases (show v = _ from hv)
  exact lv_dload C.1 C.2.1 hd hq (hgo _ _ _ _ _ _ h A ad0 R p e s m args below meth c Q C F ad ws H locs cells slots lc _ hW hL (.cons rfl hS) h1 h2)
theorem q_aload_n (hgo : ∀ bc bs pc ls st w, go bc bs pc ls st w → AW G M d bc bs pc ls st w K KX) (hsa : ∀ j, G.sad j = .null ∨ ∃ a, G.sad j = .ref a) {k : Fin 4} {v : Value} (hr : v = .null ∨ (∃ a, v = .ref a) ∨ ∃ a, v = .retAddr a) (hd : decode M.m.cc pc = .ok (.aload_n k, 1)) (hx : gtL ls k = some v) (h : go bc bs (pc + 1) ls (v :: st) w) : AW G M d bc bs pc ls st w K KX := by
  intro A ad0 R p e s m args below meth c Q C F ad ws H locs cells slots lc sc hW hL hS h1 h2
  obtain ⟨cv, hv, hq⟩ := hL.at hx
  have hc : cv = .null ∨ ∃ a, cv = .ref a := by
    rcases hr with rfl | ⟨a, rfl⟩ | ⟨a, rfl⟩
    · exact Or.inl hv
    · obtain ⟨b, -, h9⟩ := hv
      exact Or.inr ⟨b, h9⟩
    · rw [show cv = _ from hv]; exact hsa a
  have hk := hgo _ _ _ _ _ _ h A ad0 R p e s m args below meth c Q C F ad ws H locs cells slots lc _ hW hL (.cons hv hS) h1 h2
  rcases hc with rfl | ⟨a, rfl⟩
  · exact lv_aload_nN C.1 C.2.1 hd rfl hq hk
  · exact lv_aload_n C.1 C.2.1 hd rfl hq hk
theorem q_aload (hgo : ∀ bc bs pc ls st w, go bc bs pc ls st w → AW G M d bc bs pc ls st w K KX) (hsa : ∀ j, G.sad j = .null ∨ ∃ a, G.sad j = .ref a) {k : Nat} {v : Value} (hr : v = .null ∨ (∃ a, v = .ref a) ∨ ∃ a, v = .retAddr a) (hd : decode M.m.cc pc = .ok (.aload k, 2)) (hx : gtL ls k = some v) (h : go bc bs (pc + 2) ls (v :: st) w) : AW G M d bc bs pc ls st w K KX := by
  intro A ad0 R p e s m args below meth c Q C F ad ws H locs cells slots lc sc hW hL hS h1 h2
  obtain ⟨cv, hv, hq⟩ := hL.at hx
  have hc : cv = .null ∨ ∃ a, cv = .ref a := by
    rcases hr with rfl | ⟨a, rfl⟩ | ⟨a, rfl⟩
    · exact Or.inl hv
    · obtain ⟨b, -, h9⟩ := hv
      exact Or.inr ⟨b, h9⟩
    · rw [show cv = _ from hv]; exact hsa a
  have hk := hgo _ _ _ _ _ _ h A ad0 R p e s m args below meth c Q C F ad ws H locs cells slots lc _ hW hL (.cons hv hS) h1 h2
  rcases hc with rfl | ⟨a, rfl⟩
  · exact lv_aloadN C.1 C.2.1 hd hq hk
  · exact lv_aload C.1 C.2.1 hd hq hk
theorem q_istore_n (hgo : ∀ bc bs pc ls st w, go bc bs pc ls st w → AW G M d bc bs pc ls st w K KX) (hs : ∀ j, (G.sad j).category = 1) {k : Fin 4} {x : Int32} (hn : k < M.m.nL) (hd : decode M.m.cc pc = .ok (.istore_n k, 1)) (h : go bc bs (pc + 1) (stL ls k (.int x)) st w) : AW G M d bc bs pc ls (.int x :: st) w K KX := by
  intro A ad0 R p e s m args below meth c Q C F ad ws H locs cells slots lc sc hW hL hS h1 h2
  obtain ⟨cv, sc, rfl, hv, hS⟩ := hS
  cases (show cv = _ from hv)
  exact lv_istore_n C.1 C.2.1 hd rfl hL.all hn rfl (fun lc2 hl2 => hgo _ _ _ _ _ _ h A ad0 R p e s m args below meth c Q C F ad ws H locs cells slots lc2 _ hW (hL.st1 hs rfl hl2) hS h1 h2)
theorem q_istore (hgo : ∀ bc bs pc ls st w, go bc bs pc ls st w → AW G M d bc bs pc ls st w K KX) (hs : ∀ j, (G.sad j).category = 1) {k : Nat} {x : Int32} (hn : k < M.m.nL) (hd : decode M.m.cc pc = .ok (.istore k, 2)) (h : go bc bs (pc + 2) (stL ls k (.int x)) st w) : AW G M d bc bs pc ls (.int x :: st) w K KX := by
  intro A ad0 R p e s m args below meth c Q C F ad ws H locs cells slots lc sc hW hL hS h1 h2
  obtain ⟨cv, sc, rfl, hv, hS⟩ := hS
  cases (show cv = _ from hv)
  exact lv_istore C.1 C.2.1 hd hL.all hn rfl (fun lc2 hl2 => hgo _ _ _ _ _ _ h A ad0 R p e s m args below meth c Q C F ad ws H locs cells slots lc2 _ hW (hL.st1 hs rfl hl2) hS h1 h2)
theorem q_fstore (hgo : ∀ bc bs pc ls st w, go bc bs pc ls st w → AW G M d bc bs pc ls st w K KX) (hs : ∀ j, (G.sad j).category = 1) {k : Nat} {x : UInt32} (hn : k < M.m.nL) (hd : decode M.m.cc pc = .ok (.fstore k, 2)) (h : go bc bs (pc + 2) (stL ls k (.float x)) st w) : AW G M d bc bs pc ls (.float x :: st) w K KX := by
  intro A ad0 R p e s m args below meth c Q C F ad ws H locs cells slots lc sc hW hL hS h1 h2
  obtain ⟨cv, sc, rfl, hv, hS⟩ := hS
  cases (show cv = _ from hv)
  exact lv_fstore C.1 C.2.1 hd hL.all hn rfl (fun lc2 hl2 => hgo _ _ _ _ _ _ h A ad0 R p e s m args below meth c Q C F ad ws H locs cells slots lc2 _ hW (hL.st1 hs rfl hl2) hS h1 h2)
theorem q_dstore (hgo : ∀ bc bs pc ls st w, go bc bs pc ls st w → AW G M d bc bs pc ls st w K KX) (hs : ∀ j, (G.sad j).category = 1) {k : Nat} {x : UInt64} (hn : k + 1 < M.m.nL) (hd : decode M.m.cc pc = .ok (.dstore k, 2)) (h : go bc bs (pc + 2) (st2 ls k (.double x)) st w) : AW G M d bc bs pc ls (.double x :: st) w K KX := by
  intro A ad0 R p e s m args below meth c Q C F ad ws H locs cells slots lc sc hW hL hS h1 h2
  obtain ⟨cv, sc, rfl, hv, hS⟩ := hS
  cases (show cv = _ from hv)
  exact lv_dstore C.1 C.2.1 hd hL.all hn rfl (fun lc2 hl2 => hgo _ _ _ _ _ _ h A ad0 R p e s m args below meth c Q C F ad ws H locs cells slots lc2 _ hW (hL.st2 hs rfl hl2) hS h1 h2)
theorem q_astore_n (hgo : ∀ bc bs pc ls st w, go bc bs pc ls st w → AW G M d bc bs pc ls st w K KX) (hs : ∀ j, (G.sad j).category = 1) (hsa : ∀ j, G.sad j = .null ∨ ∃ a, G.sad j = .ref a) {k : Fin 4} {v : Value} (hr : v = .null ∨ (∃ a, v = .ref a) ∨ ∃ a, v = .retAddr a) (hn : k < M.m.nL) (hd : decode M.m.cc pc = .ok (.astore_n k, 1)) (h : go bc bs (pc + 1) (stL ls k v) st w) : AW G M d bc bs pc ls (v :: st) w K KX := by
  intro A ad0 R p e s m args below meth c Q C F ad ws H locs cells slots lc sc hW hL hS h1 h2
  obtain ⟨cv, sc, rfl, hv, hS⟩ := hS
  have hc : cv = .null ∨ ∃ a, cv = .ref a := by
    rcases hr with rfl | ⟨a, rfl⟩ | ⟨a, rfl⟩
    · exact Or.inl hv
    · obtain ⟨b, -, h9⟩ := hv
      exact Or.inr ⟨b, h9⟩
    · rw [show cv = _ from hv]; exact hsa a
  rcases hc with rfl | ⟨a, rfl⟩
  · exact lv_astore_nN C.1 C.2.1 hd rfl hL.all hn rfl (fun lc2 hl2 => hgo _ _ _ _ _ _ h A ad0 R p e s m args below meth c Q C F ad ws H locs cells slots lc2 _ hW (hL.st1 hs hv hl2) hS h1 h2)
  · exact lv_astore_n C.1 C.2.1 hd rfl hL.all hn rfl (fun lc2 hl2 => hgo _ _ _ _ _ _ h A ad0 R p e s m args below meth c Q C F ad ws H locs cells slots lc2 _ hW (hL.st1 hs hv hl2) hS h1 h2)
theorem q_astore (hgo : ∀ bc bs pc ls st w, go bc bs pc ls st w → AW G M d bc bs pc ls st w K KX) (hs : ∀ j, (G.sad j).category = 1) (hsa : ∀ j, G.sad j = .null ∨ ∃ a, G.sad j = .ref a) {k : Nat} {v : Value} (hr : v = .null ∨ (∃ a, v = .ref a) ∨ ∃ a, v = .retAddr a) (hn : k < M.m.nL) (hd : decode M.m.cc pc = .ok (.astore k, 2)) (h : go bc bs (pc + 2) (stL ls k v) st w) : AW G M d bc bs pc ls (v :: st) w K KX := by
  intro A ad0 R p e s m args below meth c Q C F ad ws H locs cells slots lc sc hW hL hS h1 h2
  obtain ⟨cv, sc, rfl, hv, hS⟩ := hS
  have hc : cv = .null ∨ ∃ a, cv = .ref a := by
    rcases hr with rfl | ⟨a, rfl⟩ | ⟨a, rfl⟩
    · exact Or.inl hv
    · obtain ⟨b, -, h9⟩ := hv
      exact Or.inr ⟨b, h9⟩
    · rw [show cv = _ from hv]; exact hsa a
  rcases hc with rfl | ⟨a, rfl⟩
  · exact lv_astoreN C.1 C.2.1 hd hL.all hn rfl (fun lc2 hl2 => hgo _ _ _ _ _ _ h A ad0 R p e s m args below meth c Q C F ad ws H locs cells slots lc2 _ hW (hL.st1 hs hv hl2) hS h1 h2)
  · exact lv_astore C.1 C.2.1 hd hL.all hn rfl (fun lc2 hl2 => hgo _ _ _ _ _ _ h A ad0 R p e s m args below meth c Q C F ad ws H locs cells slots lc2 _ hW (hL.st1 hs hv hl2) hS h1 h2)
theorem q_iinc (hgo : ∀ bc bs pc ls st w, go bc bs pc ls st w → AW G M d bc bs pc ls st w K KX) (hs : ∀ j, (G.sad j).category = 1) {k : Nat} {n : Int} {x : Int32} (hn : k < M.m.nL) (hd : decode M.m.cc pc = .ok (.iinc k n, 3)) (hx : gtL ls k = some (.int x)) (h : go bc bs (pc + 3) (stL ls k (.int (x + Int32.ofInt n))) st w) : AW G M d bc bs pc ls st w K KX := by
  intro A ad0 R p e s m args below meth c Q C F ad ws H locs cells slots lc sc hW hL hS h1 h2
  obtain ⟨v, hv, hq⟩ := hL.at hx
  cases (show v = _ from hv)
  obtain ⟨j, hj⟩ := List.getElem?_of_mem (allL_in.mpr hq)
  exact lv_iinc C.1 C.2.1 hd hL.all hj rfl hn rfl (fun lc2 hl2 => hgo _ _ _ _ _ _ h A ad0 R p e s m args below meth c Q C F ad ws H locs cells slots lc2 _ hW (hL.st1 hs rfl hl2) hS h1 h2)
theorem q_iadd (hgo : ∀ bc bs pc ls st w, go bc bs pc ls st w → AW G M d bc bs pc ls st w K KX) {x y : Int32} (hd : decode M.m.cc pc = .ok (.iadd, 1)) (h : go bc bs (pc + 1) ls (.int (x + y) :: st) w) : AW G M d bc bs pc ls (.int y :: .int x :: st) w K KX := by
  intro A ad0 R p e s m args below meth c Q C F ad ws H locs cells slots lc sc hW hL hS h1 h2
  obtain ⟨cy, sc, rfl, hy, cx, sc, rfl, hx, hS⟩ := hS
  cases (show cy = _ from hy); cases (show cx = _ from hx)
  exact lv_iadd C.1 C.2.1 hd (hgo _ _ _ _ _ _ h A ad0 R p e s m args below meth c Q C F ad ws H locs cells slots lc _ hW hL (.cons rfl hS) h1 h2)
theorem q_isub (hgo : ∀ bc bs pc ls st w, go bc bs pc ls st w → AW G M d bc bs pc ls st w K KX) {x y : Int32} (hd : decode M.m.cc pc = .ok (.isub, 1)) (h : go bc bs (pc + 1) ls (.int (x - y) :: st) w) : AW G M d bc bs pc ls (.int y :: .int x :: st) w K KX := by
  intro A ad0 R p e s m args below meth c Q C F ad ws H locs cells slots lc sc hW hL hS h1 h2
  obtain ⟨cy, sc, rfl, hy, cx, sc, rfl, hx, hS⟩ := hS
  cases (show cy = _ from hy); cases (show cx = _ from hx)
  exact lv_isub C.1 C.2.1 hd (hgo _ _ _ _ _ _ h A ad0 R p e s m args below meth c Q C F ad ws H locs cells slots lc _ hW hL (.cons rfl hS) h1 h2)
theorem q_imul (hgo : ∀ bc bs pc ls st w, go bc bs pc ls st w → AW G M d bc bs pc ls st w K KX) {x y : Int32} (hd : decode M.m.cc pc = .ok (.imul, 1)) (h : go bc bs (pc + 1) ls (.int (x * y) :: st) w) : AW G M d bc bs pc ls (.int y :: .int x :: st) w K KX := by
  intro A ad0 R p e s m args below meth c Q C F ad ws H locs cells slots lc sc hW hL hS h1 h2
  obtain ⟨cy, sc, rfl, hy, cx, sc, rfl, hx, hS⟩ := hS
  cases (show cy = _ from hy); cases (show cx = _ from hx)
  exact lv_imul C.1 C.2.1 hd (hgo _ _ _ _ _ _ h A ad0 R p e s m args below meth c Q C F ad ws H locs cells slots lc _ hW hL (.cons rfl hS) h1 h2)
theorem q_iand (hgo : ∀ bc bs pc ls st w, go bc bs pc ls st w → AW G M d bc bs pc ls st w K KX) {x y : Int32} (hd : decode M.m.cc pc = .ok (.iand, 1)) (h : go bc bs (pc + 1) ls (.int (x &&& y) :: st) w) : AW G M d bc bs pc ls (.int y :: .int x :: st) w K KX := by
  intro A ad0 R p e s m args below meth c Q C F ad ws H locs cells slots lc sc hW hL hS h1 h2
  obtain ⟨cy, sc, rfl, hy, cx, sc, rfl, hx, hS⟩ := hS
  cases (show cy = _ from hy); cases (show cx = _ from hx)
  exact lv_iand C.1 C.2.1 hd (hgo _ _ _ _ _ _ h A ad0 R p e s m args below meth c Q C F ad ws H locs cells slots lc _ hW hL (.cons rfl hS) h1 h2)
theorem q_ior (hgo : ∀ bc bs pc ls st w, go bc bs pc ls st w → AW G M d bc bs pc ls st w K KX) {x y : Int32} (hd : decode M.m.cc pc = .ok (.ior, 1)) (h : go bc bs (pc + 1) ls (.int (x ||| y) :: st) w) : AW G M d bc bs pc ls (.int y :: .int x :: st) w K KX := by
  intro A ad0 R p e s m args below meth c Q C F ad ws H locs cells slots lc sc hW hL hS h1 h2
  obtain ⟨cy, sc, rfl, hy, cx, sc, rfl, hx, hS⟩ := hS
  cases (show cy = _ from hy); cases (show cx = _ from hx)
  exact lv_ior C.1 C.2.1 hd (hgo _ _ _ _ _ _ h A ad0 R p e s m args below meth c Q C F ad ws H locs cells slots lc _ hW hL (.cons rfl hS) h1 h2)
theorem q_ixor (hgo : ∀ bc bs pc ls st w, go bc bs pc ls st w → AW G M d bc bs pc ls st w K KX) {x y : Int32} (hd : decode M.m.cc pc = .ok (.ixor, 1)) (h : go bc bs (pc + 1) ls (.int (x ^^^ y) :: st) w) : AW G M d bc bs pc ls (.int y :: .int x :: st) w K KX := by
  intro A ad0 R p e s m args below meth c Q C F ad ws H locs cells slots lc sc hW hL hS h1 h2
  obtain ⟨cy, sc, rfl, hy, cx, sc, rfl, hx, hS⟩ := hS
  cases (show cy = _ from hy); cases (show cx = _ from hx)
  exact lv_ixor C.1 C.2.1 hd (hgo _ _ _ _ _ _ h A ad0 R p e s m args below meth c Q C F ad ws H locs cells slots lc _ hW hL (.cons rfl hS) h1 h2)
theorem q_ishl (hgo : ∀ bc bs pc ls st w, go bc bs pc ls st w → AW G M d bc bs pc ls st w K KX) {x y : Int32} (hd : decode M.m.cc pc = .ok (.ishl, 1)) (h : go bc bs (pc + 1) ls (.int (x <<< (y &&& 31)) :: st) w) : AW G M d bc bs pc ls (.int y :: .int x :: st) w K KX := by
  intro A ad0 R p e s m args below meth c Q C F ad ws H locs cells slots lc sc hW hL hS h1 h2
  obtain ⟨cy, sc, rfl, hy, cx, sc, rfl, hx, hS⟩ := hS
  cases (show cy = _ from hy); cases (show cx = _ from hx)
  exact lv_ishl C.1 C.2.1 hd (hgo _ _ _ _ _ _ h A ad0 R p e s m args below meth c Q C F ad ws H locs cells slots lc _ hW hL (.cons rfl hS) h1 h2)
theorem q_ishr (hgo : ∀ bc bs pc ls st w, go bc bs pc ls st w → AW G M d bc bs pc ls st w K KX) {x y : Int32} (hd : decode M.m.cc pc = .ok (.ishr, 1)) (h : go bc bs (pc + 1) ls (.int (x >>> (y &&& 31)) :: st) w) : AW G M d bc bs pc ls (.int y :: .int x :: st) w K KX := by
  intro A ad0 R p e s m args below meth c Q C F ad ws H locs cells slots lc sc hW hL hS h1 h2
  obtain ⟨cy, sc, rfl, hy, cx, sc, rfl, hx, hS⟩ := hS
  cases (show cy = _ from hy); cases (show cx = _ from hx)
  exact lv_ishr C.1 C.2.1 hd (hgo _ _ _ _ _ _ h A ad0 R p e s m args below meth c Q C F ad ws H locs cells slots lc _ hW hL (.cons rfl hS) h1 h2)
theorem q_idiv (hgo : ∀ bc bs pc ls st w, go bc bs pc ls st w → AW G M d bc bs pc ls st w K KX) {x y : Int32} (hn : ¬ y = 0) (hd : decode M.m.cc pc = .ok (.idiv, 1)) (h : go bc bs (pc + 1) ls (.int (x / y) :: st) w) : AW G M d bc bs pc ls (.int y :: .int x :: st) w K KX := by
  intro A ad0 R p e s m args below meth c Q C F ad ws H locs cells slots lc sc hW hL hS h1 h2
  obtain ⟨cy, sc, rfl, hy, cx, sc, rfl, hx, hS⟩ := hS
  cases (show cy = _ from hy); cases (show cx = _ from hx)
  exact lv_idiv C.1 C.2.1 hd hn (hgo _ _ _ _ _ _ h A ad0 R p e s m args below meth c Q C F ad ws H locs cells slots lc _ hW hL (.cons rfl hS) h1 h2)
theorem q_irem (hgo : ∀ bc bs pc ls st w, go bc bs pc ls st w → AW G M d bc bs pc ls st w K KX) {x y : Int32} (hn : ¬ y = 0) (hd : decode M.m.cc pc = .ok (.irem, 1)) (h : go bc bs (pc + 1) ls (.int (x - x / y * y) :: st) w) : AW G M d bc bs pc ls (.int y :: .int x :: st) w K KX := by
  intro A ad0 R p e s m args below meth c Q C F ad ws H locs cells slots lc sc hW hL hS h1 h2
  obtain ⟨cy, sc, rfl, hy, cx, sc, rfl, hx, hS⟩ := hS
  cases (show cy = _ from hy); cases (show cx = _ from hx)
  exact lv_irem C.1 C.2.1 hd hn (hgo _ _ _ _ _ _ h A ad0 R p e s m args below meth c Q C F ad ws H locs cells slots lc _ hW hL (.cons rfl hS) h1 h2)
theorem q_ddiv (hgo : ∀ bc bs pc ls st w, go bc bs pc ls st w → AW G M d bc bs pc ls st w K KX) {x y : UInt64} (hn : vf_n64 (FP.ddiv x y)) (hd : decode M.m.cc pc = .ok (.ddiv, 1)) (h : go bc bs (pc + 1) ls (.double (FP.ddiv x y) :: st) w) : AW G M d bc bs pc ls (.double y :: .double x :: st) w K KX := by
  intro A ad0 R p e s m args below meth c Q C F ad ws H locs cells slots lc sc hW hL hS h1 h2
  obtain ⟨cy, sc, rfl, hy, cx, sc, rfl, hx, hS⟩ := hS
  cases (show cy = _ from hy); cases (show cx = _ from hx)
  exact lv_ddiv C.1 C.2.1 hd hn (hgo _ _ _ _ _ _ h A ad0 R p e s m args below meth c Q C F ad ws H locs cells slots lc _ hW hL (.cons rfl hS) h1 h2)
theorem q_fdiv (hgo : ∀ bc bs pc ls st w, go bc bs pc ls st w → AW G M d bc bs pc ls st w K KX) {x y : UInt32} (hn : vf_n32 (FP.fdiv x y)) (hd : decode M.m.cc pc = .ok (.fdiv, 1)) (h : go bc bs (pc + 1) ls (.float (FP.fdiv x y) :: st) w) : AW G M d bc bs pc ls (.float y :: .float x :: st) w K KX := by
  intro A ad0 R p e s m args below meth c Q C F ad ws H locs cells slots lc sc hW hL hS h1 h2
  obtain ⟨cy, sc, rfl, hy, cx, sc, rfl, hx, hS⟩ := hS
  cases (show cy = _ from hy); cases (show cx = _ from hx)
  exact lv_fdiv C.1 C.2.1 hd hn (hgo _ _ _ _ _ _ h A ad0 R p e s m args below meth c Q C F ad ws H locs cells slots lc _ hW hL (.cons rfl hS) h1 h2)
theorem q_lcmp (hgo : ∀ bc bs pc ls st w, go bc bs pc ls st w → AW G M d bc bs pc ls st w K KX) {x y : Int64} (hd : decode M.m.cc pc = .ok (.lcmp, 1)) (h : go bc bs (pc + 1) ls (.int (lg_cmp x y) :: st) w) : AW G M d bc bs pc ls (.long y :: .long x :: st) w K KX := by
  intro A ad0 R p e s m args below meth c Q C F ad ws H locs cells slots lc sc hW hL hS h1 h2
  obtain ⟨cy, sc, rfl, hy, cx, sc, rfl, hx, hS⟩ := hS
  cases (show cy = _ from hy); cases (show cx = _ from hx)
  exact W.lcmp C.1 C.2.1 hd (hgo _ _ _ _ _ _ h A ad0 R p e s m args below meth c Q C F ad ws H locs cells slots lc _ hW hL (.cons rfl hS) h1 h2)
theorem q_dcmp (hgo : ∀ bc bs pc ls st w, go bc bs pc ls st w → AW G M d bc bs pc ls st w K KX) {op : CmpOp} {x y : UInt64} (hd : decode M.m.cc pc = .ok (.dcmp op, 1)) (h : go bc bs (pc + 1) ls (.int (Op.cmpValue (FP.dcmp x y) op) :: st) w) : AW G M d bc bs pc ls (.double y :: .double x :: st) w K KX := by
  intro A ad0 R p e s m args below meth c Q C F ad ws H locs cells slots lc sc hW hL hS h1 h2
  obtain ⟨cy, sc, rfl, hy, cx, sc, rfl, hx, hS⟩ := hS
  cases (show cy = _ from hy); cases (show cx = _ from hx)
  exact lv_dcmp C.1 C.2.1 hd (hgo _ _ _ _ _ _ h A ad0 R p e s m args below meth c Q C F ad ws H locs cells slots lc _ hW hL (.cons rfl hS) h1 h2)
theorem q_fcmp (hgo : ∀ bc bs pc ls st w, go bc bs pc ls st w → AW G M d bc bs pc ls st w K KX) {op : CmpOp} {x y : UInt32} (hd : decode M.m.cc pc = .ok (.fcmp op, 1)) (h : go bc bs (pc + 1) ls (.int (Op.cmpValue (FP.fcmp x y) op) :: st) w) : AW G M d bc bs pc ls (.float y :: .float x :: st) w K KX := by
  intro A ad0 R p e s m args below meth c Q C F ad ws H locs cells slots lc sc hW hL hS h1 h2
  obtain ⟨cy, sc, rfl, hy, cx, sc, rfl, hx, hS⟩ := hS
  cases (show cy = _ from hy); cases (show cx = _ from hx)
  exact lv_fcmp C.1 C.2.1 hd (hgo _ _ _ _ _ _ h A ad0 R p e s m args below meth c Q C F ad ws H locs cells slots lc _ hW hL (.cons rfl hS) h1 h2)
theorem q_ineg (hgo : ∀ bc bs pc ls st w, go bc bs pc ls st w → AW G M d bc bs pc ls st w K KX) {x : Int32} (hd : decode M.m.cc pc = .ok (.ineg, 1)) (h : go bc bs (pc + 1) ls (.int (-x) :: st) w) : AW G M d bc bs pc ls (.int x :: st) w K KX := by
  intro A ad0 R p e s m args below meth c Q C F ad ws H locs cells slots lc sc hW hL hS h1 h2
  obtain ⟨cx, sc, rfl, hx, hS⟩ := hS
  cases (show cx = _ from hx)
  exact lv_ineg C.1 C.2.1 hd (hgo _ _ _ _ _ _ h A ad0 R p e s m args below meth c Q C F ad ws H locs cells slots lc _ hW hL (.cons rfl hS) h1 h2)
theorem q_i2l (hgo : ∀ bc bs pc ls st w, go bc bs pc ls st w → AW G M d bc bs pc ls st w K KX) {x : Int32} (hd : decode M.m.cc pc = .ok (.i2l, 1)) (h : go bc bs (pc + 1) ls (.long x.toInt64 :: st) w) : AW G M d bc bs pc ls (.int x :: st) w K KX := by
  intro A ad0 R p e s m args below meth c Q C F ad ws H locs cells slots lc sc hW hL hS h1 h2
  obtain ⟨cx, sc, rfl, hx, hS⟩ := hS
  cases (show cx = _ from hx)
  exact lv_i2l C.1 C.2.1 hd rfl (hgo _ _ _ _ _ _ h A ad0 R p e s m args below meth c Q C F ad ws H locs cells slots lc _ hW hL (.cons rfl hS) h1 h2)
theorem q_i2b (hgo : ∀ bc bs pc ls st w, go bc bs pc ls st w → AW G M d bc bs pc ls st w K KX) {x : Int32} (hd : decode M.m.cc pc = .ok (.i2b, 1)) (h : go bc bs (pc + 1) ls (.int x.toInt8.toInt32 :: st) w) : AW G M d bc bs pc ls (.int x :: st) w K KX := by
  intro A ad0 R p e s m args below meth c Q C F ad ws H locs cells slots lc sc hW hL hS h1 h2
  obtain ⟨cx, sc, rfl, hx, hS⟩ := hS
  cases (show cx = _ from hx)
  exact lv_i2b C.1 C.2.1 hd rfl (hgo _ _ _ _ _ _ h A ad0 R p e s m args below meth c Q C F ad ws H locs cells slots lc _ hW hL (.cons rfl hS) h1 h2)
theorem q_i2c (hgo : ∀ bc bs pc ls st w, go bc bs pc ls st w → AW G M d bc bs pc ls st w K KX) {x : Int32} (hd : decode M.m.cc pc = .ok (.i2c, 1)) (h : go bc bs (pc + 1) ls (.int (x.toUInt32 % 65536).toInt32 :: st) w) : AW G M d bc bs pc ls (.int x :: st) w K KX := by
  intro A ad0 R p e s m args below meth c Q C F ad ws H locs cells slots lc sc hW hL hS h1 h2
  obtain ⟨cx, sc, rfl, hx, hS⟩ := hS
  cases (show cx = _ from hx)
  exact lv_i2c C.1 C.2.1 hd rfl (hgo _ _ _ _ _ _ h A ad0 R p e s m args below meth c Q C F ad ws H locs cells slots lc _ hW hL (.cons rfl hS) h1 h2)
theorem q_i2d (hgo : ∀ bc bs pc ls st w, go bc bs pc ls st w → AW G M d bc bs pc ls st w K KX) {x : Int32} (hd : decode M.m.cc pc = .ok (.i2d, 1)) (h : go bc bs (pc + 1) ls (.double (FP.i2d x) :: st) w) : AW G M d bc bs pc ls (.int x :: st) w K KX := by
  intro A ad0 R p e s m args below meth c Q C F ad ws H locs cells slots lc sc hW hL hS h1 h2
  obtain ⟨cx, sc, rfl, hx, hS⟩ := hS
  cases (show cx = _ from hx)
  exact lv_i2d C.1 C.2.1 hd (hgo _ _ _ _ _ _ h A ad0 R p e s m args below meth c Q C F ad ws H locs cells slots lc _ hW hL (.cons rfl hS) h1 h2)
theorem q_i2f (hgo : ∀ bc bs pc ls st w, go bc bs pc ls st w → AW G M d bc bs pc ls st w K KX) {x : Int32} (hd : decode M.m.cc pc = .ok (.i2f, 1)) (h : go bc bs (pc + 1) ls (.float (FP.i2f x) :: st) w) : AW G M d bc bs pc ls (.int x :: st) w K KX := by
  intro A ad0 R p e s m args below meth c Q C F ad ws H locs cells slots lc sc hW hL hS h1 h2
  obtain ⟨cx, sc, rfl, hx, hS⟩ := hS
  cases (show cx = _ from hx)
  exact lv_i2f C.1 C.2.1 hd (hgo _ _ _ _ _ _ h A ad0 R p e s m args below meth c Q C F ad ws H locs cells slots lc _ hW hL (.cons rfl hS) h1 h2)
theorem q_f2d (hgo : ∀ bc bs pc ls st w, go bc bs pc ls st w → AW G M d bc bs pc ls st w K KX) {x : UInt32} (hn : vf_n64 (FP.f2d x)) (hd : decode M.m.cc pc = .ok (.f2d, 1)) (h : go bc bs (pc + 1) ls (.double (FP.f2d x) :: st) w) : AW G M d bc bs pc ls (.float x :: st) w K KX := by
  intro A ad0 R p e s m args below meth c Q C F ad ws H locs cells slots lc sc hW hL hS h1 h2
  obtain ⟨cx, sc, rfl, hx, hS⟩ := hS
  cases (show cx = _ from hx)
  exact lv_f2d C.1 C.2.1 hd hn (hgo _ _ _ _ _ _ h A ad0 R p e s m args below meth c Q C F ad ws H locs cells slots lc _ hW hL (.cons rfl hS) h1 h2)
theorem q_dup (hgo : ∀ bc bs pc ls st w, go bc bs pc ls st w → AW G M d bc bs pc ls st w K KX) (hs : ∀ j, (G.sad j).category = 1) {v : Value} (hc : v.category = 1) (hd : decode M.m.cc pc = .ok (.dup, 1)) (h : go bc bs (pc + 1) ls (v :: v :: st) w) : AW G M d bc bs pc ls (v :: st) w K KX := by
  intro A ad0 R p e s m args below meth c Q C F ad ws H locs cells slots lc sc hW hL hS h1 h2
  obtain ⟨cx, sc, rfl, hx, hS⟩ := hS
  exact lv_dup C.1 C.2.1 hd ((hx.cat hs).trans hc) (hgo _ _ _ _ _ _ h A ad0 R p e s m args below meth c Q C F ad ws H locs cells slots lc _ hW hL (.cons hx (.cons hx hS)) h1 h2)
theorem q_pop (hgo : ∀ bc bs pc ls st w, go bc bs pc ls st w → AW G M d bc bs pc ls st w K KX) (hs : ∀ j, (G.sad j).category = 1) {v : Value} (hc : v.category = 1) (hd : decode M.m.cc pc = .ok (.pop, 1)) (h : go bc bs (pc + 1) ls st w) : AW G M d bc bs pc ls (v :: st) w K KX := by
  intro A ad0 R p e s m args below meth c Q C F ad ws H locs cells slots lc sc hW hL hS h1 h2
  obtain ⟨cx, sc, rfl, hx, hS⟩ := hS
  exact lv_pop C.1 C.2.1 hd ((hx.cat hs).trans hc) (hgo _ _ _ _ _ _ h A ad0 R p e s m args below meth c Q C F ad ws H locs cells slots lc _ hW hL hS h1 h2)
theorem q_dup2 (hgo : ∀ bc bs pc ls st w, go bc bs pc ls st w → AW G M d bc bs pc ls st w K KX) (hs : ∀ j, (G.sad j).category = 1) {v u : Value} (hc : v.category = 1) (hc2 : u.category = 1) (hd : decode M.m.cc pc = .ok (.dup2, 1)) (h : go bc bs (pc + 1) ls (v :: u :: v :: u :: st) w) : AW G M d bc bs pc ls (v :: u :: st) w K KX := by
  intro A ad0 R p e s m args below meth c Q C F ad ws H locs cells slots lc sc hW hL hS h1 h2
  obtain ⟨cx, sc, rfl, hx, cy, sc, rfl, hy, hS⟩ := hS
  exact lv_dup2_11 C.1 C.2.1 hd ((hx.cat hs).trans hc) ((hy.cat hs).trans hc2) (hgo _ _ _ _ _ _ h A ad0 R p e s m args below meth c Q C F ad ws H locs cells slots lc _ hW hL (.cons hx (.cons hy (.cons hx (.cons hy hS)))) h1 h2)
theorem q_dup_x1 (hgo : ∀ bc bs pc ls st w, go bc bs pc ls st w → AW G M d bc bs pc ls st w K KX) (hs : ∀ j, (G.sad j).category = 1) {v u : Value} (hc : v.category = 1) (hc2 : u.category = 1) (hd : decode M.m.cc pc = .ok (.dup_x1, 1)) (h : go bc bs (pc + 1) ls (v :: u :: v :: st) w) : AW G M d bc bs pc ls (v :: u :: st) w K KX := by
  intro A ad0 R p e s m args below meth c Q C F ad ws H locs cells slots lc sc hW hL hS h1 h2
  obtain ⟨cx, sc, rfl, hx, cy, sc, rfl, hy, hS⟩ := hS
  exact lv_dup_x1 C.1 C.2.1 hd ((hx.cat hs).trans hc) ((hy.cat hs).trans hc2) (hgo _ _ _ _ _ _ h A ad0 R p e s m args below meth c Q C F ad ws H locs cells slots lc _ hW hL (.cons hx (.cons hy (.cons hx hS))) h1 h2)
theorem q_goto (hgo : ∀ bc bs pc ls st w, go bc bs pc ls st w → AW G M d bc bs pc ls st w K KX) {off : Int} {tg : Nat} (ht : (pc : Int) + off = (tg : Int)) (hd : decode M.m.cc pc = .ok (.goto off, 3)) (h : go bc bs tg ls st w) : AW G M d bc bs pc ls st w K KX := by
  intro A ad0 R p e s m args below meth c Q C F ad ws H locs cells slots lc sc hW hL hS h1 h2
  exact lv_goto C.1 C.2.1 hd ht (hgo _ _ _ _ _ _ h A ad0 R p e s m args below meth c Q C F ad ws H locs cells slots lc _ hW hL hS h1 h2)
theorem q_if_eq (hgo : ∀ bc bs pc ls st w, go bc bs pc ls st w → AW G M d bc bs pc ls st w K KX) {off : Int} {tg : Nat} {x : Int32} (ht : (pc : Int) + off = (tg : Int)) (hd : decode M.m.cc pc = .ok (.ifCond .eq off, 3)) (h : (cI .eq x 0 → go bc bs tg ls st w) ∧ (cN .eq x 0 → go bc bs (pc + 3) ls st w)) : AW G M d bc bs pc ls (.int x :: st) w K KX := by
  intro A ad0 R p e s m args below meth c Q C F ad ws H locs cells slots lc sc hW hL hS h1 h2
  obtain ⟨cx, sc, rfl, hx, hS⟩ := hS
  cases (show cx = _ from hx)
  exact lv_if_eq C.1 C.2.1 hd ht (fun q => hgo _ _ _ _ _ _ (h.1 q) A ad0 R p e s m args below meth c Q C F ad ws H locs cells slots lc _ hW hL hS h1 h2) (fun q => hgo _ _ _ _ _ _ (h.2 q) A ad0 R p e s m args below meth c Q C F ad ws H locs cells slots lc _ hW hL hS h1 h2)
theorem q_ic_eq (hgo : ∀ bc bs pc ls st w, go bc bs pc ls st w → AW G M d bc bs pc ls st w K KX) {off : Int} {tg : Nat} {x y : Int32} (ht : (pc : Int) + off = (tg : Int)) (hd : decode M.m.cc pc = .ok (.if_icmp .eq off, 3)) (h : (cI .eq x y → go bc bs tg ls st w) ∧ (cN .eq x y → go bc bs (pc + 3) ls st w)) : AW G M d bc bs pc ls (.int y :: .int x :: st) w K KX := by
  intro A ad0 R p e s m args below meth c Q C F ad ws H locs cells slots lc sc hW hL hS h1 h2
  obtain ⟨cy, sc, rfl, hy, cx, sc, rfl, hx, hS⟩ := hS
  cases (show cy = _ from hy); cases (show cx = _ from hx)
  exact lv_icmp_eq C.1 C.2.1 hd ht (fun q => hgo _ _ _ _ _ _ (h.1 q) A ad0 R p e s m args below meth c Q C F ad ws H locs cells slots lc _ hW hL hS h1 h2) (fun q => hgo _ _ _ _ _ _ (h.2 q) A ad0 R p e s m args below meth c Q C F ad ws H locs cells slots lc _ hW hL hS h1 h2)
theorem q_if_ne (hgo : ∀ bc bs pc ls st w, go bc bs pc ls st w → AW G M d bc bs pc ls st w K KX) {off : Int} {tg : Nat} {x : Int32} (ht : (pc : Int) + off = (tg : Int)) (hd : decode M.m.cc pc = .ok (.ifCond .ne off, 3)) (h : (cI .ne x 0 → go bc bs tg ls st w) ∧ (cN .ne x 0 → go bc bs (pc + 3) ls st w)) : AW G M d bc bs pc ls (.int x :: st) w K KX := by
  intro A ad0 R p e s m args below meth c Q C F ad ws H locs cells slots lc sc hW hL hS h1 h2
  obtain ⟨cx, sc, rfl, hx, hS⟩ := hS
  cases (show cx = _ from hx)
  exact lv_if_ne C.1 C.2.1 hd ht (fun q => hgo _ _ _ _ _ _ (h.1 q) A ad0 R p e s m args below meth c Q C F ad ws H locs cells slots lc _ hW hL hS h1 h2) (fun q => hgo _ _ _ _ _ _ (h.2 q) A ad0 R p e s m args below meth c Q C F ad ws H locs cells slots lc _ hW hL hS h1 h2)
theorem q_ic_ne (hgo : ∀ bc bs pc ls st w, go bc bs pc ls st w → AW G M d bc bs pc ls st w K KX) {off : Int} {tg : Nat} {x y : Int32} (ht : (pc : Int) + off = (tg : Int)) (hd : decode M.m.cc pc = .ok (.if_icmp .ne off, 3)) (h : (cI .ne x y → go bc bs tg ls st w) ∧ (cN .ne x y → go bc bs (pc + 3) ls st w)) : AW G M d bc bs pc ls (.int y :: .int x :: st) w K KX := by
  intro A ad0 R p e s m args below meth c Q C F ad ws H locs cells slots lc sc hW hL hS h1 h2
  obtain ⟨cy, sc, rfl, hy, cx, sc, rfl, hx, hS⟩ := hS
  cases (show cy = _ from hy); cases (show cx = _ from hx)
  exact lv_icmp_ne C.1 C.2.1 hd ht (fun q => hgo _ _ _ _ _ _ (h.1 q) A ad0 R p e s m args below meth c Q C F ad ws H locs cells slots lc _ hW hL hS h1 h2) (fun q => hgo _ _ _ _ _ _ (h.2 q) A ad0 R p e s m args below meth c Q C F ad ws H locs cells slots lc _ hW hL hS h1 h2)
theorem q_if_lt (hgo : ∀ bc bs pc ls st w, go bc bs pc ls st w → AW G M d bc bs pc ls st w K KX) {off : Int} {tg : Nat} {x : Int32} (ht : (pc : Int) + off = (tg : Int)) (hd : decode M.m.cc pc = .ok (.ifCond .lt off, 3)) (h : (cI .lt x 0 → go bc bs tg ls st w) ∧ (cN .lt x 0 → go bc bs (pc + 3) ls st w)) : AW G M d bc bs pc ls (.int x :: st) w K KX := by
  intro A ad0 R p e s m args below meth c Q C F ad ws H locs cells slots lc sc hW hL hS h1 h2
  obtain ⟨cx, sc, rfl, hx, hS⟩ := hS
  cases (show cx = _ from hx)
  exact lv_if_lt C.1 C.2.1 hd ht (fun q => hgo _ _ _ _ _ _ (h.1 q) A ad0 R p e s m args below meth c Q C F ad ws H locs cells slots lc _ hW hL hS h1 h2) (fun q => hgo _ _ _ _ _ _ (h.2 q) A ad0 R p e s m args below meth c Q C F ad ws H locs cells slots lc _ hW hL hS h1 h2)
theorem q_ic_lt (hgo : ∀ bc bs pc ls st w, go bc bs pc ls st w → AW G M d bc bs pc ls st w K KX) {off : Int} {tg : Nat} {x y : Int32} (ht : (pc : Int) + off = (tg : Int)) (hd : decode M.m.cc pc = .ok (.if_icmp .lt off, 3)) (h : (cI .lt x y → go bc bs tg ls st w) ∧ (cN .lt x y → go bc bs (pc + 3) ls st w)) : AW G M d bc bs pc ls (.int y :: .int x :: st) w K KX := by
  intro A ad0 R p e s m args below meth c Q C F ad ws H locs cells slots lc sc hW hL hS h1 h2
  obtain ⟨cy, sc, rfl, hy, cx, sc, rfl, hx, hS⟩ := hS
  cases (show cy = _ from hy); cases (show cx = _ from hx)
  exact lv_icmp_lt C.1 C.2.1 hd ht (fun q => hgo _ _ _ _ _ _ (h.1 q) A ad0 R p e s m args below meth c Q C F ad ws H locs cells slots lc _ hW hL hS h1 h2) (fun q => hgo _ _ _ _ _ _ (h.2 q) A ad0 R p e s m args below meth c Q C F ad ws H locs cells slots lc _ hW hL hS h1 h2)
theorem q_if_ge (hgo : ∀ bc bs pc ls st w, go bc bs pc ls st w → AW G M d bc bs pc ls st w K KX) {off : Int} {tg : Nat} {x : Int32} (ht : (pc : Int) + off = (tg : Int)) (hd : decode M.m.cc pc = .ok (.ifCond .ge off, 3)) (h : (cI .ge x 0 → go bc bs tg ls st w) ∧ (cN .ge x 0 → go bc bs (pc + 3) ls st w)) : AW G M d bc bs pc ls (.int x :: st) w K KX := by
  intro A ad0 R p e s m args below meth c Q C F ad ws H locs cells slots lc sc hW hL hS h1 h2
  obtain ⟨cx, sc, rfl, hx, hS⟩ := hS
  cases (show cx = _ from hx)
  exact lv_if_ge C.1 C.2.1 hd ht (fun q => hgo _ _ _ _ _ _ (h.1 q) A ad0 R p e s m args below meth c Q C F ad ws H locs cells slots lc _ hW hL hS h1 h2) (fun q => hgo _ _ _ _ _ _ (h.2 q) A ad0 R p e s m args below meth c Q C F ad ws H locs cells slots lc _ hW hL hS h1 h2)
theorem q_ic_ge (hgo : ∀ bc bs pc ls st w, go bc bs pc ls st w → AW G M d bc bs pc ls st w K KX) {off : Int} {tg : Nat} {x y : Int32} (ht : (pc : Int) + off = (tg : Int)) (hd : decode M.m.cc pc = .ok (.if_icmp .ge off, 3)) (h : (cI .ge x y → go bc bs tg ls st w) ∧ (cN .ge x y → go bc bs (pc + 3) ls st w)) : AW G M d bc bs pc ls (.int y :: .int x :: st) w K KX := by
  intro A ad0 R p e s m args below meth c Q C F ad ws H locs cells slots lc sc hW hL hS h1 h2
  obtain ⟨cy, sc, rfl, hy, cx, sc, rfl, hx, hS⟩ := hS
  cases (show cy = _ from hy); cases (show cx = _ from hx)
  exact lv_icmp_ge C.1 C.2.1 hd ht (fun q => hgo _ _ _ _ _ _ (h.1 q) A ad0 R p e s m args below meth c Q C F ad ws H locs cells slots lc _ hW hL hS h1 h2) (fun q => hgo _ _ _ _ _ _ (h.2 q) A ad0 R p e s m args below meth c Q C F ad ws H locs cells slots lc _ hW hL hS h1 h2)
theorem q_if_gt (hgo : ∀ bc bs pc ls st w, go bc bs pc ls st w → AW G M d bc bs pc ls st w K KX) {off : Int} {tg : Nat} {x : Int32} (ht : (pc : Int) + off = (tg : Int)) (hd : decode M.m.cc pc = .ok (.ifCond .gt off, 3)) (h : (cI .gt x 0 → go bc bs tg ls st w) ∧ (cN .gt x 0 → go bc bs (pc + 3) ls st w)) : AW G M d bc bs pc ls (.int x :: st) w K KX := by
  intro A ad0 R p e s m args below meth c Q C F ad ws H locs cells slots lc sc hW hL hS h1 h2
  obtain ⟨cx, sc, rfl, hx, hS⟩ := hS
  cases (show cx = _ from hx)
  exact lv_if_gt C.1 C.2.1 hd ht (fun q => hgo _ _ _ _ _ _ (h.1 q) A ad0 R p e s m args below meth c Q C F ad ws H locs cells slots lc _ hW hL hS h1 h2) (fun q => hgo _ _ _ _ _ _ (h.2 q) A ad0 R p e s m args below meth c Q C F ad ws H locs cells slots lc _ hW hL hS h1 h2)
theorem q_ic_gt (hgo : ∀ bc bs pc ls st w, go bc bs pc ls st w → AW G M d bc bs pc ls st w K KX) {off : Int} {tg : Nat} {x y : Int32} (ht : (pc : Int) + off = (tg : Int)) (hd : decode M.m.cc pc = .ok (.if_icmp .gt off, 3)) (h : (cI .gt x y → go bc bs tg ls st w) ∧ (cN .gt x y → go bc bs (pc + 3) ls st w)) : AW G M d bc bs pc ls (.int y :: .int x :: st) w K KX := by
  intro A ad0 R p e s m args below meth c Q C F ad ws H locs cells slots lc sc hW hL hS h1 h2
  obtain ⟨cy, sc, rfl, hy, cx, sc, rfl, hx, hS⟩ := hS
  cases (show cy = _ from hy); cases (show cx = _ from hx)
  exact lv_icmp_gt C.1 C.2.1 hd ht (fun q => hgo _ _ _ _ _ _ (h.1 q) A ad0 R p e s m args below meth c Q C F ad ws H locs cells slots lc _ hW hL hS h1 h2) (fun q => hgo _ _ _ _ _ _ (h.2 q) A ad0 R p e s m args below meth c Q C F ad ws H locs cells slots lc _ hW hL hS h1 h2)
theorem q_if_le (hgo : ∀ bc bs pc ls st w, go bc bs pc ls st w → AW G M d bc bs pc ls st w K KX) {off : Int} {tg : Nat} {x : Int32} (ht : (pc : Int) + off = (tg : Int)) (hd : decode M.m.cc pc = .ok (.ifCond .le off, 3)) (h : (cI .le x 0 → go bc bs tg ls st w) ∧ (cN .le x 0 → go bc bs (pc + 3) ls st w)) : AW G M d bc bs pc ls (.int x :: st) w K KX := by
  intro A ad0 R p e s m args below meth c Q C F ad ws H locs cells slots lc sc hW hL hS h1 h2
  obtain ⟨cx, sc, rfl, hx, hS⟩ := hS
  cases (show cx = _ from hx)
  exact lv_if_le C.1 C.2.1 hd ht (fun q => hgo _ _ _ _ _ _ (h.1 q) A ad0 R p e s m args below meth c Q C F ad ws H locs cells slots lc _ hW hL hS h1 h2) (fun q => hgo _ _ _ _ _ _ (h.2 q) A ad0 R p e s m args below meth c Q C F ad ws H locs cells slots lc _ hW hL hS h1 h2)
theorem q_ic_le (hgo : ∀ bc bs pc ls st w, go bc bs pc ls st w → AW G M d bc bs pc ls st w K KX) {off : Int} {tg : Nat} {x y : Int32} (ht : (pc : Int) + off = (tg : Int)) (hd : decode M.m.cc pc = .ok (.if_icmp .le off, 3)) (h : (cI .le x y → go bc bs tg ls st w) ∧ (cN .le x y → go bc bs (pc + 3) ls st w)) : AW G M d bc bs pc ls (.int y :: .int x :: st) w K KX := by
  intro A ad0 R p e s m args below meth c Q C F ad ws H locs cells slots lc sc hW hL hS h1 h2
  obtain ⟨cy, sc, rfl, hy, cx, sc, rfl, hx, hS⟩ := hS
  cases (show cy = _ from hy); cases (show cx = _ from hx)
  exact lv_icmp_le C.1 C.2.1 hd ht (fun q => hgo _ _ _ _ _ _ (h.1 q) A ad0 R p e s m args below meth c Q C F ad ws H locs cells slots lc _ hW hL hS h1 h2) (fun q => hgo _ _ _ _ _ _ (h.2 q) A ad0 R p e s m args below meth c Q C F ad ws H locs cells slots lc _ hW hL hS h1 h2)
theorem q_if (hgo : ∀ bc bs pc ls st w, go bc bs pc ls st w → AW G M d bc bs pc ls st w K KX) {cd : ClassFile.Cond} {off : Int} {tg : Nat} {x : Int32} (ht : (pc : Int) + off = (tg : Int)) (hd : decode M.m.cc pc = .ok (.ifCond cd off, 3)) (h : (cI cd x 0 → go bc bs tg ls st w) ∧ (cN cd x 0 → go bc bs (pc + 3) ls st w)) : AW G M d bc bs pc ls (.int x :: st) w K KX := by
  cases cd
  all_goals first | exact q_if_eq hgo ht hd h | exact q_if_ne hgo ht hd h | exact q_if_lt hgo ht hd h | exact q_if_ge hgo ht hd h | exact q_if_gt hgo ht hd h | exact q_if_le hgo ht hd h
theorem q_ic (hgo : ∀ bc bs pc ls st w, go bc bs pc ls st w → AW G M d bc bs pc ls st w K KX) {cd : ClassFile.Cond} {off : Int} {tg : Nat} {x y : Int32} (ht : (pc : Int) + off = (tg : Int)) (hd : decode M.m.cc pc = .ok (.if_icmp cd off, 3)) (h : (cI cd x y → go bc bs tg ls st w) ∧ (cN cd x y → go bc bs (pc + 3) ls st w)) : AW G M d bc bs pc ls (.int y :: .int x :: st) w K KX := by
  cases cd
  all_goals first | exact q_ic_eq hgo ht hd h | exact q_ic_ne hgo ht hd h | exact q_ic_lt hgo ht hd h | exact q_ic_ge hgo ht hd h | exact q_ic_gt hgo ht hd h | exact q_ic_le hgo ht hd h
theorem q_ifnonnull (hgo : ∀ bc bs pc ls st w, go bc bs pc ls st w → AW G M d bc bs pc ls st w K KX) {off : Int} {tg a : Nat} (ht : (pc : Int) + off = (tg : Int)) (hd : decode M.m.cc pc = .ok (.ifnonnull off, 3)) (h : go bc bs tg ls st w) : AW G M d bc bs pc ls (.ref a :: st) w K KX := by
  intro A ad0 R p e s m args below meth c Q C F ad ws H locs cells slots lc sc hW hL hS h1 h2
  obtain ⟨cx, sc, rfl, ⟨b, -, rfl⟩, hS⟩ := hS
  exact lv_ifnonnull C.1 C.2.1 hd ht (hgo _ _ _ _ _ _ h A ad0 R p e s m args below meth c Q C F ad ws H locs cells slots lc _ hW hL hS h1 h2)
theorem q_ifnonnullN (hgo : ∀ bc bs pc ls st w, go bc bs pc ls st w → AW G M d bc bs pc ls st w K KX) {off : Int} (hd : decode M.m.cc pc = .ok (.ifnonnull off, 3)) (h : go bc bs (pc + 3) ls st w) : AW G M d bc bs pc ls (.null :: st) w K KX := by
  intro A ad0 R p e s m args below meth c Q C F ad ws H locs cells slots lc sc hW hL hS h1 h2
  obtain ⟨cx, sc, rfl, hx, hS⟩ := hS
  cases (show cx = _ from hx)
  exact lv_ifnonnullN C.1 C.2.1 hd (hgo _ _ _ _ _ _ h A ad0 R p e s m args below meth c Q C F ad ws H locs cells slots lc _ hW hL hS h1 h2)
theorem q_ifnull (hgo : ∀ bc bs pc ls st w, go bc bs pc ls st w → AW G M d bc bs pc ls st w K KX) {off : Int} {a : Nat} (hd : decode M.m.cc pc = .ok (.ifnull off, 3)) (h : go bc bs (pc + 3) ls st w) : AW G M d bc bs pc ls (.ref a :: st) w K KX := by
  intro A ad0 R p e s m args below meth c Q C F ad ws H locs cells slots lc sc hW hL hS h1 h2
  obtain ⟨cx, sc, rfl, ⟨b, -, rfl⟩, hS⟩ := hS
  exact lv_ifnull C.1 C.2.1 hd (hgo _ _ _ _ _ _ h A ad0 R p e s m args below meth c Q C F ad ws H locs cells slots lc _ hW hL hS h1 h2)
theorem q_ifnullN (hgo : ∀ bc bs pc ls st w, go bc bs pc ls st w → AW G M d bc bs pc ls st w K KX) {off : Int} {tg : Nat} (ht : (pc : Int) + off = (tg : Int)) (hd : decode M.m.cc pc = .ok (.ifnull off, 3)) (h : go bc bs tg ls st w) : AW G M d bc bs pc ls (.null :: st) w K KX := by
  intro A ad0 R p e s m args below meth c Q C F ad ws H locs cells slots lc sc hW hL hS h1 h2
  obtain ⟨cx, sc, rfl, hx, hS⟩ := hS
  cases (show cx = _ from hx)
  exact lv_ifnullN C.1 C.2.1 hd ht (hgo _ _ _ _ _ _ h A ad0 R p e s m args below meth c Q C F ad ws H locs cells slots lc _ hW hL hS h1 h2)
theorem q_switch (hgo : ∀ bc bs pc ls st w, go bc bs pc ls st w → AW G M d bc bs pc ls st w K KX) {dfl lo hi : Int} {offs : Array Int} {len tg df : Nat} {ts : List Nat} {x : Int32} (hd : decode M.m.cc pc = .ok (.tableswitch dfl lo hi offs, len)) (hsw : hi = lo + ts.length - 1 ∧ (pc : Int) + dfl = (df : Int) ∧ ∀ (j t : Nat), ts[j]? = some t → ∃ o, offs[j]? = some o ∧ (pc : Int) + o = (t : Int)) (hx : swTo x lo ts df tg) (h : go bc bs tg ls st w) : AW G M d bc bs pc ls (.int x :: st) w K KX := by
  intro A ad0 R p e s m args below meth c Q C F ad ws H locs cells slots lc sc hW hL hS h1 h2
  obtain ⟨cx, sc, rfl, hx9, hS⟩ := hS
  cases (show cx = _ from hx9)
  have hk := hgo _ _ _ _ _ _ h A ad0 R p e s m args below meth c Q C F ad ws H locs cells slots lc _ hW hL hS h1 h2
  obtain ⟨e1, e2, e3⟩ := hsw
  rcases hx with ⟨j, hj, ht⟩ | ⟨hj, rfl⟩
  · obtain ⟨o, ho, hot⟩ := e3 j tg ht
    have hlt : j < ts.length := (List.getElem?_eq_some_iff.mp ht).1
    exact lv_tableIn C.1 C.2.1 hd (by omega) (by omega) (by rw [show (x.toInt - lo).toNat = j by omega]; exact ho) hot hk
  · exact lv_tableOut C.1 C.2.1 hd (by omega) e2 hk
end QQ
end
section
/-! ===== the walk is right: instructions that look at the heap or at the start's things ===== -/
def WSg : List Jvm.Cond := lw_tbl.filter goodWord
def kTy : List FieldType := [.int, .boolean, .char, .byte, .long, .double, .object RX0]
/-- the statics that are read: class, name, descriptor, what they hold -/
def stcL : List (String × String × String × Value) := [("BellCores", "STEPS", "[I", .retAddr 0), ("java/lang/Integer", "DigitOnes", "[B", .retAddr 1), ("java/lang/Integer", "DigitTens", "[B", .retAddr 2), ("BellCores$Outcome", "FINE", "LBellCores$Outcome;", .retAddr 3), ("BellCores$Outcome", "WRONG", "LBellCores$Outcome;", .retAddr 4), ("BellCores$Outcome", "REFUSED", "LBellCores$Outcome;", .retAddr 5), ("java/lang/String", "COMPACT_STRINGS", "Z", .int 1), ("jdk/internal/util/Preconditions", "SIOOBE_FORMATTER", "Ljava/util/function/BiFunction;", .retAddr 7)]
/-- classes that are no kind of another -/
def ncL : List (String × String) := [("java/lang/UnsupportedOperationException", "java/lang/IllegalArgumentException"), ("java/lang/IllegalArgumentException", "java/lang/IndexOutOfBoundsException"), ("java/lang/UnsupportedOperationException", "java/lang/IndexOutOfBoundsException")]
def A0 (G : gT) : Nat → Prop := fun q => G.bs ≤ q
/-- what is known of the start -/
def gOK (G : gT) : Prop :=
  (∀ w ∈ lw_tbl, w.before G.a0 G.s0 = true) ∧ va_K G.D vwCl G.tys G.s0 ∧ G.tys.map (·.2) = kTy ∧
  (∀ (j t N : Nat) (f : Nat → Int32), stF G j = some (t, N, f) → ∃ (a : Nat) (ty : FieldType), kTy[t]? = some ty ∧ G.sad j = .ref a ∧ va_T ty a N (fun i => .int (f i)) (A0 G) G.s0 G.s0.heap) ∧
  (∀ j, G.sad j = .null ∨ ∃ a, G.sad j = .ref a) ∧
  (∀ i, 3 ≤ i → i ≤ 5 → ∃ a, G.sad i = .ref a) ∧ (∀ i j, 3 ≤ i → i ≤ 5 → 3 ≤ j → j ≤ 5 → G.sad i = G.sad j → i = j) ∧
  (∀ q ∈ stcL, ∃ c, rV G [] q.2.2.2 c ∧ va_Z q.1 q.2.1 q.2.2.1 c (A0 G) G.s0 G.s0.heap) ∧
  vx_Zq Bundle.tN "UNASSIGNED_STACK" Bundle.steD (A0 G) G.s0 G.s0.heap ∧ vx_Zq Bundle.tN "SUPPRESSED_SENTINEL" Bundle.listD (A0 G) G.s0 G.s0.heap ∧ G.l.stackTraces = false ∧
  (∀ (own text : String) (k : Nat), Jvm.Cond.stringRef own k text ∈ lw_tbl → ∃ sa, vk_R own k text sa G.s0) ∧ (∀ q ∈ ncL, va_Nc q.1 q.2 G.s0)
theorem gOK.cat {G : gT} (h : gOK G) : ∀ j, (G.sad j).category = 1 := fun j => by
  rcases h.2.2.2.2.1 j with q | ⟨a, q⟩ <;> rw [q] <;> rfl
/-- a class of the worlds: its words, its types, its names -/
def clOK (ci : Nat) : Prop := ∀ (C : String) (T : u_T) (N : Nat), vwCl[ci]? = some (C, T, N) → (∀ w ∈ u_ws C T N, w ∈ WSg) ∧ (∃ ty0 : Nat → FieldType, ∀ k, k < N → parseFieldDescriptor (T k).2.2.1 = some (ty0 k)) ∧ (∀ a, a < N → ∀ b, b < N → a ≠ b → (T a).2.1 ≠ (T b).2.1)
def fldOK (own : String) (k ci j : Nat) (ty : FieldType) (fin : Bool) : Prop := clOK ci ∧ ∃ (C : String) (T : u_T) (N : Nat), vwCl[ci]? = some (C, T, N) ∧ j < N ∧ (T j).2.2.2 = fin ∧ parseFieldDescriptor (T j).2.2.1 = some ty ∧ Jvm.Cond.fieldLink own k (T j).1 (T j).2.1 (T j).2.2.1 ∈ lw_tbl ∧ (fin = true → (T j).1 = own)
def newOK (own : String) (k ci n : Nat) (fs : List Value) : Prop := clOK ci ∧ ∃ (C : String) (T : u_T) (ty0 : Nat → FieldType), vwCl[ci]? = some (C, T, n) ∧ (∀ k, k < n → parseFieldDescriptor (T k).2.2.1 = some (ty0 k)) ∧ (∀ j, j < n → defaultValue (ty0 j) = vp_V fs j) ∧ Jvm.Cond.classLink own k C ∈ lw_tbl ∧ Jvm.Cond.instantiable C n ∈ lw_tbl ∧ Jvm.Cond.initialized C ∈ lw_tbl
def stcOK (own : String) (k : Nat) (v : Value) : Prop := ∃ q ∈ stcL, q.2.2.2 = v ∧ (Jvm.Cond.fieldLink own k q.1 q.2.1 q.2.2.1 ∈ lw_tbl ∨ ∃ host, Jvm.Cond.fieldLinkNest own k q.1 q.2.1 q.2.2.1 host ∈ lw_tbl)
section QH
variable {G : gT} {M : mT} {d bc bs pc : Nat} {ls : List (Option Value)} {st : List Value} {w : xW} {K : Option Value → xW → Prop} {KX : Nat → xW → Prop} {go : recT}
variable {A : Nat → Prop} {ad0 : List Nat} {R : Room} {p : Program} {e : Env} {s : State} {m : MethodId} {args : Array Value} {below : List Frame} {meth : Method} {c : Code} {Q : State → Prop}
theorem Ctx.wrd (C : Ctx G M d A R p e s m args meth c) (hg : gOK G) {x : Jvm.Cond} (hx : x ∈ lw_tbl) (hw : goodWord x = true) : x.before args s = true := word_at C.2.2.2.2.2.2.1 (good_of_word hw) (hg.1 x hx)
theorem Ctx.wsg (C : Ctx G M d A R p e s m args meth c) (hg : gOK G) : ∀ x ∈ WSg, x.before args s = true := fun x hx => C.wrd hg (List.mem_filter.mp hx).1 (List.mem_filter.mp hx).2
theorem Ctx.kk (C : Ctx G M d A R p e s m args meth c) (hg : gOK G) : va_K G.D vwCl G.tys s := va_K.moved C.2.2.2.2.2.2.1.alike hg.2.1
theorem Ctx.low (C : Ctx G M d A R p e s m args meth c) : ∀ a : Nat, a < G.s0.heap.size → ¬ A0 G a → s.heap[a]? = G.s0.heap[a]? := fun a h _ => C.2.2.2.2.2.2.2.1.2 a h
theorem Ctx.sub (C : Ctx G M d A R p e s m args meth c) : ∀ q, A q → A0 G q := C.2.2.2.2.2.2.2.2.1
theorem Ctx.vT (C : Ctx G M d A R p e s m args meth c) {ty : FieldType} {a N : Nat} {f : Nat → Value} (h : va_T ty a N f (A0 G) G.s0 G.s0.heap) : va_T ty a N f A s s.heap := ((h.moved C.2.2.2.2.2.2.1.alike).kept C.low).narrow C.sub
theorem Ctx.vZ (C : Ctx G M d A R p e s m args meth c) {o n t : String} {v : Value} (h : va_Z o n t v (A0 G) G.s0 G.s0.heap) : va_Z o n t v A s s.heap := ((va_Z.moved C.2.2.2.2.2.2.1.alike h).kept C.low).narrow C.sub
theorem Ctx.vq (C : Ctx G M d A R p e s m args meth c) {o n t : String} (h : vx_Zq o n t (A0 G) G.s0 G.s0.heap) : vx_Zq o n t A s s.heap := ((vx_Zq.moved C.2.2.2.2.2.2.1.alike h).kept C.low).narrow C.sub
theorem Ctx.nest (C : Ctx G M d A R p e s m args meth c) (hg : gOK G) {own n t o host : String} {k : Nat} (h : Jvm.Cond.fieldLinkNest own k o n t host ∈ lw_tbl) : (Jvm.Cond.fieldLinkNest own k o n t host).before args s = true := va_Nw.use rfl (va_Nw.warmF C.2.2.2.2.2.2.1 (va_Nw.of rfl (hg.1 _ h)))
theorem Ctx.nestM (C : Ctx G M d A R p e s m args meth c) (hg : gOK G) {own host : String} {k : Nat} {x : MethodName} (h : Jvm.Cond.methodLinkNest own k x host ∈ lw_tbl) : va_Nw (Jvm.Cond.methodLinkNest own k x host) s := va_Nw.warmM C.2.2.2.2.2.2.1 (va_Nw.of rfl (hg.1 _ h))
theorem gOK.ty {G : gT} (hg : gOK G) {t : Nat} {q : ClassId × FieldType} (h : G.tys[t]? = some q) : kTy[t]? = some q.2 := by
  rw [← hg.2.2.1, List.getElem?_map, h]; rfl
theorem gOK.tys {G : gT} (hg : gOK G) {t : Nat} {ty : FieldType} (h : kTy[t]? = some ty) : ∃ cA, G.tys[t]? = some (cA, ty) := by
  rw [← hg.2.2.1, List.getElem?_map] at h
  cases hq : G.tys[t]? with
  | none => rw [hq] at h; cases h
  | some q => rw [hq] at h; obtain ⟨cA, ty2⟩ := q; cases h; exact ⟨cA, rfl⟩
theorem WAt.cell {H0 H : Heap} {locs : List Loc} {ad : List Nat} {ws : va_W} {k a : Nat} {ex : va_E} (h : WAt G A ad0 H0 H locs w ad ws) (he : nth w k = some ex) (ha : ad[k]? = some a) : ∃ e', ws[k]? = some (a, e') ∧ rE G ad ex e' := by
  rw [nth_eq] at he
  obtain ⟨b, e', q1, q2, q3⟩ := h.2.1.at he
  cases (ha.symm.trans q1)
  exact ⟨e', q2, q3⟩
theorem WAt.put {H0 H H1 : Heap} {locs locs1 : List Loc} {ad : List Nat} {ws : va_W} {k a : Nat} {ex ex' : va_E} (h : WAt G A ad0 H0 H locs w ad ws) (ha : ad[k]? = some a) (he : rE G ad ex ex') (h1 : va_P G.D vwCl (ws.set k (a, ex')) H1) (h2 : va_D A (ws.set k (a, ex'))) (h3 : va_S A H0 H1 locs1) : WAt G A ad0 H0 H1 locs1 (stN w k ex) ad (ws.set k (a, ex')) := by
  rw [stN_eq]
  exact ⟨h.1, h.2.1.set ha he, h1, h2, h3⟩
theorem WAt.new {H0 H H1 : Heap} {locs locs1 : List Loc} {ad : List Nat} {ws : va_W} {a : Nat} {ex ex' : va_E} (h : WAt G A ad0 H0 H locs w ad ws) (he : rE G (ad ++ [a]) ex ex') (h1 : va_P G.D vwCl (ws ++ [(a, ex')]) H1) (h2 : va_D A (ws ++ [(a, ex')])) (h3 : va_S A H0 H1 locs1) : WAt G A ad0 H0 H1 locs1 (w ++ [ex]) (ad ++ [a]) (ws ++ [(a, ex')]) :=
  ⟨h.1.tr adM.app, h.2.1.push he, h1, h2, h3⟩
theorem WAt.top {H0 H : Heap} {locs : List Loc} {ad : List Nat} {ws : va_W} {a : Nat} (h : WAt G A ad0 H0 H locs w ad ws) : (ad ++ [a])[lenL w]? = some a := by
  rw [lenL_eq, ← h.2.1.1]; simp
theorem q_ldc (hgo : ∀ bc bs pc ls st w, go bc bs pc ls st w → AW G M d bc bs pc ls st w K KX) (hg : gOK G) {k : Nat} {v : Int32} (hx : Jvm.Cond.constant M.m.y.cls k v ∈ lw_tbl) (hd : decode M.m.cc pc = .ok (.ldc k, 2)) (h : go bc bs (pc + 2) ls (.int v :: st) w) : AW G M d bc bs pc ls st w K KX := by
  intro A ad0 R p e s m args below meth c Q C F ad ws H locs cells slots lc sc hW hL hS h1 h2
  exact lv_ldc C.1 C.2.1 C.2.2.2.2.1 (C.wrd hg hx rfl) hd (hgo _ _ _ _ _ _ h A ad0 R p e s m args below meth c Q C F ad ws H locs cells slots lc _ hW hL (.cons rfl hS) h1 h2)
theorem q_getstatic (hgo : ∀ bc bs pc ls st w, go bc bs pc ls st w → AW G M d bc bs pc ls st w K KX) (hg : gOK G) {k : Nat} {v : Value} (hx : stcOK M.m.y.cls k v) (hd : decode M.m.cc pc = .ok (.getstatic k, 3)) (h : go bc bs (pc + 3) ls (v :: st) w) : AW G M d bc bs pc ls st w K KX := by
  intro A ad0 R p e s m args below meth c Q C F ad ws H locs cells slots lc sc hW hL hS h1 h2
  obtain ⟨q, hq, rfl, hl⟩ := hx
  obtain ⟨cv, hv, hZ⟩ := hg.2.2.2.2.2.2.2.1 q hq
  have hk := hgo _ _ _ _ _ _ h A ad0 R p e s m args below meth c Q C F ad ws H locs cells slots lc _ hW hL (.cons (hv.mono (fun i a h => by simp at h)) hS) h1 h2
  rcases hl with hl | ⟨host, hl⟩
  · exact va_gets C.1 C.2.1 (C.vZ hZ) hW.2.2.2.2 C.2.2.2.2.1 (C.wrd hg hl rfl) (fun _ h => h) hd hk
  · exact va_getsN C.1 C.2.1 (C.vZ hZ) hW.2.2.2.2 C.2.2.2.2.1 (C.nest hg hl) (fun _ h => h) hd hk
theorem q_getfield (hgo : ∀ bc bs pc ls st w, go bc bs pc ls st w → AW G M d bc bs pc ls st w K KX) (hg : gOK G) {k ci j x : Nat} {ty : FieldType} {fin : Bool} {fs : List Value} {v : Value} (hx : fldOK M.m.y.cls k ci j ty fin) (hw : nth w x = some (.inr (ci, fs))) (hv : nth fs j = some v) (hd : decode M.m.cc pc = .ok (.getfield k, 3)) (h : go bc bs (pc + 3) ls (v :: st) w) : AW G M d bc bs pc ls (.ref x :: st) w K KX := by
  intro A ad0 R p e s m args below meth c Q C F ad ws H locs cells slots lc sc hW hL hS h1 h2
  obtain ⟨cx, sc, rfl, ⟨a, ha, rfl⟩, hS⟩ := hS
  obtain ⟨e', q2, ⟨fs', rfl, hfs⟩⟩ := hW.cell hw ha
  rw [nth_eq] at hv
  obtain ⟨cv, hcv, hrv⟩ := hfs.at hv
  obtain ⟨hcl, CC, T, N, c1, c2, c3, c4, c5, c6⟩ := hx
  exact va_get C.1 C.2.1 (C.wsg hg) (hcl CC T N c1).1 C.2.2.2.2.1 (C.kk hg) hW.2.2.1 x q2 c1 j c2 (C.wrd hg c5 rfl) (fun _ h => h) hcv hd (hgo _ _ _ _ _ _ h A ad0 R p e s m args below meth c Q C F ad ws H locs cells slots lc _ hW hL (.cons hrv hS) h1 h2)
theorem q_putfield (hgo : ∀ bc bs pc ls st w, go bc bs pc ls st w → AW G M d bc bs pc ls st w K KX) (hg : gOK G) {k ci j x : Nat} {ty : FieldType} {fin : Bool} {fs : List Value} {v : Value} (hx : fldOK M.m.y.cls k ci j ty fin) (hini : fin = true → M.ini = true) (hw : nth w x = some (.inr (ci, fs))) (hj : j < fs.length) (hfit : ∀ ad cv, rV G ad v cv → narrow ty cv = cv ∧ fits ty cv = true) (hd : decode M.m.cc pc = .ok (.putfield k, 3)) (h : go bc bs (pc + 3) ls st (stN w x (.inr (ci, stN fs j v)))) : AW G M d bc bs pc ls (v :: .ref x :: st) w K KX := by
  intro A ad0 R p e s m args below meth c Q C F ad ws H locs cells slots lc sc hW hL hS h1 h2
  obtain ⟨cv, sc, rfl, hrv, cx, sc, rfl, ⟨a, ha, rfl⟩, hS⟩ := hS
  obtain ⟨e', q2, ⟨fs', rfl, hfs⟩⟩ := hW.cell hw ha
  obtain ⟨hcl, CC, T, N, c1, c2, c3, c4, c5, c6⟩ := hx
  obtain ⟨ty0, hty0⟩ := (hcl CC T N c1).2.1
  have kk : ∀ (H1 : Heap) (locs1 : List Loc), va_P G.D vwCl (ws.set x (a, .inr (ci, fs'.set j cv))) H1 → va_D A (ws.set x (a, .inr (ci, fs'.set j cv))) → va_S A s.heap H1 locs1 → W p G.l e R s m args below meth c H1 locs1 cells slots Q (F0 m (pc + 3) lc sc) := fun H1 locs1 r1 r2 r3 =>
    hgo _ _ _ _ _ _ h A ad0 R p e s m args below meth c Q C F ad _ H1 locs1 cells slots lc sc (hW.put ha ⟨_, rfl, by rw [stN_eq]; exact hfs.set hrv⟩ r1 r2 r3) hL hS h1 h2
  cases fin with
  | false => exact va_put C.1 C.2.1 (C.wsg hg) (hcl CC T N c1).1 ty0 hty0 (hcl CC T N c1).2.2 C.2.2.2.2.1 (C.kk hg) hW.2.2.1 hW.2.2.2.1 hW.2.2.2.2 x q2 c1 j c2 (C.wrd hg c5 rfl) (fun _ h => h) c3 c4 (hfit ad cv hrv).1 (hfit ad cv hrv).2 (by rw [hfs.len]; exact hj) hd kk
  | true => exact va_putF C.1 C.2.1 (C.wsg hg) (hcl CC T N c1).1 ty0 hty0 (hcl CC T N c1).2.2 C.2.2.2.2.1 (C.kk hg) hW.2.2.1 hW.2.2.2.1 hW.2.2.2.2 x q2 c1 j c2 (C.wrd hg c5 rfl) (fun _ h => h) c3 (C.2.2.2.2.2.2.2.2.2.2.2.2.1 (hini rfl)) (c6 rfl) c4 (hfit ad cv hrv).1 (hfit ad cv hrv).2 (by rw [hfs.len]; exact hj) hd kk
theorem q_new (hgo : ∀ bc bs pc ls st w, go bc bs pc ls st w → AW G M d bc bs pc ls st w K KX) (hg : gOK G) {k ci n : Nat} {fs : List Value} (hx : newOK M.m.y.cls k ci n fs) (hfs : ∀ ad, rVs G ad fs fs) (hb : 1 ≤ bc) (hn : n ≤ bs) (hd : decode M.m.cc pc = .ok (.new k, 3)) (h : go (bc - 1) (bs - n) (pc + 3) ls (.ref (lenL w) :: st) (w ++ [.inr (ci, fs)])) : AW G M d bc bs pc ls st w K KX := by
  intro A ad0 R p e s m args below meth c Q C F ad ws H locs cells slots lc sc hW hL hS h1 h2
  obtain ⟨hcl, CC, T, ty0, c1, c2, c3, c4, c5, c6⟩ := hx
  refine va_new C.1 C.2.1 (C.wsg hg) (hcl CC T n c1).1 ty0 c2 C.2.2.2.2.1 (C.wrd hg c4 rfl) (C.wrd hg c5 rfl) (C.wrd hg c6 rfl) (C.kk hg) hW.2.2.1 hW.2.2.2.1 hW.2.2.2.2 C.2.2.2.2.2.2.2.2.2.1 c1 c3 (by omega) (by omega) hd (fun q H1 r1 r2 r3 => ?_)
  exact hgo _ _ _ _ _ _ h A ad0 R p e s m args below meth c Q C F (ad ++ [q]) _ H1 locs (cells + 1) (slots + n) lc _ (hW.new ⟨_, rfl, hfs _⟩ r1 r2 r3) (hL.mono adM.app) (.cons ⟨q, hW.top, rfl⟩ (hS.mono adM.app)) (by omega) (by omega)
theorem q_newarray (hgo : ∀ bc bs pc ls st w, go bc bs pc ls st w → AW G M d bc bs pc ls st w K KX) (hg : gOK G) {n : Int32} {t : Nat} {at9 : ArrayType} {ty : FieldType} (ex : Nat → va_E) (dx : vp_A) (hty : newarray.typeOf at9 = ty) (ht : kTy[t]? = some ty) (hra : ∀ (U : State) (cA : ClassId), va_RA U cA ty → U.vm.findClass ("[" ++ ty.toString) = some cA) (hex : ex n.toNatClampNeg = .inl (t, dx)) (hda : ∀ ad, rA ad dx dx) (hcell : ∀ cA : ClassId, vp_cell cA dx = arrV cA n.toNatClampNeg (fun _ => defaultValue ty)) (hby : componentBytes ty ≤ 8) (hw : Jvm.Cond.arrayClass ty ∈ lw_tbl) (hn0 : ¬ n < 0) (hmx : n.toNatClampNeg ≤ 65536) (hb : 1 ≤ bc) (hn : n.toNatClampNeg ≤ bs) (hd : decode M.m.cc pc = .ok (.newarray at9, 2)) (h : go (bc - 1) (bs - n.toNatClampNeg) (pc + 2) ls (.ref (lenL w) :: st) (w ++ [ex n.toNatClampNeg])) : AW G M d bc bs pc ls (.int n :: st) w K KX := by
  intro A ad0 R p e s m args below meth c Q C F ad ws H locs cells slots lc sc hW hL hS h1 h2
  obtain ⟨cx, sc, rfl, hx, hS⟩ := hS
  cases (show cx = _ from hx)
  obtain ⟨cA9, hcA⟩ := hg.tys ht
  refine va_newa C.1 C.2.1 (by rw [hty]; exact C.wrd hg hw rfl) hty (C.kk hg) hW.2.2.1 hW.2.2.2.1 hW.2.2.2.2 C.2.2.2.2.2.2.2.2.2.1 hcell hn0 rfl (Nat.le_trans (Nat.mul_le_mul hmx hby) (by decide)) (by omega) (by omega) hd (fun q cA H1 r0 r1 r2 r3 => ?_)
  have e1 := hra s cA (r0.2 G.tys.length (cA, ty) (by simp)).2
  have e2 := hra s cA9 ((C.kk hg).2 t _ hcA).2
  cases (Option.some.inj (e1.symm.trans e2))
  exact hgo _ _ _ _ _ _ h A ad0 R p e s m args below meth c Q C F (ad ++ [q]) _ H1 locs (cells + 1) (slots + n.toNatClampNeg) lc _ (hW.new (by rw [hex]; exact ⟨_, dx, hcA, rfl, hda _⟩) r1 r2 r3) (hL.mono adM.app) (.cons ⟨q, hW.top, rfl⟩ (hS.mono adM.app)) (by omega) (by omega)
theorem q_anewarray (hgo : ∀ bc bs pc ls st w, go bc bs pc ls st w → AW G M d bc bs pc ls st w K KX) (hg : gOK G) {n : Int32} {k : Nat} (hl : Jvm.Cond.classLink M.m.y.cls k RX0 ∈ lw_tbl) (hov : ∀ U : State, G.s0.WarmedH U.vm → va_AO RX0 U) (hn0 : ¬ n < 0) (hmx : n.toNatClampNeg ≤ 65536) (hb : 1 ≤ bc) (hn : n.toNatClampNeg ≤ bs) (hd : decode M.m.cc pc = .ok (.anewarray k, 3)) (h : go (bc - 1) (bs - n.toNatClampNeg) (pc + 3) ls (.ref (lenL w) :: st) (w ++ [.inl (6, n.toNatClampNeg, .inr (.inr (.inr (.inr (fun _ => none)))))])) : AW G M d bc bs pc ls (.int n :: st) w K KX := by
  intro A ad0 R p e s m args below meth c Q C F ad ws H locs cells slots lc sc hW hL hS h1 h2
  obtain ⟨cx, sc, rfl, hx, hS⟩ := hS
  cases (show cx = _ from hx)
  obtain ⟨cA9, hcA⟩ := hg.tys (t := 6) (ty := .object RX0) rfl
  refine va_newq C.1 C.2.1 C.2.2.2.2.1 (C.wrd hg hl rfl) (hov s C.2.2.2.2.2.2.1) (C.kk hg) hW.2.2.1 hW.2.2.2.1 hW.2.2.2.2 C.2.2.2.2.2.2.2.2.2.1 hn0 rfl (Nat.le_trans (Nat.mul_le_mul hmx (Nat.le_refl 4)) (by decide)) (by omega) (by omega) hd (fun q cA H1 r0 r1 r2 r3 => ?_)
  have e1 := (r0.2 G.tys.length (cA, .object RX0) (by simp)).2
  have e2 := ((C.kk hg).2 6 _ hcA).2
  obtain ⟨_, _, _, _, _, e1⟩ := e1
  obtain ⟨_, _, _, _, _, e2⟩ := e2
  cases (Option.some.inj (e1.symm.trans e2))
  exact hgo _ _ _ _ _ _ h A ad0 R p e s m args below meth c Q C F (ad ++ [q]) _ H1 locs (cells + 1) (slots + n.toNatClampNeg) lc _ (hW.new ⟨_, _, hcA, rfl, ⟨_, rfl, fun _ => rfl⟩⟩ r1 r2 r3) (hL.mono adM.app) (.cons ⟨q, hW.top, rfl⟩ (hS.mono adM.app)) (by omega) (by omega)
theorem q_arraylength (hgo : ∀ bc bs pc ls st w, go bc bs pc ls st w → AW G M d bc bs pc ls st w K KX) (hg : gOK G) {t n x : Nat} {dx : (Nat → Int32) ⊕ (Nat → Int64) ⊕ (Nat → UInt32) ⊕ (Nat → UInt64) ⊕ (Nat → Option Nat)} (hw : nth w x = some (.inl (t, n, dx))) (hd : decode M.m.cc pc = .ok (.arraylength, 1)) (h : go bc bs (pc + 1) ls (.int (nI n) :: st) w) : AW G M d bc bs pc ls (.ref x :: st) w K KX := by
  intro A ad0 R p e s m args below meth c Q C F ad ws H locs cells slots lc sc hW hL hS h1 h2
  obtain ⟨cx, sc, rfl, ⟨a, ha, rfl⟩, hS⟩ := hS
  obtain ⟨e', q2, q, d', hq, rfl, hr⟩ := hW.cell hw ha
  obtain ⟨cA, ty⟩ := q
  exact va_alen C.1 C.2.1 (C.kk hg) hW.2.2.1 x t q2 hq (by rw [hr.one]; rfl) hd (hgo _ _ _ _ _ _ h A ad0 R p e s m args below meth c Q C F ad ws H locs cells slots lc _ hW hL (.cons rfl hS) h1 h2)
theorem q_arraylengthS (hgo : ∀ bc bs pc ls st w, go bc bs pc ls st w → AW G M d bc bs pc ls st w K KX) (hg : gOK G) {t n j : Nat} {f : Nat → Int32} (hw : stF G j = some (t, n, f)) (hd : decode M.m.cc pc = .ok (.arraylength, 1)) (h : go bc bs (pc + 1) ls (.int (nI n) :: st) w) : AW G M d bc bs pc ls (.retAddr j :: st) w K KX := by
  intro A ad0 R p e s m args below meth c Q C F ad ws H locs cells slots lc sc hW hL hS h1 h2
  obtain ⟨cx, sc, rfl, hx, hS⟩ := hS
  obtain ⟨a, ty, hty, ha, hT⟩ := hg.2.2.2.1 j t n f hw
  cases (show cx = _ from hx)
  rw [ha]
  exact va_tlen C.1 C.2.1 (C.vT hT) hW.2.2.2.2 rfl hd (hgo _ _ _ _ _ _ h A ad0 R p e s m args below meth c Q C F ad ws H locs cells slots lc _ hW hL (.cons rfl hS) h1 h2)
theorem q_iaload (hgo : ∀ bc bs pc ls st w, go bc bs pc ls st w → AW G M d bc bs pc ls st w K KX) (hg : gOK G) {n x : Nat} {f : Nat → Int32} {i : Int32} (hw : nth w x = some (.inl (0, n, .inl f))) (hin : vp_in i n) (hd : decode M.m.cc pc = .ok (.iaload, 1)) (h : go bc bs (pc + 1) ls (.int (f i.toNatClampNeg) :: st) w) : AW G M d bc bs pc ls (.int i :: .ref x :: st) w K KX := by
  intro A ad0 R p e s m args below meth c Q C F ad ws H locs cells slots lc sc hW hL hS h1 h2
  obtain ⟨ci, sc, rfl, hi, cx, sc, rfl, ⟨a, ha, rfl⟩, hS⟩ := hS
  cases (show ci = _ from hi)
  obtain ⟨e', q2, q, d', hq, rfl, hr⟩ := hW.cell hw ha
  cases (show d' = _ from hr)
  obtain ⟨cA, ty⟩ := q
  have ht := hg.ty hq
  cases ht
  exact va_iald C.1 C.2.1 (C.kk hg) hW.2.2.1 x 0 q2 hq hin hd (hgo _ _ _ _ _ _ h A ad0 R p e s m args below meth c Q C F ad ws H locs cells slots lc _ hW hL (.cons rfl hS) h1 h2)
theorem q_zaload (hgo : ∀ bc bs pc ls st w, go bc bs pc ls st w → AW G M d bc bs pc ls st w K KX) (hg : gOK G) {n x : Nat} {f : Nat → Int32} {i : Int32} (hw : nth w x = some (.inl (1, n, .inl f))) (hin : vp_in i n) (hd : decode M.m.cc pc = .ok (.baload, 1)) (h : go bc bs (pc + 1) ls (.int (f i.toNatClampNeg) :: st) w) : AW G M d bc bs pc ls (.int i :: .ref x :: st) w K KX := by
  intro A ad0 R p e s m args below meth c Q C F ad ws H locs cells slots lc sc hW hL hS h1 h2
  obtain ⟨ci, sc, rfl, hi, cx, sc, rfl, ⟨a, ha, rfl⟩, hS⟩ := hS
  cases (show ci = _ from hi)
  obtain ⟨e', q2, q, d', hq, rfl, hr⟩ := hW.cell hw ha
  cases (show d' = _ from hr)
  obtain ⟨cA, ty⟩ := q
  have ht := hg.ty hq
  cases ht
  exact va_zald C.1 C.2.1 (C.kk hg) hW.2.2.1 x 1 q2 hq hin hd (hgo _ _ _ _ _ _ h A ad0 R p e s m args below meth c Q C F ad ws H locs cells slots lc _ hW hL (.cons rfl hS) h1 h2)
theorem q_caload (hgo : ∀ bc bs pc ls st w, go bc bs pc ls st w → AW G M d bc bs pc ls st w K KX) (hg : gOK G) {n x : Nat} {f : Nat → Int32} {i : Int32} (hw : nth w x = some (.inl (2, n, .inl f))) (hin : vp_in i n) (hd : decode M.m.cc pc = .ok (.caload, 1)) (h : go bc bs (pc + 1) ls (.int (f i.toNatClampNeg) :: st) w) : AW G M d bc bs pc ls (.int i :: .ref x :: st) w K KX := by
  intro A ad0 R p e s m args below meth c Q C F ad ws H locs cells slots lc sc hW hL hS h1 h2
  obtain ⟨ci, sc, rfl, hi, cx, sc, rfl, ⟨a, ha, rfl⟩, hS⟩ := hS
  cases (show ci = _ from hi)
  obtain ⟨e', q2, q, d', hq, rfl, hr⟩ := hW.cell hw ha
  cases (show d' = _ from hr)
  obtain ⟨cA, ty⟩ := q
  have ht := hg.ty hq
  cases ht
  exact va_cald C.1 C.2.1 (C.kk hg) hW.2.2.1 x 2 q2 hq hin hd (hgo _ _ _ _ _ _ h A ad0 R p e s m args below meth c Q C F ad ws H locs cells slots lc _ hW hL (.cons rfl hS) h1 h2)
theorem q_baload (hgo : ∀ bc bs pc ls st w, go bc bs pc ls st w → AW G M d bc bs pc ls st w K KX) (hg : gOK G) {n x : Nat} {f : Nat → Int32} {i : Int32} (hw : nth w x = some (.inl (3, n, .inl f))) (hin : vp_in i n) (hd : decode M.m.cc pc = .ok (.baload, 1)) (h : go bc bs (pc + 1) ls (.int (f i.toNatClampNeg) :: st) w) : AW G M d bc bs pc ls (.int i :: .ref x :: st) w K KX := by
  intro A ad0 R p e s m args below meth c Q C F ad ws H locs cells slots lc sc hW hL hS h1 h2
  obtain ⟨ci, sc, rfl, hi, cx, sc, rfl, ⟨a, ha, rfl⟩, hS⟩ := hS
  cases (show ci = _ from hi)
  obtain ⟨e', q2, q, d', hq, rfl, hr⟩ := hW.cell hw ha
  cases (show d' = _ from hr)
  obtain ⟨cA, ty⟩ := q
  have ht := hg.ty hq
  cases ht
  exact va_bald C.1 C.2.1 (C.kk hg) hW.2.2.1 x 3 q2 hq hin hd (hgo _ _ _ _ _ _ h A ad0 R p e s m args below meth c Q C F ad ws H locs cells slots lc _ hW hL (.cons rfl hS) h1 h2)
theorem q_laload (hgo : ∀ bc bs pc ls st w, go bc bs pc ls st w → AW G M d bc bs pc ls st w K KX) (hg : gOK G) {n x : Nat} {f : Nat → Int64} {i : Int32} (hw : nth w x = some (.inl (4, n, .inr (.inl f)))) (hin : vp_in i n) (hd : decode M.m.cc pc = .ok (.laload, 1)) (h : go bc bs (pc + 1) ls (.long (f i.toNatClampNeg) :: st) w) : AW G M d bc bs pc ls (.int i :: .ref x :: st) w K KX := by
  intro A ad0 R p e s m args below meth c Q C F ad ws H locs cells slots lc sc hW hL hS h1 h2
  obtain ⟨ci, sc, rfl, hi, cx, sc, rfl, ⟨a, ha, rfl⟩, hS⟩ := hS
  cases (show ci = _ from hi)
  obtain ⟨e', q2, q, d', hq, rfl, hr⟩ := hW.cell hw ha
  cases (show d' = _ from hr)
  obtain ⟨cA, ty⟩ := q
  have ht := hg.ty hq
  cases ht
  exact va_lald C.1 C.2.1 (C.kk hg) hW.2.2.1 x 4 q2 hq hin hd (hgo _ _ _ _ _ _ h A ad0 R p e s m args below meth c Q C F ad ws H locs cells slots lc _ hW hL (.cons rfl hS) h1 h2)
theorem q_daload (hgo : ∀ bc bs pc ls st w, go bc bs pc ls st w → AW G M d bc bs pc ls st w K KX) (hg : gOK G) {n x : Nat} {f : Nat → UInt64} {i : Int32} (hw : nth w x = some (.inl (5, n, .inr (.inr (.inr (.inl f)))))) (hin : vp_in i n) (hd : decode M.m.cc pc = .ok (.daload, 1)) (h : go bc bs (pc + 1) ls (.double (f i.toNatClampNeg) :: st) w) : AW G M d bc bs pc ls (.int i :: .ref x :: st) w K KX := by
  intro A ad0 R p e s m args below meth c Q C F ad ws H locs cells slots lc sc hW hL hS h1 h2
  obtain ⟨ci, sc, rfl, hi, cx, sc, rfl, ⟨a, ha, rfl⟩, hS⟩ := hS
  cases (show ci = _ from hi)
  obtain ⟨e', q2, q, d', hq, rfl, hr⟩ := hW.cell hw ha
  cases (show d' = _ from hr)
  obtain ⟨cA, ty⟩ := q
  have ht := hg.ty hq
  cases ht
  exact va_dald C.1 C.2.1 (C.kk hg) hW.2.2.1 x 5 q2 hq hin hd (hgo _ _ _ _ _ _ h A ad0 R p e s m args below meth c Q C F ad ws H locs cells slots lc _ hW hL (.cons rfl hS) h1 h2)
theorem q_ialoadS (hgo : ∀ bc bs pc ls st w, go bc bs pc ls st w → AW G M d bc bs pc ls st w K KX) (hg : gOK G) {n j : Nat} {f : Nat → Int32} {i : Int32} (hw : stF G j = some (0, n, f)) (hin : vp_in i n) (hd : decode M.m.cc pc = .ok (.iaload, 1)) (h : go bc bs (pc + 1) ls (.int (f i.toNatClampNeg) :: st) w) : AW G M d bc bs pc ls (.int i :: .retAddr j :: st) w K KX := by
  intro A ad0 R p e s m args below meth c Q C F ad ws H locs cells slots lc sc hW hL hS h1 h2
  obtain ⟨ci, sc, rfl, hi, cx, sc, rfl, hx, hS⟩ := hS
  cases (show ci = _ from hi)
  obtain ⟨a, ty, hty, ha, hT⟩ := hg.2.2.2.1 j 0 n f hw
  cases hty
  cases (show cx = _ from hx)
  rw [ha]
  exact va_ti C.1 C.2.1 (C.vT hT) hW.2.2.2.2 hin rfl hd (hgo _ _ _ _ _ _ h A ad0 R p e s m args below meth c Q C F ad ws H locs cells slots lc _ hW hL (.cons rfl hS) h1 h2)
theorem q_baloadS (hgo : ∀ bc bs pc ls st w, go bc bs pc ls st w → AW G M d bc bs pc ls st w K KX) (hg : gOK G) {n j : Nat} {f : Nat → Int32} {i : Int32} (hw : stF G j = some (3, n, f)) (hin : vp_in i n) (hd : decode M.m.cc pc = .ok (.baload, 1)) (h : go bc bs (pc + 1) ls (.int (f i.toNatClampNeg) :: st) w) : AW G M d bc bs pc ls (.int i :: .retAddr j :: st) w K KX := by
  intro A ad0 R p e s m args below meth c Q C F ad ws H locs cells slots lc sc hW hL hS h1 h2
  obtain ⟨ci, sc, rfl, hi, cx, sc, rfl, hx, hS⟩ := hS
  cases (show ci = _ from hi)
  obtain ⟨a, ty, hty, ha, hT⟩ := hg.2.2.2.1 j 3 n f hw
  cases hty
  cases (show cx = _ from hx)
  rw [ha]
  exact va_tb C.1 C.2.1 (C.vT hT) hW.2.2.2.2 hin rfl hd (hgo _ _ _ _ _ _ h A ad0 R p e s m args below meth c Q C F ad ws H locs cells slots lc _ hW hL (.cons rfl hS) h1 h2)
theorem q_iastore (hgo : ∀ bc bs pc ls st w, go bc bs pc ls st w → AW G M d bc bs pc ls st w K KX) (hg : gOK G) {n x : Nat} {f : Nat → Int32} {i : Int32} {v : Int32} (hw : nth w x = some (.inl (0, n, .inl f))) (hin : vp_in i n) (hd : decode M.m.cc pc = .ok (.iastore, 1)) (h : go bc bs (pc + 1) ls st (stN w x (.inl (0, n, .inl (upd f i.toNatClampNeg v))))) : AW G M d bc bs pc ls (.int v :: .int i :: .ref x :: st) w K KX := by
  intro A ad0 R p e s m args below meth c Q C F ad ws H locs cells slots lc sc hW hL hS h1 h2
  obtain ⟨cv, sc, rfl, hv, ci, sc, rfl, hi, cx, sc, rfl, ⟨a, ha, rfl⟩, hS⟩ := hS
  cases (show ci = _ from hi)
  cases (show cv = _ from hv)
  obtain ⟨e', q2, q, d', hq, rfl, hr⟩ := hW.cell hw ha
  cases (show d' = _ from hr)
  obtain ⟨cA, ty⟩ := q
  have ht := hg.ty hq
  cases ht
  exact va_iast C.1 C.2.1 (C.kk hg) hW.2.2.1 hW.2.2.2.1 hW.2.2.2.2 x 0 q2 hq hin hd (fun H1 locs1 r1 r2 r3 => hgo _ _ _ _ _ _ h A ad0 R p e s m args below meth c Q C F ad _ H1 locs1 cells slots lc _ (hW.put ha ⟨_, _, hq, rfl, rfl⟩ r1 r2 r3) hL hS h1 h2)
theorem q_zastore (hgo : ∀ bc bs pc ls st w, go bc bs pc ls st w → AW G M d bc bs pc ls st w K KX) (hg : gOK G) {n x : Nat} {f : Nat → Int32} {i : Int32} {v : Int32} (hw : nth w x = some (.inl (1, n, .inl f))) (hin : vp_in i n) (hd : decode M.m.cc pc = .ok (.bastore, 1)) (h : go bc bs (pc + 1) ls st (stN w x (.inl (1, n, .inl (upd f i.toNatClampNeg (vp_nar .boolean v)))))) : AW G M d bc bs pc ls (.int v :: .int i :: .ref x :: st) w K KX := by
  intro A ad0 R p e s m args below meth c Q C F ad ws H locs cells slots lc sc hW hL hS h1 h2
  obtain ⟨cv, sc, rfl, hv, ci, sc, rfl, hi, cx, sc, rfl, ⟨a, ha, rfl⟩, hS⟩ := hS
  cases (show ci = _ from hi)
  cases (show cv = _ from hv)
  obtain ⟨e', q2, q, d', hq, rfl, hr⟩ := hW.cell hw ha
  cases (show d' = _ from hr)
  obtain ⟨cA, ty⟩ := q
  have ht := hg.ty hq
  cases ht
  exact va_zast C.1 C.2.1 (C.kk hg) hW.2.2.1 hW.2.2.2.1 hW.2.2.2.2 x 1 q2 hq hin hd (fun H1 locs1 r1 r2 r3 => hgo _ _ _ _ _ _ h A ad0 R p e s m args below meth c Q C F ad _ H1 locs1 cells slots lc _ (hW.put ha ⟨_, _, hq, rfl, rfl⟩ r1 r2 r3) hL hS h1 h2)
theorem q_castore (hgo : ∀ bc bs pc ls st w, go bc bs pc ls st w → AW G M d bc bs pc ls st w K KX) (hg : gOK G) {n x : Nat} {f : Nat → Int32} {i : Int32} {v : Int32} (hw : nth w x = some (.inl (2, n, .inl f))) (hin : vp_in i n) (hd : decode M.m.cc pc = .ok (.castore, 1)) (h : go bc bs (pc + 1) ls st (stN w x (.inl (2, n, .inl (upd f i.toNatClampNeg (vp_nar .char v)))))) : AW G M d bc bs pc ls (.int v :: .int i :: .ref x :: st) w K KX := by
  intro A ad0 R p e s m args below meth c Q C F ad ws H locs cells slots lc sc hW hL hS h1 h2
  obtain ⟨cv, sc, rfl, hv, ci, sc, rfl, hi, cx, sc, rfl, ⟨a, ha, rfl⟩, hS⟩ := hS
  cases (show ci = _ from hi)
  cases (show cv = _ from hv)
  obtain ⟨e', q2, q, d', hq, rfl, hr⟩ := hW.cell hw ha
  cases (show d' = _ from hr)
  obtain ⟨cA, ty⟩ := q
  have ht := hg.ty hq
  cases ht
  exact va_cast C.1 C.2.1 (C.kk hg) hW.2.2.1 hW.2.2.2.1 hW.2.2.2.2 x 2 q2 hq hin hd (fun H1 locs1 r1 r2 r3 => hgo _ _ _ _ _ _ h A ad0 R p e s m args below meth c Q C F ad _ H1 locs1 cells slots lc _ (hW.put ha ⟨_, _, hq, rfl, rfl⟩ r1 r2 r3) hL hS h1 h2)
theorem q_bastore (hgo : ∀ bc bs pc ls st w, go bc bs pc ls st w → AW G M d bc bs pc ls st w K KX) (hg : gOK G) {n x : Nat} {f : Nat → Int32} {i : Int32} {v : Int32} (hw : nth w x = some (.inl (3, n, .inl f))) (hin : vp_in i n) (hd : decode M.m.cc pc = .ok (.bastore, 1)) (h : go bc bs (pc + 1) ls st (stN w x (.inl (3, n, .inl (upd f i.toNatClampNeg (vp_nar .byte v)))))) : AW G M d bc bs pc ls (.int v :: .int i :: .ref x :: st) w K KX := by
  intro A ad0 R p e s m args below meth c Q C F ad ws H locs cells slots lc sc hW hL hS h1 h2
  obtain ⟨cv, sc, rfl, hv, ci, sc, rfl, hi, cx, sc, rfl, ⟨a, ha, rfl⟩, hS⟩ := hS
  cases (show ci = _ from hi)
  cases (show cv = _ from hv)
  obtain ⟨e', q2, q, d', hq, rfl, hr⟩ := hW.cell hw ha
  cases (show d' = _ from hr)
  obtain ⟨cA, ty⟩ := q
  have ht := hg.ty hq
  cases ht
  exact va_bast C.1 C.2.1 (C.kk hg) hW.2.2.1 hW.2.2.2.1 hW.2.2.2.2 x 3 q2 hq hin hd (fun H1 locs1 r1 r2 r3 => hgo _ _ _ _ _ _ h A ad0 R p e s m args below meth c Q C F ad _ H1 locs1 cells slots lc _ (hW.put ha ⟨_, _, hq, rfl, rfl⟩ r1 r2 r3) hL hS h1 h2)
theorem q_lastore (hgo : ∀ bc bs pc ls st w, go bc bs pc ls st w → AW G M d bc bs pc ls st w K KX) (hg : gOK G) {n x : Nat} {f : Nat → Int64} {i : Int32} {v : Int64} (hw : nth w x = some (.inl (4, n, .inr (.inl f)))) (hin : vp_in i n) (hd : decode M.m.cc pc = .ok (.lastore, 1)) (h : go bc bs (pc + 1) ls st (stN w x (.inl (4, n, .inr (.inl (vp_updL f i.toNatClampNeg v)))))) : AW G M d bc bs pc ls (.long v :: .int i :: .ref x :: st) w K KX := by
  intro A ad0 R p e s m args below meth c Q C F ad ws H locs cells slots lc sc hW hL hS h1 h2
  obtain ⟨cv, sc, rfl, hv, ci, sc, rfl, hi, cx, sc, rfl, ⟨a, ha, rfl⟩, hS⟩ := hS
  cases (show ci = _ from hi)
  cases (show cv = _ from hv)
  obtain ⟨e', q2, q, d', hq, rfl, hr⟩ := hW.cell hw ha
  cases (show d' = _ from hr)
  obtain ⟨cA, ty⟩ := q
  have ht := hg.ty hq
  cases ht
  exact va_last C.1 C.2.1 (C.kk hg) hW.2.2.1 hW.2.2.2.1 hW.2.2.2.2 x 4 q2 hq hin hd (fun H1 locs1 r1 r2 r3 => hgo _ _ _ _ _ _ h A ad0 R p e s m args below meth c Q C F ad _ H1 locs1 cells slots lc _ (hW.put ha ⟨_, _, hq, rfl, rfl⟩ r1 r2 r3) hL hS h1 h2)
theorem q_dastore (hgo : ∀ bc bs pc ls st w, go bc bs pc ls st w → AW G M d bc bs pc ls st w K KX) (hg : gOK G) {n x : Nat} {f : Nat → UInt64} {i : Int32} {v : UInt64} (hw : nth w x = some (.inl (5, n, .inr (.inr (.inr (.inl f)))))) (hin : vp_in i n) (hd : decode M.m.cc pc = .ok (.dastore, 1)) (h : go bc bs (pc + 1) ls st (stN w x (.inl (5, n, .inr (.inr (.inr (.inl (vf_upd f i.toNatClampNeg v)))))))) : AW G M d bc bs pc ls (.double v :: .int i :: .ref x :: st) w K KX := by
  intro A ad0 R p e s m args below meth c Q C F ad ws H locs cells slots lc sc hW hL hS h1 h2
  obtain ⟨cv, sc, rfl, hv, ci, sc, rfl, hi, cx, sc, rfl, ⟨a, ha, rfl⟩, hS⟩ := hS
  cases (show ci = _ from hi)
  cases (show cv = _ from hv)
  obtain ⟨e', q2, q, d', hq, rfl, hr⟩ := hW.cell hw ha
  cases (show d' = _ from hr)
  obtain ⟨cA, ty⟩ := q
  have ht := hg.ty hq
  cases ht
  exact va_dast C.1 C.2.1 (C.kk hg) hW.2.2.1 hW.2.2.2.1 hW.2.2.2.2 x 5 q2 hq hin hd (fun H1 locs1 r1 r2 r3 => hgo _ _ _ _ _ _ h A ad0 R p e s m args below meth c Q C F ad _ H1 locs1 cells slots lc _ (hW.put ha ⟨_, _, hq, rfl, rfl⟩ r1 r2 r3) hL hS h1 h2)
theorem q_aaload (hgo : ∀ bc bs pc ls st w, go bc bs pc ls st w → AW G M d bc bs pc ls st w K KX) (hg : gOK G) {n x : Nat} {f : Nat → Option Nat} {i : Int32} (hw : nth w x = some (.inl (6, n, .inr (.inr (.inr (.inr f)))))) (hin : vp_in i n) (hd : decode M.m.cc pc = .ok (.aaload, 1)) (h : match f i.toNatClampNeg with | none => go bc bs (pc + 1) ls (.null :: st) w | some x => go bc bs (pc + 1) ls (.ref x :: st) w) : AW G M d bc bs pc ls (.int i :: .ref x :: st) w K KX := by
  intro A ad0 R p e s m args below meth c Q C F ad ws H locs cells slots lc sc hW hL hS h1 h2
  obtain ⟨ci, sc, rfl, hi, cx, sc, rfl, ⟨a, ha, rfl⟩, hS⟩ := hS
  cases (show ci = _ from hi)
  obtain ⟨e', q2, q, d', hq, rfl, ⟨gf, rfl, hr⟩⟩ := hW.cell hw ha
  obtain ⟨cA, ty⟩ := q
  have ht := hg.ty hq
  cases ht
  refine va_aldq C.1 C.2.1 (C.kk hg) hW.2.2.1 x 6 q2 hq hin hd ?_
  have hri := hr i.toNatClampNeg
  cases hf : f i.toNatClampNeg with
  | none =>
    rw [hf] at hri h
    rw [show gf i.toNatClampNeg = none from hri]
    exact hgo _ _ _ _ _ _ h A ad0 R p e s m args below meth c Q C F ad ws H locs cells slots lc _ hW hL (.cons rfl hS) h1 h2
  | some y =>
    rw [hf] at hri h
    obtain ⟨b, hb1, hb2⟩ := hri
    rw [hb2]
    exact hgo _ _ _ _ _ _ h A ad0 R p e s m args below meth c Q C F ad ws H locs cells slots lc _ hW hL (.cons ⟨b, hb1, rfl⟩ hS) h1 h2
theorem q_aastore (hgo : ∀ bc bs pc ls st w, go bc bs pc ls st w → AW G M d bc bs pc ls st w K KX) (hg : gOK G) {n x y : Nat} {f : Nat → Option Nat} {fs : List Value} {i : Int32} (hw : nth w x = some (.inl (6, n, .inr (.inr (.inr (.inr f)))))) (hy : nth w y = some (.inr (4, fs))) (hin : vp_in i n) (hd : decode M.m.cc pc = .ok (.aastore, 1)) (h : go bc bs (pc + 1) ls st (stN w x (.inl (6, n, .inr (.inr (.inr (.inr (va_up f i.toNatClampNeg (some y)))))))) ) : AW G M d bc bs pc ls (.ref y :: .int i :: .ref x :: st) w K KX := by
  intro A ad0 R p e s m args below meth c Q C F ad ws H locs cells slots lc sc hW hL hS h1 h2
  obtain ⟨cv, sc, rfl, ⟨b, hb, rfl⟩, ci, sc, rfl, hi, cx, sc, rfl, ⟨a, ha, rfl⟩, hS⟩ := hS
  cases (show ci = _ from hi)
  obtain ⟨e', q2, q, d', hq, rfl, ⟨gf, rfl, hr⟩⟩ := hW.cell hw ha
  obtain ⟨e9, q3, ⟨fs', rfl, hfs⟩⟩ := hW.cell hy hb
  obtain ⟨cA, ty⟩ := q
  have ht := hg.ty hq
  cases ht
  refine va_astq (r := (RX0, TX0, 10)) C.1 C.2.1 (C.kk hg) hW.2.2.1 hW.2.2.2.1 hW.2.2.2.2 x 6 y 4 q2 hq q3 rfl hin hd (fun H1 locs1 r1 r2 r3 => hgo _ _ _ _ _ _ h A ad0 R p e s m args below meth c Q C F ad _ H1 locs1 cells slots lc _ (hW.put ha ⟨_, _, hq, rfl, ⟨_, rfl, fun k => ?_⟩⟩ r1 r2 r3) hL hS h1 h2)
  by_cases hk : k = i.toNatClampNeg
  · subst hk
    simp only [va_up, if_true]
    exact ⟨b, hb, rfl⟩
  · simp only [va_up, if_neg hk]
    exact hr k
theorem q_acmp_eq (hgo : ∀ bc bs pc ls st w, go bc bs pc ls st w → AW G M d bc bs pc ls st w K KX) (hg : gOK G) {off : Int} {tg x y : Nat} (hx : 3 ≤ x ∧ x ≤ 5) (hy : 3 ≤ y ∧ y ≤ 5) (ht : (pc : Int) + off = (tg : Int)) (hd : decode M.m.cc pc = .ok (.if_acmp .eq off, 3)) (h : (x = y → go bc bs tg ls st w) ∧ (¬ x = y → go bc bs (pc + 3) ls st w)) : AW G M d bc bs pc ls (.retAddr y :: .retAddr x :: st) w K KX := by
  intro A ad0 R p e s m args below meth c Q C F ad ws H locs cells slots lc sc hW hL hS h1 h2
  obtain ⟨cy, sc, rfl, ey, cx, sc, rfl, ex, hS⟩ := hS
  obtain ⟨a, ha⟩ := hg.2.2.2.2.2.1 x hx.1 hx.2
  obtain ⟨b, hb⟩ := hg.2.2.2.2.2.1 y hy.1 hy.2
  cases (show cy = _ from ey); cases (show cx = _ from ex)
  rw [ha, hb]
  refine lv_acmp_eq (rx := some a) (ry := some b) C.1 C.2.1 hd ht (fun q => ?_) (fun q => ?_)
  · exact hgo _ _ _ _ _ _ (h.1 (hg.2.2.2.2.2.2.1 x y hx.1 hx.2 hy.1 hy.2 (by rw [ha, hb, Option.some.inj q]))) A ad0 R p e s m args below meth c Q C F ad ws H locs cells slots lc _ hW hL hS h1 h2
  · exact hgo _ _ _ _ _ _ (h.2 (fun q9 => q (by subst q9; rw [ha] at hb; cases hb; rfl))) A ad0 R p e s m args below meth c Q C F ad ws H locs cells slots lc _ hW hL hS h1 h2
theorem q_acmp_ne (hgo : ∀ bc bs pc ls st w, go bc bs pc ls st w → AW G M d bc bs pc ls st w K KX) (hg : gOK G) {off : Int} {tg x y : Nat} (hx : 3 ≤ x ∧ x ≤ 5) (hy : 3 ≤ y ∧ y ≤ 5) (ht : (pc : Int) + off = (tg : Int)) (hd : decode M.m.cc pc = .ok (.if_acmp .ne off, 3)) (h : (¬ x = y → go bc bs tg ls st w) ∧ (x = y → go bc bs (pc + 3) ls st w)) : AW G M d bc bs pc ls (.retAddr y :: .retAddr x :: st) w K KX := by
  intro A ad0 R p e s m args below meth c Q C F ad ws H locs cells slots lc sc hW hL hS h1 h2
  obtain ⟨cy, sc, rfl, ey, cx, sc, rfl, ex, hS⟩ := hS
  obtain ⟨a, ha⟩ := hg.2.2.2.2.2.1 x hx.1 hx.2
  obtain ⟨b, hb⟩ := hg.2.2.2.2.2.1 y hy.1 hy.2
  cases (show cy = _ from ey); cases (show cx = _ from ex)
  rw [ha, hb]
  refine lv_acmp_ne (rx := some a) (ry := some b) C.1 C.2.1 hd ht (fun q => ?_) (fun q => ?_)
  · exact hgo _ _ _ _ _ _ (h.1 (fun q9 => q (by subst q9; rw [ha] at hb; cases hb; rfl))) A ad0 R p e s m args below meth c Q C F ad ws H locs cells slots lc _ hW hL hS h1 h2
  · exact hgo _ _ _ _ _ _ (h.2 (hg.2.2.2.2.2.2.1 x y hx.1 hx.2 hy.1 hy.2 (by rw [ha, hb, Option.some.inj q]))) A ad0 R p e s m args below meth c Q C F ad ws H locs cells slots lc _ hW hL hS h1 h2
end QH
end
section
/-! ===== the walk is right: calls, ends, throws ===== -/
def m0OK (y : m0T) : Prop := y.w ∈ lw_tbl ∧ goodWord y.w = true ∧ y.nL ≤ 45 ∧ Jvm.Cond.initialized y.y.cls ∈ lw_tbl ∧ (y.y.cls ≠ "java/lang/invoke/MethodHandle" ∧ y.y.cls ≠ "java/lang/invoke/VarHandle") ∧ (parseMethodDescriptor y.y.desc).map (fun d => d.parameters.length) = some y.na
theorem m0OK.len {y : m0T} (h : m0OK y) : ∀ sig, parseMethodDescriptor y.y.desc = some sig → y.na = sig.parameters.length := fun sig hs => by
  have h2 := h.2.2.2.2.2
  rw [hs] at h2
  exact (Option.some.inj h2).symm
theorem m0T.w_nil {y : m0T} (h : y.hh = []) : y.w = .code y.y y.cc y.nL y.ret := by unfold m0T.w; rw [h]
theorem m0T.w_cons {y : m0T} (h : y.hh ≠ []) : y.w = .codeWith y.y y.cc y.nL y.ret y.hh := by
  unfold m0T.w
  split
  · exact absurd (by assumption) h
  · rfl
theorem met_of {l : Launch} {y : MethodName} {ws : List Jvm.Cond} {rm : Room} {Pc : Array Value → State → Prop} {Qc : Array Value → State → Outcome → State → Prop} {XC : String → State → State → Prop} {mc ms : Nat} {free : Addr → Prop} (h : vx_Met l y ws rm Pc Qc XC mc ms free) (hX : ∀ E st t, ¬ XC E st t) : Met l y ws rm Pc Qc mc ms free := by
  intro p e ha hc hk s m args below hf happ hP hK
  obtain ⟨n, o, h1, h2, h3, h4⟩ := h p e ha hc hk s m args below hf happ hP hK
  refine ⟨n, o, h1, h2, h3, ?_⟩
  rcases h4 with h4 | ⟨q, -, E, ce, L, hx, -⟩
  · exact h4
  · exact absurd hx (hX _ _ _)
section QC
variable {G : gT} {M : mT} {d bc bs pc : Nat} {ls : List (Option Value)} {st : List Value} {w : xW} {K : Option Value → xW → Prop} {KX : Nat → xW → Prop} {go : recT}
variable {A : Nat → Prop} {ad0 : List Nat} {R : Room} {p : Program} {e : Env} {s : State} {m : MethodId} {args : Array Value} {below : List Frame} {meth : Method} {c : Code} {Q : State → Prop}
theorem run_of_run {l : Launch} {H : Heap} {locs : List Loc} {cells slots mc ms : Nat} {g : JFrame} {rest : List Value} {Qa : State → Outcome → State → Prop} {XC : String → State → State → Prop} {free : Addr → Prop} (h : va_Run p l e R s m args below meth c H locs cells slots mc ms g rest Qa free) : vx_Run p l e R s m args below meth c H locs cells slots mc ms g rest Qa XC free :=
  fun T hT X => Or.inl (h T hT X)
theorem WAt.low {H : Heap} {locs : List Loc} {ad : List Nat} {ws : va_W} (C : Ctx G M d A R p e s m args meth c) (h : WAt G A ad0 s.heap H locs w ad ws) : hLow G H := by
  obtain ⟨l1, l2⟩ := C.2.2.2.2.2.2.2.1
  obtain ⟨s1, s2, -⟩ := h.2.2.2.2
  refine ⟨Nat.le_trans l1 s1, fun q hq => ?_⟩
  rw [s2 q (Nat.lt_of_lt_of_le hq l1) (fun hA => absurd (C.sub q hA) (Nat.not_le.mpr hq))]
  exact l2 q hq
theorem WAt.up {H : Heap} {locs : List Loc} {ad : List Nat} {ws : va_W} (C : Ctx G M d A R p e s m args meth c) (h : WAt G A ad0 s.heap H locs w ad ws) : ∀ q, va_A ws H.size q → A q := by
  rintro q (⟨k, x, hk⟩ | hq)
  · exact h.2.2.2.1.2 k (q, x) hk
  · exact C.2.2.2.2.2.2.2.2.2.1 q (Nat.le_trans h.2.2.2.2.1 hq)
theorem PcS.pre {H : Heap} {locs : List Loc} {ad : List Nat} {ws : va_W} (C : Ctx G M d A R p e s m args meth c) (h : WAt G A ad0 s.heap H locs w ad ws) (ca : List Value) : ∀ U : State, U.heap = H → s.WarmedH U.vm → PcS G ws H.size ca ca.toArray U := fun U hU hW =>
  ⟨rfl, by rw [hU], State.WarmedH.trans C.2.2.2.2.2.2.1 hW, by rw [hU]; exact h.low C, by rw [hU]; exact h.2.2.1, h.2.2.2.1.weaken (fun _ _ _ q => C.sub _ q)⟩
theorem PcS.blind {ws : va_W} {sz : Nat} {ca : List Value} : FrameBlind (PcS G ws sz ca) := fun _ _ _ _ h => h
/-- behind a call's end -/
theorem call_end {H : Heap} {locs : List Loc} {cells slots mc ms : Nat} {ad : List Nat} {ws : va_W} {lc : Array Slot} {sc rest : List Value} {a : Array Value} {Kc : Option Value → xW → Prop} {KXc : Nat → xW → Prop}
    (C : Ctx G M d A R p e s m args meth c) (hW : WAt G A ad0 s.heap H locs w ad ws)
    (hr : vx_Run p G.l e R s m args below meth c H locs cells slots mc ms (F0 m pc lc sc) rest (QcS G ad ws H.size Kc a) (XcS G ad ws H.size KXc) (va_A ws H.size))
    (kk : ∀ (v cv : Option Value) (w' : xW) (ad' : List Nat) (ws' : va_W) (H' : Heap) (locs' : List Loc), Kc v w' → rO G ad' v cv → adM ad ad' → WAt G A ad0 s.heap H' locs' w' ad' ws' → W p G.l e R s m args below meth c H' locs' (cells + mc) (slots + ms) Q (F0 m (pc + 3) lc (cv.toList ++ rest)))
    (kx : ∀ (x : Nat) (w' : xW) (ad' : List Nat) (ws' : va_W) (H' : Heap) (locs' : List Loc) (q : Addr) (ce : Cell), KXc x w' → adM ad ad' → WAt G A ad0 s.heap H' locs' w' ad' ws' → H'[q]? = some ce → ce.vm = .none → s.vm.findClass (exN x) = some ce.cls → vx_W p G.l e R s m args below meth c H' locs' (cells + mc) (slots + ms) Q (F0 m pc lc rest) q) :
    W p G.l e R s m args below meth c H locs cells slots Q (F0 m pc lc sc) := by
  intro T hT X
  have hup := hW.up C
  have join : ∀ (st₀ t T' : State) (L : List Loc) (w' : xW) (ad' : List Nat), st₀.heap = H → T'.heap = t.heap → (∀ q ∈ L, va_A ws H.size q.base) → WEnd G ad ws H.size st₀ t w' ad' → ∃ ws', WAt G A ad0 s.heap T'.heap (locs ++ L) w' ad' ws' := by
    intro st₀ t T' L w' ad' h0 e1 hL ⟨hm, ws', r1, r2, r3, r4⟩
    obtain ⟨-, -, k3⟩ := vx_keep h0 e1 hW.2.2.2.2 (fun q _ h => hup q h) hup hL r4
    exact ⟨ws', hW.1.tr hm, r1, by rw [e1]; exact r2, r3.weaken (fun _ _ _ h => hup _ h), k3⟩
  rcases hr T hT X with ⟨v9, st₀, t, T', L, h0, X', hL, e1, e2, ⟨v, cv, w', ad', hv, ho, hK, hE⟩, hs⟩ | ⟨q, st₀, t, T', L, E, ce, h0, X', hL, e1, e2, ⟨x9, w', ad', rfl, hKX, hE⟩, hce, hcv, hcl, hs⟩
  · cases hv
    obtain ⟨ws', hW'⟩ := join st₀ t T' L w' ad' h0 e1 hL hE
    obtain ⟨t2, a1, b1⟩ := kk v _ w' ad' ws' T'.heap (locs ++ L) hK ho hE.1 hW' T' rfl X'
    exact ⟨t2, hs t2 a1, b1⟩
  · obtain ⟨ws', hW'⟩ := join st₀ t T' L w' ad' h0 e1 hL hE
    obtain ⟨t2, a1, b1⟩ := kx x9 w' ad' ws' T'.heap (locs ++ L) q ce hKX hE.1 hW' (by rw [e1]; exact hce) hcv hcl T' rfl X'
    exact ⟨t2, hs.trans a1, b1⟩
theorem popN_rel {ad : List Nat} {n : Nat} {st as rest sc : List Value} (h : popN n [] st = some (as, rest)) (hS : rVs G ad st sc) : ∃ ca cr, sc = ca.reverse ++ cr ∧ rVs G ad as ca ∧ rVs G ad rest cr ∧ ca.length = n := by
  obtain ⟨h1, h2⟩ := popN_eq n [] st as rest h
  simp at h1 h2
  subst h1
  have split : ∀ (a b c : List Value), rVs G ad (a ++ b) c → ∃ c1 c2, c = c1 ++ c2 ∧ rVs G ad a c1 ∧ rVs G ad b c2 := by
    intro a
    induction a with
    | nil => intro b c hc; exact ⟨[], c, rfl, rfl, hc⟩
    | cons x a ih =>
      rintro b c ⟨y, c', rfl, hy, hc⟩
      obtain ⟨c1, c2, rfl, r1, r2⟩ := ih b c' hc
      exact ⟨y :: c1, c2, rfl, ⟨y, c1, rfl, hy, r1⟩, r2⟩
  obtain ⟨c1, c2, rfl, r1, r2⟩ := split _ _ _ hS
  refine ⟨c1.reverse, c2, by simp, ?_, r2, ?_⟩
  · have := r1.rev
    rwa [List.reverse_reverse] at this
  · rw [List.length_reverse, r1.len, List.length_reverse, h2]
theorem catS_rel {ad : List Nat} (hs : ∀ j, (G.sad j).category = 1) : ∀ {rest cr : List Value}, rVs G ad rest cr → (cr.map fun v => v.category).sum = catS rest
  | [], _, h => by rw [show _ = [] from h]; rfl
  | v :: l, _, ⟨cx, cs, e, h1, h2⟩ => by
    subst e
    have := catS_rel hs h2
    rw [List.map_cons, List.sum_cons, this, h1.cat hs]
    cases v <;> simp [catS, Value.category] <;> omega
/-- what every kind of call pays alike -/
theorem pay (C : Ctx G M d A R p e s m args meth c) (hg : gOK G) {y : m0T} (hy : m0OK y) : ∀ x ∈ [y.w], ∀ (a' : Array Value) (U : State), s.WarmedH U.vm → x.before a' U = true := by
  intro x hx a' U hU
  cases List.mem_singleton.mp hx
  exact word_at hU (good_of_word hy.2.1) (C.wrd hg hy.1 hy.2.1)
theorem room_le {d' : Nat} {y : m0T} (hy : m0OK y) (hd : d' < d) (h1 : d ≤ R.frames) (h2 : 64 * d ≤ R.locals) {mc ms : Nat} : (rmS d' mc ms).frames + 1 ≤ R.frames ∧ 8 + (y.nL + 11) + (rmS d' mc ms).locals ≤ R.locals := by
  have := hy.2.2.1
  unfold rmS
  constructor
  · show d' + 1 ≤ R.frames
    omega
  · show 8 + (y.nL + 11) + 64 * d' ≤ R.locals
    omega
/-- a method that a call names, by the kinds of calls -/
def vOK (own : String) (k : Nat) (y : m0T) (ci : Nat) : Prop := m0OK y ∧ y.hh = [] ∧ Jvm.Cond.methodLink own k y.y ∈ lw_tbl ∧ Jvm.Cond.instanceMethod y.y ∈ lw_tbl ∧ Jvm.Cond.selects y.y.cls y.y y.y ∈ lw_tbl ∧ ∃ (T : u_T) (N : Nat), vwCl[ci]? = some (y.y.cls, T, N)
def sOK (own : String) (k : Nat) (y : m0T) : Prop := m0OK y ∧ y.hh = [] ∧ Jvm.Cond.methodLink own k y.y ∈ lw_tbl ∧ Jvm.Cond.static y.y ∈ lw_tbl
def swOK (own : String) (k : Nat) (y : m0T) : Prop := m0OK y ∧ y.hh ≠ [] ∧ Jvm.Cond.methodLink own k y.y ∈ lw_tbl ∧ Jvm.Cond.static y.y ∈ lw_tbl
def iOK (own : String) (k : Nat) (y : m0T) : Prop := m0OK y ∧ y.hh = [] ∧ y.ret = none ∧ Jvm.Cond.methodLink own k y.y ∈ lw_tbl ∧ y.y.name = "<init>" ∧ Jvm.Cond.instanceMethod y.y ∈ lw_tbl
def snOK (own : String) (k : Nat) (y : m0T) : Prop := m0OK y ∧ y.hh = [] ∧ (∃ host, Jvm.Cond.methodLinkNest own k y.y host ∈ lw_tbl) ∧ Jvm.Cond.static y.y ∈ lw_tbl
def inOK (own : String) (k : Nat) (y : m0T) : Prop := m0OK y ∧ y.hh = [] ∧ y.ret = none ∧ (∃ host, Jvm.Cond.methodLinkNest own k y.y host ∈ lw_tbl) ∧ y.y.name = "<init>" ∧ Jvm.Cond.instanceMethod y.y ∈ lw_tbl
def uOK (own : String) (k : Nat) (y : m0T) : Prop := m0OK y ∧ y.hh = [] ∧ Jvm.Cond.methodLink own k y.y ∈ lw_tbl ∧ Jvm.Cond.instanceMethod y.y ∈ lw_tbl ∧ Jvm.Cond.sameMethod y.y.cls y.y.cls y.y.name y.y.desc ∈ lw_tbl ∧ (Jvm.Cond.selects RJ4 y.y y.y ∈ lw_tbl ∨ Jvm.Cond.privateMethod y.y ∈ lw_tbl)
def suOK (own : String) (k : Nat) (y : m0T) : Prop := m0OK y ∧ y.hh = [] ∧ Jvm.Cond.methodLink own k y.y ∈ lw_tbl ∧ Jvm.Cond.instanceMethod y.y ∈ lw_tbl ∧ Jvm.Cond.sameMethod y.y.cls y.y.cls y.y.name y.y.desc ∈ lw_tbl ∧ Jvm.Cond.superclass own y.y.cls ∈ lw_tbl ∧ y.y.name ≠ "<init>"
abbrev hgoT (G : gT) (M : mT) (d : Nat) (K : Option Value → xW → Prop) (KX : Nat → xW → Prop) (go : recT) : Prop := ∀ bc bs pc ls st w, go bc bs pc ls st w → AW G M d bc bs pc ls st w K KX
theorem go_ret (hgo : hgoT G M d K KX go) (C : Ctx G M d A R p e s m args meth c) (F : FinQ G M A ad0 R p e s m args below meth c Q K KX) {H' : Heap} {locs' : List Loc} {cells slots mc ms np : Nat} {ad ad' : List Nat} {ws' : va_W} {w' : xW} {lc : Array Slot} {rest cr : List Value} {v cv : Option Value} (hk : wpC go np ls rest (bc - mc) (bs - ms) v w') (ho : rO G ad' v cv) (hm : adM ad ad') (hW : WAt G A ad0 s.heap H' locs' w' ad' ws') (hL : rL G ad ls lc M.m.nL) (hS : rVs G ad rest cr) (h1 : cells + bc ≤ R.cells) (h2 : slots + bs ≤ R.slots) (hmc : mc ≤ bc) (hms : ms ≤ bs) :
    W p G.l e R s m args below meth c H' locs' (cells + mc) (slots + ms) Q (F0 m np lc (cv.toList ++ cr)) := by
  cases v with
  | none =>
    cases (show cv = none from ho)
    have hk : fW w' (fun w => go (bc - mc) (bs - ms) np ls rest w) := hk
    rw [fW_eq] at hk
    exact hgo _ _ _ _ _ _ hk A ad0 R p e s m args below meth c Q C F ad' ws' H' locs' (cells + mc) (slots + ms) lc cr hW (hL.mono hm) (hS.mono hm) (by omega) (by omega)
  | some v =>
    obtain ⟨c', rfl, hv⟩ := ho
    have hk : fV v (fun v => fW w' (fun w => go (bc - mc) (bs - ms) np ls (v :: rest) w)) := hk
    rw [fV_eq, fW_eq] at hk
    exact hgo _ _ _ _ _ _ hk A ad0 R p e s m args below meth c Q C F ad' ws' H' locs' (cells + mc) (slots + ms) lc (c' :: cr) hW (hL.mono hm) (.cons hv (hS.mono hm)) (by omega) (by omega)
theorem q_callS0 (hg : gOK G) (hgo : hgoT G M d K KX go) {k : Nat} {y : m0T} {as rest : List Value} (hx : sOK M.m.y.cls k y) (hpop : popN y.na [] st = some (as, rest)) (hcat : catS rest ≤ 8) (hd : decode M.m.cc pc = .ok (.invokestatic k, 3)) (h : CallC G d bc bs y as w (wpC go (pc + 3) ls rest) (fun _ _ => False)) : AW G M d bc bs pc ls st w K KX := by
  intro A ad0 R p e s m args below meth c Q C F ad ws H locs cells slots lc sc hW hL hS h1 h2
  obtain ⟨d', mc, ms, hd', hmc, hms, hSp⟩ := h
  obtain ⟨ca, cr, rfl, hca, hcr, hlen⟩ := popN_rel hpop hS
  obtain ⟨hy, hhh, hl, hst⟩ := hx
  have hM := hSp ad ws H.size ca hW.2.1 hca
  rw [m0T.w_nil hhh] at hM
  have hpay := pay C hg hy
  have hwc := C.wrd hg hy.1 hy.2.1
  rw [m0T.w_nil hhh] at hpay hwc
  have hrm := room_le (mc := mc) (ms := ms) hy hd' C.2.2.2.2.2.2.2.2.2.2.1 C.2.2.2.2.2.2.2.2.2.2.2.1
  refine call_end C hW (vx_runS (Ts := []) ⟨C.1, C.2.1, C.2.2.2.1, C.2.2.2.2.1, fun w h => by cases h⟩ hM ⟨⟨rfl, rfl, hrm.1, hrm.2, hpay, List.mem_cons_self, hwc, C.wrd hg hy.2.2.2.1 rfl, hy.2.2.2.2.1, hy.len, C.wrd hg hl rfl⟩, C.wrd hg hst rfl⟩ ⟨PcS.blind, PcS.pre C hW ca⟩ rfl hlen hL.1 rfl (by rw [catS_rel hg.cat hcr]; show 2 * 0 + _ ≤ 8; omega) hd ⟨by omega, by omega⟩) ?_ ?_
  · intro v cv w' ad' ws' H' locs' hK ho hm hW'
    exact go_ret hgo C F hK ho hm hW' hL hcr h1 h2 hmc hms
  · intro E w' ad' ws' H' locs' q ce hKX
    exact hKX.elim
theorem q_callV0 (hg : gOK G) (hgo : hgoT G M d K KX go) {k ci b : Nat} {y : m0T} {fs as rest : List Value} (hx : vOK M.m.y.cls k y ci) (hpop : popN y.na [] st = some (as, .ref b :: rest)) (hb : nth w b = some (.inr (ci, fs))) (hcat : catS rest ≤ 8) (hd : decode M.m.cc pc = .ok (.invokevirtual k, 3)) (h : CallC G d bc bs y (.ref b :: as) w (wpC go (pc + 3) ls rest) (fun _ _ => False)) : AW G M d bc bs pc ls st w K KX := by
  intro A ad0 R p e s m args below meth c Q C F ad ws H locs cells slots lc sc hW hL hS h1 h2
  obtain ⟨d', mc, ms, hd', hmc, hms, hSp⟩ := h
  obtain ⟨ca, cr, rfl, hca, ⟨cb, cr, rfl, ⟨a, ha, rfl⟩, hcr⟩, hlen⟩ := popN_rel hpop hS
  obtain ⟨hy, hhh, hl, hin, hsel, T, N, hcl⟩ := hx
  obtain ⟨e', q2, ⟨fs', rfl, hfs⟩⟩ := hW.cell hb ha
  have hM := hSp ad ws H.size (.ref a :: ca) hW.2.1 (.cons ⟨a, ha, rfl⟩ hca)
  rw [m0T.w_nil hhh] at hM
  have hpay := pay C hg hy
  have hwc := C.wrd hg hy.1 hy.2.1
  rw [m0T.w_nil hhh] at hpay hwc
  have hrm := room_le (mc := mc) (ms := ms) hy hd' C.2.2.2.2.2.2.2.2.2.2.1 C.2.2.2.2.2.2.2.2.2.2.2.1
  refine call_end C hW (vx_runV (Ts := []) ⟨C.1, C.2.1, C.2.2.2.1, C.2.2.2.2.1, fun w h => by cases h⟩ hM ⟨⟨rfl, rfl, hrm.1, hrm.2, hpay, List.mem_cons_self, hwc, C.wrd hg hy.2.2.2.1 rfl, hy.2.2.2.2.1, hy.len, C.wrd hg hl rfl⟩, C.wrd hg hin rfl, C.wrd hg hsel rfl⟩ ⟨PcS.blind, va_recv (C.kk hg) hW.2.2.1 hcl q2, PcS.pre C hW _⟩ rfl hlen hL.1 rfl (by rw [catS_rel hg.cat hcr]; show 2 * 0 + _ ≤ 8; omega) hd ⟨by omega, by omega⟩) ?_ ?_
  · intro v cv w' ad' ws' H' locs' hK ho hm hW'
    exact go_ret hgo C F hK ho hm hW' hL hcr h1 h2 hmc hms
  · intro E w' ad' ws' H' locs' q ce hKX
    exact hKX.elim
theorem xcs_no {ad : List Nat} {ws : va_W} {sz : Nat} : ∀ E st t, ¬ XcS G ad ws sz (fun _ _ => False) E st t := fun E st t ⟨_, _, _, _, h, _⟩ => h
theorem q_callI (hg : gOK G) (hgo : hgoT G M d K KX go) {k b : Nat} {y : m0T} {as rest : List Value} (hx : iOK M.m.y.cls k y) (hpop : popN y.na [] st = some (as, .ref b :: rest)) (hcat : catS rest ≤ 8) (hd : decode M.m.cc pc = .ok (.invokespecial k, 3)) (h : CallC G d bc bs y (.ref b :: as) w (wpC go (pc + 3) ls rest) (fun _ _ => False)) : AW G M d bc bs pc ls st w K KX := by
  intro A ad0 R p e s m args below meth c Q C F ad ws H locs cells slots lc sc hW hL hS h1 h2
  obtain ⟨d', mc, ms, hd', hmc, hms, hSp⟩ := h
  obtain ⟨ca, cr, rfl, hca, ⟨cb, cr, rfl, ⟨a, ha, rfl⟩, hcr⟩, hlen⟩ := popN_rel hpop hS
  obtain ⟨hy, hhh, hret, hl, hnm, hin⟩ := hx
  have hM := met_of (hSp ad ws H.size (.ref a :: ca) hW.2.1 (.cons ⟨a, ha, rfl⟩ hca)) xcs_no
  rw [m0T.w_nil hhh, hret] at hM
  have hpay := pay C hg hy
  have hwc := C.wrd hg hy.1 hy.2.1
  rw [m0T.w_nil hhh, hret] at hpay hwc
  have hrm := room_le (mc := mc) (ms := ms) hy hd' C.2.2.2.2.2.2.2.2.2.2.1 C.2.2.2.2.2.2.2.2.2.2.2.1
  refine call_end (KXc := fun _ _ => False) C hW (run_of_run (va_runI (Ts := []) ⟨C.1, C.2.1, C.2.2.2.1, C.2.2.2.2.1, fun w h => by cases h⟩ hM ⟨⟨rfl, rfl, hrm.1, hrm.2, hpay, List.mem_cons_self, hwc, C.wrd hg hy.2.2.2.1 rfl, hy.2.2.2.2.1, hy.len, C.wrd hg hl rfl⟩, hnm, C.wrd hg hin rfl⟩ ⟨PcS.blind, PcS.pre C hW _⟩ rfl hlen hL.1 rfl (by rw [catS_rel hg.cat hcr]; show 2 * 0 + _ ≤ 8; omega) hd ⟨by omega, by omega⟩)) ?_ ?_
  · intro v cv w' ad' ws' H' locs' hK ho hm hW'
    exact go_ret hgo C F hK ho hm hW' hL hcr h1 h2 hmc hms
  · intro E w' ad' ws' H' locs' q ce hKX
    exact hKX.elim
theorem q_callSN (hg : gOK G) (hgo : hgoT G M d K KX go) {k : Nat} {y : m0T} {as rest : List Value} (hx : snOK M.m.y.cls k y) (hpop : popN y.na [] st = some (as, rest)) (hcat : catS rest ≤ 8) (hd : decode M.m.cc pc = .ok (.invokestatic k, 3)) (h : CallC G d bc bs y as w (wpC go (pc + 3) ls rest) (fun _ _ => False)) : AW G M d bc bs pc ls st w K KX := by
  intro A ad0 R p e s m args below meth c Q C F ad ws H locs cells slots lc sc hW hL hS h1 h2
  obtain ⟨d', mc, ms, hd', hmc, hms, hSp⟩ := h
  obtain ⟨ca, cr, rfl, hca, hcr, hlen⟩ := popN_rel hpop hS
  obtain ⟨hy, hhh, ⟨host, hl⟩, hst⟩ := hx
  have hM := met_of (hSp ad ws H.size ca hW.2.1 hca) xcs_no
  rw [m0T.w_nil hhh] at hM
  have hpay := pay C hg hy
  have hwc := C.wrd hg hy.1 hy.2.1
  rw [m0T.w_nil hhh] at hpay hwc
  have hrm := room_le (mc := mc) (ms := ms) hy hd' C.2.2.2.2.2.2.2.2.2.2.1 C.2.2.2.2.2.2.2.2.2.2.2.1
  refine call_end (KXc := fun _ _ => False) C hW (run_of_run (va_runSN (host := host) (Ts := []) ⟨C.1, C.2.1, C.2.2.2.1, C.2.2.2.2.1, fun w h => by cases h⟩ hM ⟨⟨⟨rfl, rfl, hrm.1, hrm.2, hpay, List.mem_cons_self⟩, hwc, C.wrd hg hy.2.2.2.1 rfl, hy.2.2.2.2.1, hy.len, va_Nw.use rfl (C.nestM hg hl)⟩, C.wrd hg hst rfl, trivial⟩ ⟨PcS.blind, PcS.pre C hW ca⟩ rfl hlen hL.1 rfl (by rw [catS_rel hg.cat hcr]; show 2 * 0 + _ ≤ 8; omega) hd ⟨by omega, by omega⟩)) ?_ ?_
  · intro v cv w' ad' ws' H' locs' hK ho hm hW'
    exact go_ret hgo C F hK ho hm hW' hL hcr h1 h2 hmc hms
  · intro E w' ad' ws' H' locs' q ce hKX
    exact hKX.elim
theorem q_callIN (hg : gOK G) (hgo : hgoT G M d K KX go) {k b : Nat} {y : m0T} {as rest : List Value} (hx : inOK M.m.y.cls k y) (hpop : popN y.na [] st = some (as, .ref b :: rest)) (hcat : catS rest ≤ 8) (hd : decode M.m.cc pc = .ok (.invokespecial k, 3)) (h : CallC G d bc bs y (.ref b :: as) w (wpC go (pc + 3) ls rest) (fun _ _ => False)) : AW G M d bc bs pc ls st w K KX := by
  intro A ad0 R p e s m args below meth c Q C F ad ws H locs cells slots lc sc hW hL hS h1 h2
  obtain ⟨d', mc, ms, hd', hmc, hms, hSp⟩ := h
  obtain ⟨ca, cr, rfl, hca, ⟨cb, cr, rfl, ⟨a, ha, rfl⟩, hcr⟩, hlen⟩ := popN_rel hpop hS
  obtain ⟨hy, hhh, hret, ⟨host, hl⟩, hnm, hin⟩ := hx
  have hM := met_of (hSp ad ws H.size (.ref a :: ca) hW.2.1 (.cons ⟨a, ha, rfl⟩ hca)) xcs_no
  rw [m0T.w_nil hhh, hret] at hM
  have hpay := pay C hg hy
  have hwc := C.wrd hg hy.1 hy.2.1
  rw [m0T.w_nil hhh, hret] at hpay hwc
  have hrm := room_le (mc := mc) (ms := ms) hy hd' C.2.2.2.2.2.2.2.2.2.2.1 C.2.2.2.2.2.2.2.2.2.2.2.1
  refine call_end (KXc := fun _ _ => False) C hW (run_of_run (va_runIN (host := host) (Ts := []) ⟨C.1, C.2.1, C.2.2.2.1, C.2.2.2.2.1, fun w h => by cases h⟩ hM ⟨⟨⟨rfl, rfl, hrm.1, hrm.2, hpay, List.mem_cons_self⟩, hwc, C.wrd hg hy.2.2.2.1 rfl, hy.2.2.2.2.1, hy.len, va_Nw.use rfl (C.nestM hg hl)⟩, hnm, C.wrd hg hin rfl⟩ ⟨PcS.blind, PcS.pre C hW _⟩ rfl hlen hL.1 rfl (by rw [catS_rel hg.cat hcr]; show 2 * 0 + _ ≤ 8; omega) hd ⟨by omega, by omega⟩)) ?_ ?_
  · intro v cv w' ad' ws' H' locs' hK ho hm hW'
    exact go_ret hgo C F hK ho hm hW' hL hcr h1 h2 hmc hms
  · intro E w' ad' ws' H' locs' q ce hKX
    exact hKX.elim
theorem q_callSW (hg : gOK G) (hgo : hgoT G M d K KX go) {k : Nat} {y : m0T} {as rest : List Value} (hx : swOK M.m.y.cls k y) (hpop : popN y.na [] st = some (as, rest)) (hcat : catS rest ≤ 8) (hd : decode M.m.cc pc = .ok (.invokestatic k, 3)) (h : CallC G d bc bs y as w (wpC go (pc + 3) ls rest) (fun _ _ => False)) : AW G M d bc bs pc ls st w K KX := by
  intro A ad0 R p e s m args below meth c Q C F ad ws H locs cells slots lc sc hW hL hS h1 h2
  obtain ⟨d', mc, ms, hd', hmc, hms, hSp⟩ := h
  obtain ⟨ca, cr, rfl, hca, hcr, hlen⟩ := popN_rel hpop hS
  obtain ⟨hy, hhh, hl, hst⟩ := hx
  have hM := met_of (hSp ad ws H.size ca hW.2.1 hca) xcs_no
  rw [m0T.w_cons hhh] at hM
  have hpay := pay C hg hy
  have hwc := C.wrd hg hy.1 hy.2.1
  rw [m0T.w_cons hhh] at hpay hwc
  have hrm := room_le (mc := mc) (ms := ms) hy hd' C.2.2.2.2.2.2.2.2.2.2.1 C.2.2.2.2.2.2.2.2.2.2.2.1
  refine call_end (KXc := fun _ _ => False) C hW (run_of_run (vx_runSW (Ts := []) ⟨C.1, C.2.1, C.2.2.2.1, C.2.2.2.2.1, fun w h => by cases h⟩ hM ⟨⟨rfl, rfl, hrm.1, hrm.2, hpay, List.mem_cons_self⟩, hwc, C.wrd hg hy.2.2.2.1 rfl, hy.2.2.2.2.1, hy.len, C.wrd hg hl rfl, C.wrd hg hst rfl⟩ ⟨PcS.blind, PcS.pre C hW ca⟩ rfl hlen hL.1 rfl (by rw [catS_rel hg.cat hcr]; show 2 * 0 + _ ≤ 8; omega) hd ⟨by omega, by omega⟩)) ?_ ?_
  · intro v cv w' ad' ws' H' locs' hK ho hm hW'
    exact go_ret hgo C F hK ho hm hW' hL hcr h1 h2 hmc hms
  · intro E w' ad' ws' H' locs' q ce hKX
    exact hKX.elim
end QC
end
section
/-! ===== the walk is right: inherited methods, natives, ends, throws, handlers ===== -/
theorem sel_priv {y : MethodName} {s : State} {args : Array Value} {n : Nat} {D : String} (hy : y.cls ≠ "java/lang/invoke/MethodHandle" ∧ y.cls ≠ "java/lang/invoke/VarHandle")
    (hins : (Cond.instantiable D n).before args s = true) (hsame : (Cond.sameMethod y.cls y.cls y.name y.desc).before args s = true) (hpriv : (Cond.privateMethod y).before args s = true) (hinst : (Cond.instanceMethod y).before args s = true) :
    (Cond.selects D y y).before args s = true := by
  obtain ⟨c, k, hc, hk, -, -, -, -⟩ := Cond.instantiable_spec hins
  obtain ⟨mk, methM, hnamed, hmethM, -, -⟩ := Cond.instanceMethod_spec hinst
  have hfound : s.methodFound? y.cls y.name y.desc = some mk := State.methodFound?_of_named hnamed hy
  obtain ⟨-, k2, hk2, hni⟩ := Cond.sameMethod_spec (findClass_of_methodNamed hnamed) hfound hsame
  have hsel : selectMethod {} s.vm c mk = .method mk := selectMethod_private hmethM (Cond.privateMethod_at hpriv mk methM hnamed hmethM)
  simp only [Cond.before, Cond.holds, Cond.value, hc, hfound, hnamed, hsel, hk2]
  simp; exact hni
section QD
variable {G : gT} {M : mT} {d bc bs pc : Nat} {ls : List (Option Value)} {st : List Value} {w : xW} {K : Option Value → xW → Prop} {KX : Nat → xW → Prop} {go : recT}
variable {A : Nat → Prop} {ad0 : List Nat} {R : Room} {p : Program} {e : Env} {s : State} {m : MethodId} {args : Array Value} {below : List Frame} {meth : Method} {c : Code} {Q : State → Prop}
theorem in_sb : Jvm.Cond.instantiable RJ4 4 ∈ lw_tbl := List.mem_append_right _ (List.mem_of_getElem? (i := 208) (by decide +kernel))
theorem q_callU (hg : gOK G) (hgo : hgoT G M d K KX go) {k b : Nat} {y : m0T} {fs as rest : List Value} (hx : uOK M.m.y.cls k y) (hpop : popN y.na [] st = some (as, .ref b :: rest)) (hb : nth w b = some (.inr (1, fs))) (hcat : catS rest ≤ 8) (hd : decode M.m.cc pc = .ok (.invokevirtual k, 3)) (h : CallC G d bc bs y (.ref b :: as) w (wpC go (pc + 3) ls rest) (fun _ _ => False)) : AW G M d bc bs pc ls st w K KX := by
  intro A ad0 R p e s m args below meth c Q C F ad ws H locs cells slots lc sc hW hL hS h1 h2
  obtain ⟨d', mc, ms, hd', hmc, hms, hSp⟩ := h
  obtain ⟨ca, cr, rfl, hca, ⟨cb, cr, rfl, ⟨a, ha, rfl⟩, hcr⟩, hlen⟩ := popN_rel hpop hS
  obtain ⟨hy, hhh, hl, hin, hsm, hsel⟩ := hx
  obtain ⟨e', q2, ⟨fs', rfl, hfs⟩⟩ := hW.cell hb ha
  have hM := met_of (hSp ad ws H.size (.ref a :: ca) hW.2.1 (.cons ⟨a, ha, rfl⟩ hca)) xcs_no
  rw [m0T.w_nil hhh] at hM
  have hpay := pay C hg hy
  have hwc := C.wrd hg hy.1 hy.2.1
  rw [m0T.w_nil hhh] at hpay hwc
  have hrm := room_le (mc := mc) (ms := ms) hy hd' C.2.2.2.2.2.2.2.2.2.2.1 C.2.2.2.2.2.2.2.2.2.2.2.1
  have hsl : (Jvm.Cond.selects RJ4 y.y y.y).before args s = true := by
    rcases hsel with hsel | hp
    · exact C.wrd hg hsel rfl
    · exact word_at C.2.2.2.2.2.2.1 (good_of_word rfl) (sel_priv hy.2.2.2.2.1 (hg.1 _ in_sb) (hg.1 _ hsm) (hg.1 _ hp) (hg.1 _ hin))
  refine call_end (KXc := fun _ _ => False) C hW (run_of_run (va_runU (x := y.y) (owner := y.y.cls) (C := RJ4) (Ts := []) ⟨C.1, C.2.1, C.2.2.2.1, C.2.2.2.2.1, fun w h => by cases h⟩ hM ⟨⟨rfl, rfl, hrm.1, hrm.2, hpay, List.mem_cons_self⟩, hwc, C.wrd hg hy.2.2.2.1 rfl, hy.2.2.2.2.1, hy.len, C.wrd hg hl rfl, C.wrd hg hsm rfl, va_Decl.of (C.wrd hg hin rfl) hwc, hsl, C.wrd hg hin rfl⟩ ⟨PcS.blind, va_recv (C.kk hg) hW.2.2.1 (q := (RJ4, TJ4, 4)) rfl q2, PcS.pre C hW _⟩ rfl hlen hL.1 rfl (by rw [catS_rel hg.cat hcr]; show 2 * 0 + _ ≤ 8; omega) hd ⟨by omega, by omega⟩)) ?_ ?_
  · intro v cv w' ad' ws' H' locs' hK ho hm hW'
    exact go_ret hgo C F hK ho hm hW' hL hcr h1 h2 hmc hms
  · intro E w' ad' ws' H' locs' q ce hKX
    exact hKX.elim
theorem q_callSU (hg : gOK G) (hgo : hgoT G M d K KX go) {k b : Nat} {y : m0T} {fs as rest : List Value} (hx : suOK M.m.y.cls k y) (hpop : popN y.na [] st = some (as, .ref b :: rest)) (hb : nth w b = some (.inr (1, fs))) (hcat : catS rest ≤ 8) (hd : decode M.m.cc pc = .ok (.invokespecial k, 3)) (h : CallC G d bc bs y (.ref b :: as) w (wpC go (pc + 3) ls rest) (fun _ _ => False)) : AW G M d bc bs pc ls st w K KX := by
  intro A ad0 R p e s m args below meth c Q C F ad ws H locs cells slots lc sc hW hL hS h1 h2
  obtain ⟨d', mc, ms, hd', hmc, hms, hSp⟩ := h
  obtain ⟨ca, cr, rfl, hca, ⟨cb, cr, rfl, ⟨a, ha, rfl⟩, hcr⟩, hlen⟩ := popN_rel hpop hS
  obtain ⟨hy, hhh, hl, hin, hsm, hsup, hnm⟩ := hx
  obtain ⟨e', q2, ⟨fs', rfl, hfs⟩⟩ := hW.cell hb ha
  have hM := met_of (hSp ad ws H.size (.ref a :: ca) hW.2.1 (.cons ⟨a, ha, rfl⟩ hca)) xcs_no
  rw [m0T.w_nil hhh] at hM
  have hpay := pay C hg hy
  have hwc := C.wrd hg hy.1 hy.2.1
  rw [m0T.w_nil hhh] at hpay hwc
  have hrm := room_le (mc := mc) (ms := ms) hy hd' C.2.2.2.2.2.2.2.2.2.2.1 C.2.2.2.2.2.2.2.2.2.2.2.1
  refine call_end (KXc := fun _ _ => False) C hW (run_of_run (va_runSU (Ts := []) ((C.kk hg).1 1 (RJ4, TJ4, 4) rfl).2 ⟨C.1, C.2.1, C.2.2.2.1, C.2.2.2.2.1, fun w h => by cases h⟩ hM ⟨⟨rfl, rfl, hrm.1, hrm.2, hpay, List.mem_cons_self⟩, C.wrd hg hl rfl, C.wrd hg hsm rfl, C.wrd hg hsup rfl, C.wrd hg hin rfl, C.wrd hg hy.2.2.2.1 rfl, hwc, hnm, hy.len⟩ ⟨PcS.blind, va_recv (C.kk hg) hW.2.2.1 (q := (RJ4, TJ4, 4)) rfl q2, PcS.pre C hW _⟩ rfl hlen hL.1 rfl (by rw [catS_rel hg.cat hcr]; show 2 * 0 + _ ≤ 8; omega) hd ⟨by omega, by omega⟩)) ?_ ?_
  · intro v cv w' ad' ws' H' locs' hK ho hm hW'
    exact go_ret hgo C F hK ho hm hW' hL hcr h1 h2 hmc hms
  · intro E w' ad' ws' H' locs' q ce hKX
    exact hKX.elim
def oiOK (own : String) (k : Nat) : Prop := Jvm.Cond.methodLink own k Lib.objectInit ∈ lw_tbl ∧ Jvm.Cond.instanceMethod Lib.objectInit ∈ lw_tbl ∧ Jvm.Cond.code Lib.objectInit ⟨#[0xb1]⟩ 1 none ∈ lw_tbl
theorem q_objInit (hg : gOK G) (hgo : hgoT G M d K KX go) {k b : Nat} {rest : List Value} (hx : oiOK M.m.y.cls k) (hcat : catS rest ≤ 8) (h1d : 1 ≤ d) (hd : decode M.m.cc pc = .ok (.invokespecial k, 3)) (h : go bc bs (pc + 3) ls rest w) : AW G M d bc bs pc ls (.ref b :: rest) w K KX := by
  intro A ad0 R p e s m args below meth c Q C F ad ws H locs cells slots lc sc hW hL hS h1 h2
  obtain ⟨cb, cr, rfl, ⟨a, ha, rfl⟩, hcr⟩ := hS
  have hf := C.2.2.2.2.2.2.2.2.2.2.1
  have hlo := C.2.2.2.2.2.2.2.2.2.2.2.1
  have hk := hgo _ _ _ _ _ _ h A ad0 R p e s m args below meth c Q C F ad ws H locs cells slots lc cr hW hL hcr h1 h2
  exact W.objInit C.1 C.2.1 C.2.2.2.2.1 (C.wrd hg hx.1 rfl) (C.wrd hg hx.2.1 rfl) (C.wrd hg hx.2.2 rfl) rfl (by rw [C.2.2.2.1]; exact hL.1) rfl hd (by omega) (by rw [catS_rel hg.cat hcr]; show 2 * 0 + _ + 12 ≤ _; omega) hk
def mmOK (own : String) (k : Nat) : Prop := Jvm.Cond.methodLink own k Lib.Math.max.name ∈ lw_tbl ∧ Jvm.Cond.static Lib.Math.max.name ∈ lw_tbl ∧ Jvm.Cond.initialized "java/lang/Math" ∈ lw_tbl ∧ Jvm.Cond.code Lib.Math.max.name Lib.Math.max.code 2 (some .int) ∈ lw_tbl
def mnOK (own : String) (k : Nat) : Prop := Jvm.Cond.methodLink own k Lib.Math.min.name ∈ lw_tbl ∧ Jvm.Cond.static Lib.Math.min.name ∈ lw_tbl ∧ Jvm.Cond.initialized "java/lang/Math" ∈ lw_tbl ∧ Jvm.Cond.code Lib.Math.min.name Lib.Math.min.code 2 (some .int) ∈ lw_tbl
theorem q_max (hg : gOK G) (hgo : hgoT G M d K KX go) {k : Nat} {x y : Int32} {rest : List Value} (hx : mmOK M.m.y.cls k) (hcat : catS rest ≤ 8) (h1d : 1 ≤ d) (hd : decode M.m.cc pc = .ok (.invokestatic k, 3)) (h : go bc bs (pc + 3) ls (.int (if x < y then y else x) :: rest) w) : AW G M d bc bs pc ls (.int y :: .int x :: rest) w K KX := by
  intro A ad0 R p e s m args below meth c Q C F ad ws H locs cells slots lc sc hW hL hS h1 h2
  obtain ⟨cy, sc, rfl, hy, cx, cr, rfl, hx9, hcr⟩ := hS
  cases (show cy = _ from hy); cases (show cx = _ from hx9)
  have hf := C.2.2.2.2.2.2.2.2.2.2.1
  have hlo := C.2.2.2.2.2.2.2.2.2.2.2.1
  exact va_mmax C.1 C.2.1 (by rw [C.2.2.2.1]; exact hL.1.symm) C.2.2.2.2.1 (C.wrd hg hx.1 rfl) (C.wrd hg hx.2.1 rfl) (C.wrd hg hx.2.2.1 rfl) (C.wrd hg hx.2.2.2 rfl) (by omega) (by rw [catS_rel hg.cat hcr]; omega) (by omega) (by omega) hd (hgo _ _ _ _ _ _ h A ad0 R p e s m args below meth c Q C F ad ws H locs cells slots lc _ hW hL (.cons rfl hcr) h1 h2)
theorem q_min (hg : gOK G) (hgo : hgoT G M d K KX go) {k : Nat} {x y : Int32} {rest : List Value} (hx : mnOK M.m.y.cls k) (hcat : catS rest ≤ 8) (h1d : 1 ≤ d) (hd : decode M.m.cc pc = .ok (.invokestatic k, 3)) (h : go bc bs (pc + 3) ls (.int (if y < x then y else x) :: rest) w) : AW G M d bc bs pc ls (.int y :: .int x :: rest) w K KX := by
  intro A ad0 R p e s m args below meth c Q C F ad ws H locs cells slots lc sc hW hL hS h1 h2
  obtain ⟨cy, sc, rfl, hy, cx, cr, rfl, hx9, hcr⟩ := hS
  cases (show cy = _ from hy); cases (show cx = _ from hx9)
  have hf := C.2.2.2.2.2.2.2.2.2.2.1
  have hlo := C.2.2.2.2.2.2.2.2.2.2.2.1
  exact va_mmin C.1 C.2.1 (by rw [C.2.2.2.1]; exact hL.1.symm) C.2.2.2.2.1 (C.wrd hg hx.1 rfl) (C.wrd hg hx.2.1 rfl) (C.wrd hg hx.2.2.1 rfl) (C.wrd hg hx.2.2.2 rfl) (by omega) (by rw [catS_rel hg.cat hcr]; omega) (by omega) (by omega) hd (hgo _ _ _ _ _ _ h A ad0 R p e s m args below meth c Q C F ad ws H locs cells slots lc _ hW hL (.cons rfl hcr) h1 h2)
def acOK (own : String) (k : Nat) : Prop := Jvm.Cond.methodLink own k arraycopyName ∈ lw_tbl ∧ Jvm.Cond.native arraycopyName ∈ lw_tbl ∧ Jvm.Cond.static arraycopyName ∈ lw_tbl ∧ Jvm.Cond.initialized "java/lang/System" ∈ lw_tbl
theorem q_copy (hg : gOK G) (hgo : hgoT G M d K KX go) {k x y n0 n1 : Nat} {f g : Nat → Int32} {sp dp n : Int32} {rest : List Value} (hx : acOK M.m.y.cls k) (hcat : catS rest ≤ 8) (h4d : 4 ≤ d) (hw0 : nth w x = some (.inl (3, n0, .inl f))) (hw1 : nth w y = some (.inl (3, n1, .inl g)))
    (e1 : ¬ sp < 0) (e2 : ¬ dp < 0) (e3 : ¬ n < 0) (e4 : sp.toNatClampNeg + n.toNatClampNeg ≤ n0) (e5 : dp.toNatClampNeg + n.toNatClampNeg ≤ n1) (e6 : ∀ i, i < n.toNatClampNeg → fits .byte (.int (f (sp.toNatClampNeg + i))) = true)
    (hd : decode M.m.cc pc = .ok (.invokestatic k, 3)) (h : go bc bs (pc + 3) ls rest (stN w y (.inl (3, n1, .inl (va_cpy f g sp.toNatClampNeg dp.toNatClampNeg n.toNatClampNeg))))) : AW G M d bc bs pc ls (.int n :: .int dp :: .ref y :: .int sp :: .ref x :: rest) w K KX := by
  intro A ad0 R p e s m args below meth c Q C F ad ws H locs cells slots lc sc hW hL hS h1 h2
  obtain ⟨cn, sc, rfl, hn, cd, sc, rfl, hdp, cy, sc, rfl, ⟨b, hb, rfl⟩, cs, sc, rfl, hsp, cx, cr, rfl, ⟨a, ha, rfl⟩, hcr⟩ := hS
  cases (show cn = _ from hn); cases (show cd = _ from hdp); cases (show cs = _ from hsp)
  have hf := C.2.2.2.2.2.2.2.2.2.2.1
  have hlo := C.2.2.2.2.2.2.2.2.2.2.2.1
  obtain ⟨e0, q0, u0, d0, hu0, rfl, r0⟩ := hW.cell hw0 ha
  obtain ⟨e9, q1, u1, d1, hu1, rfl, r1⟩ := hW.cell hw1 hb
  cases (show d0 = _ from r0); cases (show d1 = _ from r1)
  obtain ⟨c0, t0⟩ := u0
  obtain ⟨c1, t1⟩ := u1
  have ht0 := hg.ty hu0
  have ht1 := hg.ty hu1
  cases ht0; cases ht1
  have hnf : nativeFrameWords "java/lang/System" "arraycopy" 5 + 11 ≤ 248 := by decide +kernel
  exact va_copyi C.1 C.2.1 (by rw [C.2.2.2.1]; exact hL.1.symm) C.2.2.2.2.1 (C.wrd hg hx.1 rfl) (C.wrd hg hx.2.1 rfl) (C.wrd hg hx.2.2.1 rfl) (C.wrd hg hx.2.2.2 rfl) (C.kk hg) hW.2.2.1 hW.2.2.2.1 hW.2.2.2.2 x y 3 3 q0 q1 hu0 hu1 rfl e1 e2 e3 e4 e5 e6 (by omega) (by rw [catS_rel hg.cat hcr]; omega) hd
    (fun H1 locs1 r1 r2 r3 => hgo _ _ _ _ _ _ h A ad0 R p e s m args below meth c Q C F ad _ H1 locs1 cells slots lc _ (hW.put hb ⟨_, _, hu1, rfl, rfl⟩ r1 r2 r3) hL hcr h1 h2)
theorem q_ret {v : Option Value} (hr : retI M pc v) (hst : st = v.toList) (h : K v w) : AW G M d bc bs pc ls st w K KX := by
  intro A ad0 R p e s m args below meth c Q C F ad ws H locs cells slots lc sc hW hL hS h1 h2
  subst hst
  cases v with
  | none =>
    cases (show sc = [] from hS)
    exact F.1 pc none none w ad ws H locs cells slots lc h hr rfl hW (by omega) (by omega)
  | some v =>
    obtain ⟨cv, sc, rfl, hv, hS⟩ := hS
    cases (show sc = [] from hS)
    exact F.1 pc (some v) (some cv) w ad ws H locs cells slots lc h hr ⟨cv, rfl, hv⟩ hW (by omega) (by omega)
theorem q_throw {x : Nat} (hr : thrI M pc x) (h6 : 6 ≤ d) (hb : 1 ≤ bc) (hs6 : 6 ≤ bs) (h : KX x w) : AW G M d bc bs pc ls [] w K KX := by
  intro A ad0 R p e s m args below meth c Q C F ad ws H locs cells slots lc sc hW hL hS h1 h2
  cases (show sc = [] from hS)
  exact F.2 pc x w ad ws H locs cells slots lc h hr (by have := C.2.2.2.2.2.2.2.2.2.2.1; omega) (by have := C.2.2.2.2.2.2.2.2.2.2.2.1; omega) hL.1 hW (by omega) (by omega)
end QD
end
section
/-! ===== the walk is right: handlers, the ends of a method; the whole ===== -/
def trW : Jvm.Cond → Bool
  | .castable .. => true
  | .declares _ => true
  | x => goodWord x
theorem tr_at {args a' : Array Value} {s U : State} (hW : s.WarmedH U.vm) {x : Jvm.Cond} (hx : trW x = true) (h : x.before args s = true) : x.before a' U = true := by
  cases x with
  | castable a b => exact va_Nw.use rfl (va_Nw.warmC hW (va_Nw.of rfl h))
  | declares y => exact va_Nw.use rfl (va_Nw.warmD hW (va_Nw.of rfl h))
  | _ => exact word_at hW (good_of_word hx) h
def exNm : List String := ["java/lang/RuntimeException", "java/lang/Exception"]
/-- the words of a throw of the x-th exception -/
def thrW (own : String) (ic x : Nat) : Prop := ∀ q ∈ vx_atS own ic (exN x) exNm, q ∈ lw_tbl ∧ trW q = true ∧ vx_ot q = true
def thrOK (M : mT) : Prop := ∀ (pc x : Nat), thrI M pc x → M.m.hh = [] ∧ ∃ (ik iS ic : Nat) (text : String), Jvm.Cond.classLink M.m.y.cls ik (exN x) ∈ lw_tbl ∧ Jvm.Cond.initialized (exN x) ∈ lw_tbl ∧ Jvm.Cond.stringRef M.m.y.cls iS text ∈ lw_tbl ∧ thrW M.m.y.cls ic x ∧
  decode M.m.cc pc = .ok (.new ik, 3) ∧ decode M.m.cc (pc + 3) = .ok (.dup, 1) ∧
  ((decode M.m.cc (pc + 4) = .ok (.ldc iS, 2) ∧ decode M.m.cc (pc + 6) = .ok (.invokespecial ic, 3) ∧ decode M.m.cc (pc + 9) = .ok (.athrow, 1)) ∨
   (decode M.m.cc (pc + 4) = .ok (.ldc_w iS, 3) ∧ decode M.m.cc (pc + 7) = .ok (.invokespecial ic, 3) ∧ decode M.m.cc (pc + 10) = .ok (.athrow, 1)))
/-- the handlers: each class of the list has its row, that answers its number -/
def hndOK (M : mT) (pc : Nat) : Prop := ∀ (x : Nat) (v : Int32), hsF M.hs x = some v → ∃ (pre suf : List ExceptionTableEntry) (z : ExceptionTableEntry) (j : Nat) (j4 : Fin 4) (n : Int), tableOf M.m.hh = pre ++ z :: suf ∧ covers z pc = true ∧ z.catchType ≠ 0 ∧ Jvm.Cond.classLink M.m.y.cls z.catchType (exN x) ∈ lw_tbl ∧ Jvm.Cond.castable (exN x) (exN x) ∈ lw_tbl ∧
  (∀ u ∈ pre, u.catchType ≠ 0 ∧ ∃ nm : String, Jvm.Cond.classLink M.m.y.cls u.catchType nm ∈ lw_tbl ∧ (exN x, nm) ∈ ncL) ∧
  (decode M.m.cc z.handlerPc = .ok (.astore_n j4, 1) ∧ (j4 : Nat) = j ∧ decode M.m.cc (z.handlerPc + 1) = .ok (.iconst n, 1) ∧ retI M (z.handlerPc + 2) (some (.int v)) ∨ decode M.m.cc z.handlerPc = .ok (.astore j, 2) ∧ decode M.m.cc (z.handlerPc + 2) = .ok (.iconst n, 1) ∧ retI M (z.handlerPc + 3) (some (.int v))) ∧ j < M.m.nL ∧ Int32.ofInt n = v
section QE
variable {G : gT} {M : mT} {d bc bs pc : Nat} {ls : List (Option Value)} {st : List Value} {w : xW} {K : Option Value → xW → Prop} {KX : Nat → xW → Prop} {go : recT}
variable {A : Nat → Prop} {ad0 : List Nat} {R : Room} {p : Program} {e : Env} {s : State} {m : MethodId} {args : Array Value} {below : List Frame} {meth : Method} {c : Code} {Q : State → Prop}
theorem q_callV (hg : gOK G) (hgo : hgoT G M d K KX go) {k ci b : Nat} {y : m0T} {fs as rest : List Value} (hh : hndOK M pc) (hx : vOK M.m.y.cls k y ci) (hpop : popN y.na [] st = some (as, .ref b :: rest)) (hb : nth w b = some (.inr (ci, fs))) (hcat : catS rest ≤ 8) (hd : decode M.m.cc pc = .ok (.invokevirtual k, 3)) (h : CallC G d bc bs y (.ref b :: as) w (wpC go (pc + 3) ls rest) (wpX M K)) : AW G M d bc bs pc ls st w K KX := by
  intro A ad0 R p e s m args below meth c Q C F ad ws H locs cells slots lc sc hW hL hS h1 h2
  obtain ⟨d', mc, ms, hd', hmc, hms, hSp⟩ := h
  obtain ⟨ca, cr, rfl, hca, ⟨cb, cr, rfl, ⟨a, ha, rfl⟩, hcr⟩, hlen⟩ := popN_rel hpop hS
  obtain ⟨hy, hhh, hl, hin, hsel, T, N, hcl⟩ := hx
  obtain ⟨e', q2, ⟨fs', rfl, hfs⟩⟩ := hW.cell hb ha
  have hM := hSp ad ws H.size (.ref a :: ca) hW.2.1 (.cons ⟨a, ha, rfl⟩ hca)
  rw [m0T.w_nil hhh] at hM
  have hpay := pay C hg hy
  have hwc := C.wrd hg hy.1 hy.2.1
  rw [m0T.w_nil hhh] at hpay hwc
  have hrm := room_le (mc := mc) (ms := ms) hy hd' C.2.2.2.2.2.2.2.2.2.2.1 C.2.2.2.2.2.2.2.2.2.2.2.1
  refine call_end C hW (vx_runV (Ts := []) ⟨C.1, C.2.1, C.2.2.2.1, C.2.2.2.2.1, fun w h => by cases h⟩ hM ⟨⟨rfl, rfl, hrm.1, hrm.2, hpay, List.mem_cons_self, hwc, C.wrd hg hy.2.2.2.1 rfl, hy.2.2.2.2.1, hy.len, C.wrd hg hl rfl⟩, C.wrd hg hin rfl, C.wrd hg hsel rfl⟩ ⟨PcS.blind, va_recv (C.kk hg) hW.2.2.1 hcl q2, PcS.pre C hW _⟩ rfl hlen hL.1 rfl (by rw [catS_rel hg.cat hcr]; show 2 * 0 + _ ≤ 8; omega) hd ⟨by omega, by omega⟩) ?_ ?_
  · intro v cv w' ad' ws' H' locs' hK ho hm hW'
    exact go_ret hgo C F hK ho hm hW' hL hcr h1 h2 hmc hms
  · intro x w' ad' ws' H' locs' q ce hKX hm hW' hq hqv hqc
    have hKX : wpX M K x w' := hKX
    unfold wpX at hKX
    cases hf : hsF M.hs x with
    | none => rw [hf] at hKX; exact hKX.elim
    | some v =>
      rw [hf] at hKX
      obtain ⟨pre, suf, z, j, j4, n, t1, t2, t3, t4, t5, t6, t7, t8, t9⟩ := hh x v hf
      have hW0 := C.2.2.2.2.2.2.1
      refine vx_catch C.2.2.2.2.1 pre z suf (by rw [C.2.2.2.2.2.2.2.2.2.2.2.2.2]; exact t1) (fun u hu => ?_) t2 t3 (C.wrd hg t4 rfl) (tr_at hW0 rfl (hg.1 _ t5)) hq hqv hqc ?_
      · obtain ⟨u1, nm, u2, u3⟩ := t6 u hu
        exact Or.inr ⟨u1, nm, C.wrd hg u2 rfl, va_Nc.moved hW0.alike (hg.2.2.2.2.2.2.2.2.2.2.2.2 _ u3)⟩
      · rcases t7 with ⟨t71, t72, t73, t74⟩ | ⟨t71, t73, t74⟩
        · refine lv_astore_n C.1 C.2.1 t71 t72 hL.all t8 rfl (fun lc2 hl2 => ?_)
          refine lv_iconst C.1 C.2.1 t73 t9 ?_
          exact F.1 _ (some (.int v)) (some (.int v)) w' ad' ws' H' locs' _ _ lc2 hKX t74 ⟨_, rfl, rfl⟩ hW' (by omega) (by omega)
        · refine lv_astore C.1 C.2.1 t71 hL.all t8 rfl (fun lc2 hl2 => ?_)
          refine lv_iconst C.1 C.2.1 t73 t9 ?_
          exact F.1 _ (some (.int v)) (some (.int v)) w' ad' ws' H' locs' _ _ lc2 hKX t74 ⟨_, rfl, rfl⟩ hW' (by omega) (by omega)
end QE
/-- what is checked of a method, once -/
def brO : Instr → Option Int
  | .goto o => some o
  | .ifCond _ o => some o
  | .if_icmp _ o => some o
  | .if_acmp _ o => some o
  | .ifnull o => some o
  | .ifnonnull o => some o
  | _ => none
def iLen : Instr → Nat
  | .bipush _ => 2 | .sipush _ => 3 | .ldc _ => 2 | .iload _ => 2 | .fload _ => 2 | .dload _ => 2 | .aload _ => 2 | .istore _ => 2 | .fstore _ => 2 | .dstore _ => 2 | .astore _ => 2 | .newarray _ => 2
  | .iinc _ _ => 3 | .goto _ => 3 | .ifCond _ _ => 3 | .if_icmp _ _ => 3 | .if_acmp _ _ => 3 | .ifnull _ => 3 | .ifnonnull _ => 3 | .getfield _ => 3 | .putfield _ => 3 | .getstatic _ => 3 | .new _ => 3 | .anewarray _ => 3
  | .invokevirtual _ => 3 | .invokestatic _ => 3 | .invokespecial _ => 3
  | _ => 1
def isSw : Instr → Bool
  | .tableswitch .. => true
  | _ => false
def swI (M : mT) (pc : Nat) (i : Instr) : Prop := match i with
  | .tableswitch dfl lo hi offs => ∀ lo2 ts df, M.sw pc = some (lo2, ts, df) → lo2 = lo ∧ hi = lo + ts.length - 1 ∧ (pc : Int) + dfl = (df : Int) ∧ ∀ (j t : Nat), ts[j]? = some t → ∃ o, offs[j]? = some o ∧ (pc : Int) + o = (t : Int)
  | _ => True
def codeOK (M : mT) : Prop := ∀ (pc : Nat) (i : Instr) (np tg : Nat), M.cd pc = some (i, np, tg) → (∃ n, decode M.m.cc pc = .ok (i, n) ∧ (isSw i = false → n = iLen i ∧ np = pc + iLen i)) ∧ (∀ o, brO i = some o → (pc : Int) + o = (tg : Int)) ∧ swI M pc i
def cpOK (own : String) (cp : cpT) : Prop :=
  (∀ k ci j ty fin, cp.fld k = some (ci, j, ty, fin) → fldOK own k ci j ty fin) ∧
  (∀ k v, cp.stc k = some v → stcOK own k v) ∧
  (∀ k t y ci, cp.mth k = some (t, y, ci) → match t with
    | 0 => vOK own k y ci
    | 1 => sOK own k y
    | 2 => iOK own k y
    | 3 => snOK own k y
    | 4 => inOK own k y
    | 5 => oiOK own k
    | 6 => mmOK own k
    | 7 => mnOK own k
    | 8 => acOK own k
    | 9 => uOK own k y
    | 10 => suOK own k y
    | 11 => swOK own k y
    | _ => False) ∧
  (∀ k ci, cp.cls k = some (.inl ci) → (∀ n fs, newF ci = some (n, fs) → newOK own k ci n fs) ∧ (ci = 4 → Jvm.Cond.classLink own k RX0 ∈ lw_tbl)) ∧
  (∀ k v, cp.num k = some v → Jvm.Cond.constant own k v ∈ lw_tbl)
def rtOK (M : mT) (i : Instr) : Prop := match i with
  | .areturn => (∃ C, M.m.ret = some (.object C)) ∨ ∃ C, M.m.ret = some (.array C)
  | .dreturn => M.m.ret = some .double
  | .freturn => M.m.ret = some .float
  | .return_ => M.m.ret = none
  | _ => True
def mOK (M : mT) : Prop := m0OK M.m ∧ cpOK M.m.y.cls M.cp ∧ codeOK M ∧ thrOK M ∧ (∀ pc k np tg, M.cd pc = some (.invokevirtual k, np, tg) → hndOK M pc) ∧ (M.ini = true → M.m.y.name = "<init>") ∧ (M.m.hh ≠ [] → M.ini = false) ∧ plainName M.m.y.cls = true ∧ (∀ pc i np tg, M.cd pc = some (i, np, tg) → rtOK M i)
end
section
/-! ===== the walk is right: the whole ===== -/
section QF
variable {G : gT} {M : mT} {d bc bs pc : Nat} {ls : List (Option Value)} {st : List Value} {w : xW} {K : Option Value → xW → Prop} {KX : Nat → xW → Prop} {go : recT}
theorem wpCall0_C {go : recT} {np : Nat} {y : m0T} {as rest : List Value} (h : wpCall0 G d go bc bs np ls w y as rest) : catS rest ≤ 8 ∧ CallC G d bc bs y as w (wpC go np ls rest) (fun _ _ => False) := by
  unfold wpCall0 at h
  split at h
  · exact ⟨Nat.le_of_ble_eq_true (by assumption), h⟩
  · exact h.elim
theorem wpCall_C {go : recT} {np : Nat} {y : m0T} {as rest : List Value} (h : wpCall G M d K go bc bs np ls w y as rest) : catS rest ≤ 8 ∧ CallC G d bc bs y as w (wpC go np ls rest) (wpX M K) := by
  unfold wpCall at h
  split at h
  · exact ⟨Nat.le_of_ble_eq_true (by assumption), h⟩
  · exact h.elim
theorem wpS1_ok {go : recT} {np i : Nat} {v : Value} (h : wpS1 M go bc bs np ls st w i v) : i < M.m.nL ∧ go bc bs np (stL ls i v) st w := by
  unfold wpS1 at h
  split at h
  · rw [fL_eq] at h
    exact ⟨Nat.le_of_ble_eq_true (by assumption), h⟩
  · exact h.elim
theorem wpS2_ok {go : recT} {np i : Nat} {v : Value} (h : wpS2 M go bc bs np ls st w i v) : i + 1 < M.m.nL ∧ go bc bs np (st2 ls i v) st w := by
  unfold wpS2 at h
  split at h
  · rw [fL_eq] at h
    exact ⟨Nat.le_of_ble_eq_true (by assumption), h⟩
  · exact h.elim
theorem wpPut_ok {go : recT} {np a ci k : Nat} {v : Value} (h : wpPut go bc bs np ls st w a ci k v) : ∃ fs, nth w a = some (.inr (ci, fs)) ∧ k < fs.length ∧ go bc bs np ls st (stN w a (.inr (ci, stN fs k v))) := by
  unfold wpPut at h
  split at h
  · rename_i c2 fs hw
    split at h
    · rename_i h1 h2
      rw [fL_eq, fL_eq] at h
      have e1 := Nat.eq_of_beq_eq_true h1
      subst e1
      have e2 := Nat.le_of_ble_eq_true h2
      rw [lenL_eq] at e2
      exact ⟨fs, hw, e2, h⟩
    · exact h.elim
  · exact h.elim
theorem wpNewA_ok {go : recT} {np t : Nat} {n : Int32} {zero : Nat → va_E} (h : wpNewA go bc bs np ls st w t n zero) : ¬ n < 0 ∧ n.toNatClampNeg ≤ 65536 ∧ 1 ≤ bc ∧ n.toNatClampNeg ≤ bs ∧ go (bc - 1) (bs - n.toNatClampNeg) np ls (.ref (lenL w) :: st) (w ++ [zero n.toNatClampNeg]) := by
  obtain ⟨h1, h2, h3, h4, h5⟩ := h
  rw [fN_eq, fL_eq] at h5
  exact ⟨h1, h2, h3, h4, h5⟩
theorem newF_pl {ci n : Nat} {fs : List Value} (h : newF ci = some (n, fs)) : ∀ ad, rVs G ad fs fs := by
  unfold newF at h
  split at h <;> first | (cases h; done) | (cases h; intro ad; repeat (first | exact rfl | refine .cons rfl ?_))
theorem ao_ok (hg : gOK G) : ∀ U : State, G.s0.WarmedH U.vm → va_AO RX0 U := fun U hU => va_AO.moved hU.alike (va_AO.of (hg.1 (.arrayOver (.object RX0)) (List.mem_append_right _ (List.mem_of_getElem? (i := 119) (by decide +kernel)))))
theorem wpI_ok (hg : gOK G) (hm : mOK M) (hgo : hgoT G M d K KX go) {i : Instr} {np tg : Nat} (hcd : M.cd pc = some (i, np, tg)) (h : wpI G M d K KX go bc bs pc ls st w i np tg) : AW G M d bc bs pc ls st w K KX := by
  obtain ⟨hy, ⟨cpf, cps, cpm, cpc, cpn⟩, hco, hth, hhn, hini, -, -, hre⟩ := hm
  obtain ⟨⟨n, hd, hn⟩, hbr, hsw⟩ := hco pc i np tg hcd
  have hs := hg.cat
  have hsa := hg.2.2.2.2.1
  cases i with
  | iconst n =>
    obtain ⟨rfl, rfl⟩ := hn rfl
    exact q_iconst hgo hd h
  | bipush n =>
    obtain ⟨rfl, rfl⟩ := hn rfl
    exact q_bipush hgo hd h
  | sipush n =>
    obtain ⟨rfl, rfl⟩ := hn rfl
    exact q_sipush hgo hd h
  | aconst_null =>
    obtain ⟨rfl, rfl⟩ := hn rfl
    exact q_aconst_null hgo hd h
  | fconst f =>
    obtain ⟨rfl, rfl⟩ := hn rfl
    delta wpI at h
    dsimp only at h
    split at h
    · exact q_fconst0 hgo hd h
    · exact h.elim
  | dconst f =>
    obtain ⟨rfl, rfl⟩ := hn rfl
    delta wpI at h
    dsimp only at h
    split at h
    · exact q_dconst0 hgo hd h
    · exact h.elim
  | ldc k =>
    obtain ⟨rfl, rfl⟩ := hn rfl
    delta wpI at h
    dsimp only at h
    split at h
    · exact q_ldc hgo hg (cpn _ _ (by assumption)) hd h
    · exact h.elim
  | iload_n k =>
    obtain ⟨rfl, rfl⟩ := hn rfl
    delta wpI at h
    dsimp only at h
    split at h
    · exact q_iload_n hgo hd (by assumption) h
    · exact h.elim
  | iload k =>
    obtain ⟨rfl, rfl⟩ := hn rfl
    delta wpI at h
    dsimp only at h
    split at h
    · exact q_iload hgo hd (by assumption) h
    · exact h.elim
  | fload k =>
    obtain ⟨rfl, rfl⟩ := hn rfl
    delta wpI at h
    dsimp only at h
    split at h
    · exact q_fload hgo hd (by assumption) h
    · exact h.elim
  | dload k =>
    obtain ⟨rfl, rfl⟩ := hn rfl
    delta wpI at h
    dsimp only at h
    split at h
    · exact q_dload hgo hd (by assumption) h
    · exact h.elim
  | aload_n k =>
    obtain ⟨rfl, rfl⟩ := hn rfl
    delta wpI at h
    dsimp only at h
    split at h
    · exact q_aload_n hgo hsa (Or.inr (Or.inl ⟨_, rfl⟩)) hd (by assumption) h
    · exact q_aload_n hgo hsa (Or.inl rfl) hd (by assumption) h
    · exact q_aload_n hgo hsa (Or.inr (Or.inr ⟨_, rfl⟩)) hd (by assumption) h
    · exact h.elim
  | aload k =>
    obtain ⟨rfl, rfl⟩ := hn rfl
    delta wpI at h
    dsimp only at h
    split at h
    · exact q_aload hgo hsa (Or.inr (Or.inl ⟨_, rfl⟩)) hd (by assumption) h
    · exact q_aload hgo hsa (Or.inl rfl) hd (by assumption) h
    · exact q_aload hgo hsa (Or.inr (Or.inr ⟨_, rfl⟩)) hd (by assumption) h
    · exact h.elim
  | istore_n k =>
    obtain ⟨rfl, rfl⟩ := hn rfl
    delta wpI at h
    dsimp only at h
    split at h
    · exact q_istore_n hgo hs (wpS1_ok h).1 hd (wpS1_ok h).2
    · exact h.elim
  | istore k =>
    obtain ⟨rfl, rfl⟩ := hn rfl
    delta wpI at h
    dsimp only at h
    split at h
    · exact q_istore hgo hs (wpS1_ok h).1 hd (wpS1_ok h).2
    · exact h.elim
  | fstore k =>
    obtain ⟨rfl, rfl⟩ := hn rfl
    delta wpI at h
    dsimp only at h
    split at h
    · exact q_fstore hgo hs (wpS1_ok h).1 hd (wpS1_ok h).2
    · exact h.elim
  | dstore k =>
    obtain ⟨rfl, rfl⟩ := hn rfl
    delta wpI at h
    dsimp only at h
    split at h
    · exact q_dstore hgo hs (wpS2_ok h).1 hd (wpS2_ok h).2
    · exact h.elim
  | astore_n k =>
    obtain ⟨rfl, rfl⟩ := hn rfl
    delta wpI at h
    dsimp only at h
    split at h
    · exact q_astore_n hgo hs hsa (Or.inr (Or.inl ⟨_, rfl⟩)) (wpS1_ok h).1 hd (wpS1_ok h).2
    · exact q_astore_n hgo hs hsa (Or.inl rfl) (wpS1_ok h).1 hd (wpS1_ok h).2
    · exact q_astore_n hgo hs hsa (Or.inr (Or.inr ⟨_, rfl⟩)) (wpS1_ok h).1 hd (wpS1_ok h).2
    · exact h.elim
  | astore k =>
    obtain ⟨rfl, rfl⟩ := hn rfl
    delta wpI at h
    dsimp only at h
    split at h
    · exact q_astore hgo hs hsa (Or.inr (Or.inl ⟨_, rfl⟩)) (wpS1_ok h).1 hd (wpS1_ok h).2
    · exact q_astore hgo hs hsa (Or.inl rfl) (wpS1_ok h).1 hd (wpS1_ok h).2
    · exact q_astore hgo hs hsa (Or.inr (Or.inr ⟨_, rfl⟩)) (wpS1_ok h).1 hd (wpS1_ok h).2
    · exact h.elim
  | iinc k z =>
    obtain ⟨rfl, rfl⟩ := hn rfl
    delta wpI at h
    dsimp only at h
    split at h
    · exact q_iinc hgo hs (wpS1_ok h).1 hd (by assumption) (wpS1_ok h).2
    · exact h.elim
  | iadd =>
    obtain ⟨rfl, rfl⟩ := hn rfl
    delta wpI at h
    dsimp only at h
    split at h
    · exact q_iadd hgo hd h
    · exact h.elim
  | isub =>
    obtain ⟨rfl, rfl⟩ := hn rfl
    delta wpI at h
    dsimp only at h
    split at h
    · exact q_isub hgo hd h
    · exact h.elim
  | imul =>
    obtain ⟨rfl, rfl⟩ := hn rfl
    delta wpI at h
    dsimp only at h
    split at h
    · exact q_imul hgo hd h
    · exact h.elim
  | iand =>
    obtain ⟨rfl, rfl⟩ := hn rfl
    delta wpI at h
    dsimp only at h
    split at h
    · exact q_iand hgo hd h
    · exact h.elim
  | ior =>
    obtain ⟨rfl, rfl⟩ := hn rfl
    delta wpI at h
    dsimp only at h
    split at h
    · exact q_ior hgo hd h
    · exact h.elim
  | ixor =>
    obtain ⟨rfl, rfl⟩ := hn rfl
    delta wpI at h
    dsimp only at h
    split at h
    · exact q_ixor hgo hd h
    · exact h.elim
  | ishl =>
    obtain ⟨rfl, rfl⟩ := hn rfl
    delta wpI at h
    dsimp only at h
    split at h
    · exact q_ishl hgo hd h
    · exact h.elim
  | ishr =>
    obtain ⟨rfl, rfl⟩ := hn rfl
    delta wpI at h
    dsimp only at h
    split at h
    · exact q_ishr hgo hd h
    · exact h.elim
  | idiv =>
    obtain ⟨rfl, rfl⟩ := hn rfl
    delta wpI at h
    dsimp only at h
    split at h
    · exact q_idiv hgo h.1 hd h.2
    · exact h.elim
  | irem =>
    obtain ⟨rfl, rfl⟩ := hn rfl
    delta wpI at h
    dsimp only at h
    split at h
    · exact q_irem hgo h.1 hd h.2
    · exact h.elim
  | ddiv =>
    obtain ⟨rfl, rfl⟩ := hn rfl
    delta wpI at h
    dsimp only at h
    split at h
    · exact q_ddiv hgo h.1 hd h.2
    · exact h.elim
  | fdiv =>
    obtain ⟨rfl, rfl⟩ := hn rfl
    delta wpI at h
    dsimp only at h
    split at h
    · exact q_fdiv hgo h.1 hd h.2
    · exact h.elim
  | lcmp =>
    obtain ⟨rfl, rfl⟩ := hn rfl
    delta wpI at h
    dsimp only at h
    split at h
    · exact q_lcmp hgo hd h
    · exact h.elim
  | dcmp op =>
    obtain ⟨rfl, rfl⟩ := hn rfl
    delta wpI at h
    dsimp only at h
    split at h
    · exact q_dcmp hgo hd h
    · exact h.elim
  | fcmp op =>
    obtain ⟨rfl, rfl⟩ := hn rfl
    delta wpI at h
    dsimp only at h
    split at h
    · exact q_fcmp hgo hd h
    · exact h.elim
  | ineg =>
    obtain ⟨rfl, rfl⟩ := hn rfl
    delta wpI at h
    dsimp only at h
    split at h
    · exact q_ineg hgo hd h
    · exact h.elim
  | i2l =>
    obtain ⟨rfl, rfl⟩ := hn rfl
    delta wpI at h
    dsimp only at h
    split at h
    · exact q_i2l hgo hd h
    · exact h.elim
  | i2b =>
    obtain ⟨rfl, rfl⟩ := hn rfl
    delta wpI at h
    dsimp only at h
    split at h
    · exact q_i2b hgo hd h
    · exact h.elim
  | i2c =>
    obtain ⟨rfl, rfl⟩ := hn rfl
    delta wpI at h
    dsimp only at h
    split at h
    · exact q_i2c hgo hd h
    · exact h.elim
  | i2d =>
    obtain ⟨rfl, rfl⟩ := hn rfl
    delta wpI at h
    dsimp only at h
    split at h
    · exact q_i2d hgo hd h
    · exact h.elim
  | i2f =>
    obtain ⟨rfl, rfl⟩ := hn rfl
    delta wpI at h
    dsimp only at h
    split at h
    · exact q_i2f hgo hd h
    · exact h.elim
  | f2d =>
    obtain ⟨rfl, rfl⟩ := hn rfl
    delta wpI at h
    dsimp only at h
    split at h
    · exact q_f2d hgo h.1 hd h.2
    · exact h.elim
  | dup =>
    obtain ⟨rfl, rfl⟩ := hn rfl
    delta wpI at h
    dsimp only at h
    split at h
    · exact q_dup hgo hs rfl hd h
    · exact q_dup hgo hs rfl hd h
    · exact h.elim
  | dup2 =>
    obtain ⟨rfl, rfl⟩ := hn rfl
    delta wpI at h
    dsimp only at h
    split at h
    · exact q_dup2 hgo hs rfl rfl hd h
    · exact h.elim
  | dup_x1 =>
    obtain ⟨rfl, rfl⟩ := hn rfl
    delta wpI at h
    dsimp only at h
    split at h
    · exact q_dup_x1 hgo hs rfl rfl hd h
    · exact h.elim
  | pop =>
    obtain ⟨rfl, rfl⟩ := hn rfl
    delta wpI at h
    dsimp only at h
    split at h
    · exact q_pop hgo hs rfl hd h
    · exact q_pop hgo hs rfl hd h
    · exact h.elim
  | goto o =>
    obtain ⟨rfl, rfl⟩ := hn rfl
    exact q_goto hgo (hbr _ rfl) hd h
  | ifCond c o =>
    obtain ⟨rfl, rfl⟩ := hn rfl
    delta wpI at h
    dsimp only at h
    split at h
    · exact q_if hgo (hbr _ rfl) hd h
    · exact h.elim
  | if_icmp c o =>
    obtain ⟨rfl, rfl⟩ := hn rfl
    delta wpI at h
    dsimp only at h
    split at h
    · exact q_ic hgo (hbr _ rfl) hd h
    · exact h.elim
  | ifnonnull o =>
    obtain ⟨rfl, rfl⟩ := hn rfl
    delta wpI at h
    dsimp only at h
    split at h
    · exact q_ifnonnull hgo (hbr _ rfl) hd h
    · exact q_ifnonnullN hgo hd h
    · exact h.elim
  | ifnull o =>
    obtain ⟨rfl, rfl⟩ := hn rfl
    delta wpI at h
    dsimp only at h
    split at h
    · exact q_ifnull hgo hd h
    · exact q_ifnullN hgo (hbr _ rfl) hd h
    · exact h.elim
  | if_acmp c o =>
    obtain ⟨rfl, rfl⟩ := hn rfl
    delta wpI at h
    dsimp only at h
    split at h
    · split at h
      · rename_i e1 e2 e3 e4 e5
        exact q_acmp_eq hgo hg ⟨Nat.le_of_ble_eq_true e1, Nat.le_of_ble_eq_true e2⟩ ⟨Nat.le_of_ble_eq_true e3, Nat.le_of_ble_eq_true e4⟩ (hbr _ rfl) hd ⟨fun _ => h, fun q => absurd (Nat.eq_of_beq_eq_true e5) q⟩
      · rename_i e1 e2 e3 e4 e5
        exact q_acmp_eq hgo hg ⟨Nat.le_of_ble_eq_true e1, Nat.le_of_ble_eq_true e2⟩ ⟨Nat.le_of_ble_eq_true e3, Nat.le_of_ble_eq_true e4⟩ (hbr _ rfl) hd ⟨fun q => absurd q (Nat.ne_of_beq_eq_false e5), fun _ => h⟩
      · exact h.elim
    · split at h
      · rename_i e1 e2 e3 e4 e5
        exact q_acmp_ne hgo hg ⟨Nat.le_of_ble_eq_true e1, Nat.le_of_ble_eq_true e2⟩ ⟨Nat.le_of_ble_eq_true e3, Nat.le_of_ble_eq_true e4⟩ (hbr _ rfl) hd ⟨fun q => absurd (Nat.eq_of_beq_eq_true e5) q, fun _ => h⟩
      · rename_i e1 e2 e3 e4 e5
        exact q_acmp_ne hgo hg ⟨Nat.le_of_ble_eq_true e1, Nat.le_of_ble_eq_true e2⟩ ⟨Nat.le_of_ble_eq_true e3, Nat.le_of_ble_eq_true e4⟩ (hbr _ rfl) hd ⟨fun _ => h, fun q => absurd q (Nat.ne_of_beq_eq_false e5)⟩
      · exact h.elim
    · exact h.elim
  | tableswitch dfl lo hi offs =>
    delta wpI at h
    dsimp only at h
    split at h
    · split at h
      · rename_i lo2 ts df hsw2
        obtain ⟨t, h3, h4⟩ := h
        obtain ⟨rfl, e1, e2, e3⟩ := hsw _ _ _ hsw2
        exact q_switch hgo hd ⟨e1, e2, e3⟩ h3 h4
      · exact h.elim
    · exact h.elim
  | getfield k =>
    obtain ⟨rfl, rfl⟩ := hn rfl
    delta wpI at h
    dsimp only at h
    split at h
    · rename_i ci j _ a st hf
      split at h
      · split at h
        · rename_i e1
          cases Nat.eq_of_beq_eq_true e1
          split at h
          · exact q_getfield hgo hg (cpf _ _ _ _ _ hf) (by assumption) (by assumption) hd h
          · exact h.elim
        · exact h.elim
      · exact h.elim
    · exact h.elim
  | putfield k =>
    obtain ⟨rfl, rfl⟩ := hn rfl
    delta wpI at h
    dsimp only at h
    split at h
    · rename_i ci j ty fin v a st hf
      split at h
      · exact h.elim
      · rename_i hfi
        have hfi : fin = true → M.ini = true := fun q => by
          subst q
          cases hq : M.ini with
          | true => rfl
          | false => rw [hq] at hfi; cases hfi
        split at h
        · obtain ⟨fs, q1, q2, q3⟩ := wpPut_ok h
          exact q_putfield hgo hg (cpf _ _ _ _ _ hf) hfi q1 q2 (fun _ cv hv => by cases (show cv = _ from hv); exact ⟨rfl, rfl⟩) hd q3
        · obtain ⟨fs, q1, q2, q3⟩ := wpPut_ok h
          exact q_putfield hgo hg (cpf _ _ _ _ _ hf) hfi q1 q2 (fun _ cv ⟨_, _, hv⟩ => by cases hv; exact ⟨rfl, rfl⟩) hd q3
        · obtain ⟨fs, q1, q2, q3⟩ := wpPut_ok h
          exact q_putfield hgo hg (cpf _ _ _ _ _ hf) hfi q1 q2 (fun _ cv hv => by cases (show cv = _ from hv); exact ⟨rfl, rfl⟩) hd q3
        · obtain ⟨fs, q1, q2, q3⟩ := wpPut_ok h
          exact q_putfield hgo hg (cpf _ _ _ _ _ hf) hfi q1 q2 (fun _ cv ⟨_, _, hv⟩ => by cases hv; exact ⟨rfl, rfl⟩) hd q3
        · obtain ⟨g1, g2, h⟩ := h
          obtain ⟨fs, q1, q2, q3⟩ := wpPut_ok h
          exact q_putfield hgo hg (cpf _ _ _ _ _ hf) hfi q1 q2 (fun _ cv hv => by cases (show cv = _ from hv); exact ⟨g1, g2⟩) hd q3
        · exact h.elim
    · exact h.elim
  | getstatic k =>
    obtain ⟨rfl, rfl⟩ := hn rfl
    delta wpI at h
    dsimp only at h
    split at h
    · exact q_getstatic hgo hg (cps _ _ (by assumption)) hd h
    · exact h.elim
  | new k =>
    obtain ⟨rfl, rfl⟩ := hn rfl
    delta wpI at h
    dsimp only at h
    split at h
    · rename_i ci hc
      split at h
      · rename_i n9 fs hnf
        obtain ⟨e1, e2, h⟩ := h
        rw [fN_eq, fL_eq] at h
        exact q_new hgo hg ((cpc _ _ hc).1 _ _ hnf) (newF_pl hnf) e1 e2 hd h
      · exact h.elim
    · rename_i x hc
      split at h
      · exact q_throw ⟨_, _, _, hcd, hc⟩ h.1 h.2.1 h.2.2.1 h.2.2.2
      · exact h.elim
    · exact h.elim
  | newarray t =>
    obtain ⟨rfl, rfl⟩ := hn rfl
    delta wpI at h
    dsimp only at h
    split at h
    · rename_i n9 st
      split at h
      · obtain ⟨e1, e2, e3, e4, h⟩ := wpNewA_ok h
        exact q_newarray hgo hg (at9 := .int) (fun n => .inl (0, n, .inl (fun _ => 0))) (n9.toNatClampNeg, .inl (fun _ => 0)) rfl rfl (fun _ _ q => q) rfl (fun _ => rfl) (fun _ => rfl) (by decide) (List.mem_append_right _ (List.mem_of_getElem? (i := 71) (by decide +kernel))) e1 e2 e3 e4 hd h
      · obtain ⟨e1, e2, e3, e4, h⟩ := wpNewA_ok h
        exact q_newarray hgo hg (at9 := .boolean) (fun n => .inl (1, n, .inl (fun _ => 0))) (n9.toNatClampNeg, .inl (fun _ => 0)) rfl rfl (fun _ _ q => q) rfl (fun _ => rfl) (fun _ => rfl) (by decide) (List.mem_append_right _ (List.mem_of_getElem? (i := 178) (by decide +kernel))) e1 e2 e3 e4 hd h
      · obtain ⟨e1, e2, e3, e4, h⟩ := wpNewA_ok h
        exact q_newarray hgo hg (at9 := .char) (fun n => .inl (2, n, .inl (fun _ => 0))) (n9.toNatClampNeg, .inl (fun _ => 0)) rfl rfl (fun _ _ q => q) rfl (fun _ => rfl) (fun _ => rfl) (by decide) (List.mem_append_right _ (List.mem_of_getElem? (i := 167) (by decide +kernel))) e1 e2 e3 e4 hd h
      · obtain ⟨e1, e2, e3, e4, h⟩ := wpNewA_ok h
        exact q_newarray hgo hg (at9 := .byte) (fun n => .inl (3, n, .inl (fun _ => 0))) (n9.toNatClampNeg, .inl (fun _ => 0)) rfl rfl (fun _ _ q => q) rfl (fun _ => rfl) (fun _ => rfl) (by decide) (List.mem_append_right _ (List.mem_of_getElem? (i := 239) (by decide +kernel))) e1 e2 e3 e4 hd h
      · obtain ⟨e1, e2, e3, e4, h⟩ := wpNewA_ok h
        exact q_newarray hgo hg (at9 := .long) (fun n => .inl (4, n, .inr (.inl (fun _ => 0)))) (n9.toNatClampNeg, .inr (.inl (fun _ => 0))) rfl rfl (fun _ _ q => q) rfl (fun _ => rfl) (fun _ => rfl) (by decide) (List.mem_append_right _ (List.mem_of_getElem? (i := 1821) (by decide +kernel))) e1 e2 e3 e4 hd h
      · obtain ⟨e1, e2, e3, e4, h⟩ := wpNewA_ok h
        exact q_newarray hgo hg (at9 := .double) (fun n => .inl (5, n, .inr (.inr (.inr (.inl (fun _ => 0)))))) (n9.toNatClampNeg, .inr (.inr (.inr (.inl (fun _ => 0))))) rfl rfl (fun _ _ q => q) rfl (fun _ => rfl) (fun _ => rfl) (by decide) (List.mem_append_right _ (List.mem_of_getElem? (i := 1822) (by decide +kernel))) e1 e2 e3 e4 hd h
      · exact h.elim
    · exact h.elim
  | anewarray k =>
    obtain ⟨rfl, rfl⟩ := hn rfl
    delta wpI at h
    dsimp only at h
    split at h
    · rename_i hc
      obtain ⟨e1, e2, e3, e4, h⟩ := wpNewA_ok h
      exact q_anewarray hgo hg ((cpc _ _ hc).2 rfl) (ao_ok hg) e1 e2 e3 e4 hd h
    · exact h.elim
  | arraylength =>
    obtain ⟨rfl, rfl⟩ := hn rfl
    delta wpI at h
    dsimp only at h
    split at h
    · split at h
      · exact q_arraylength hgo hg (by assumption) hd h
      · exact h.elim
    · split at h
      · exact q_arraylengthS hgo hg (by assumption) hd h
      · exact h.elim
    · exact h.elim
  | iaload =>
    obtain ⟨rfl, rfl⟩ := hn rfl
    delta wpI at h
    dsimp only at h
    split at h
    · split at h
      · exact q_iaload hgo hg (by assumption) h.1 hd h.2
      · exact h.elim
    · split at h
      · exact q_ialoadS hgo hg (by assumption) h.1 hd h.2
      · exact h.elim
    · exact h.elim
  | baload =>
    obtain ⟨rfl, rfl⟩ := hn rfl
    delta wpI at h
    dsimp only at h
    split at h
    · split at h
      · exact q_zaload hgo hg (by assumption) h.1 hd h.2
      · exact q_baload hgo hg (by assumption) h.1 hd h.2
      · exact h.elim
    · split at h
      · exact q_baloadS hgo hg (by assumption) h.1 hd h.2
      · exact h.elim
    · exact h.elim
  | caload =>
    obtain ⟨rfl, rfl⟩ := hn rfl
    delta wpI at h
    dsimp only at h
    split at h
    · split at h
      · exact q_caload hgo hg (by assumption) h.1 hd h.2
      · exact h.elim
    · exact h.elim
  | laload =>
    obtain ⟨rfl, rfl⟩ := hn rfl
    delta wpI at h
    dsimp only at h
    split at h
    · split at h
      · exact q_laload hgo hg (by assumption) h.1 hd h.2
      · exact h.elim
    · exact h.elim
  | daload =>
    obtain ⟨rfl, rfl⟩ := hn rfl
    delta wpI at h
    dsimp only at h
    split at h
    · split at h
      · exact q_daload hgo hg (by assumption) h.1 hd h.2
      · exact h.elim
    · exact h.elim
  | aaload =>
    obtain ⟨rfl, rfl⟩ := hn rfl
    delta wpI at h
    dsimp only at h
    split at h
    · split at h
      · exact q_aaload hgo hg (by assumption) h.1 hd h.2
      · exact h.elim
    · exact h.elim
  | iastore =>
    obtain ⟨rfl, rfl⟩ := hn rfl
    delta wpI at h
    dsimp only at h
    split at h
    · split at h
      · obtain ⟨e1, h⟩ := h
        rw [fL_eq] at h
        exact q_iastore hgo hg (by assumption) e1 hd h
      · exact h.elim
    · exact h.elim
  | castore =>
    obtain ⟨rfl, rfl⟩ := hn rfl
    delta wpI at h
    dsimp only at h
    split at h
    · split at h
      · obtain ⟨e1, h⟩ := h
        rw [fL_eq] at h
        exact q_castore hgo hg (by assumption) e1 hd h
      · exact h.elim
    · exact h.elim
  | lastore =>
    obtain ⟨rfl, rfl⟩ := hn rfl
    delta wpI at h
    dsimp only at h
    split at h
    · split at h
      · obtain ⟨e1, h⟩ := h
        rw [fL_eq] at h
        exact q_lastore hgo hg (by assumption) e1 hd h
      · exact h.elim
    · exact h.elim
  | dastore =>
    obtain ⟨rfl, rfl⟩ := hn rfl
    delta wpI at h
    dsimp only at h
    split at h
    · split at h
      · obtain ⟨e1, h⟩ := h
        rw [fL_eq] at h
        exact q_dastore hgo hg (by assumption) e1 hd h
      · exact h.elim
    · exact h.elim
  | bastore =>
    obtain ⟨rfl, rfl⟩ := hn rfl
    delta wpI at h
    dsimp only at h
    split at h
    · split at h
      · obtain ⟨e1, h⟩ := h
        rw [fL_eq] at h
        exact q_zastore hgo hg (by assumption) e1 hd h
      · obtain ⟨e1, h⟩ := h
        rw [fL_eq] at h
        exact q_bastore hgo hg (by assumption) e1 hd h
      · exact h.elim
    · exact h.elim
  | aastore =>
    obtain ⟨rfl, rfl⟩ := hn rfl
    delta wpI at h
    dsimp only at h
    split at h
    · split at h
      · obtain ⟨e1, h⟩ := h
        rw [fL_eq] at h
        exact q_aastore hgo hg (by assumption) (by assumption) e1 hd h
      · exact h.elim
    · exact h.elim
  | invokevirtual k =>
    obtain ⟨rfl, rfl⟩ := hn rfl
    delta wpI at h
    dsimp only at h
    split at h
    · rename_i y ci hk
      have hx := cpm _ _ _ _ hk
      delta wpKV at h
      split at h
      · split at h
        · split at h
          · rename_i e1
            cases Nat.eq_of_beq_eq_true e1
            exact q_callV hg hgo (hhn _ _ _ _ hcd) hx (by assumption) (by assumption) (wpCall_C h).1 hd (wpCall_C h).2
          · exact h.elim
        · exact h.elim
      · exact h.elim
    · rename_i y ci hk
      have hx := cpm _ _ _ _ hk
      delta wpKU at h
      split at h
      · split at h
        · split at h
          · rename_i e1
            cases Nat.eq_of_beq_eq_true e1
            exact q_callU hg hgo hx (by assumption) (by assumption) (wpCall0_C h).1 hd (wpCall0_C h).2
          · exact h.elim
        · exact h.elim
      · exact h.elim
    · exact h.elim
  | invokestatic k =>
    obtain ⟨rfl, rfl⟩ := hn rfl
    delta wpI at h
    dsimp only at h
    split at h
    · rename_i y ci hk
      have hx := cpm _ _ _ _ hk
      delta wpKS at h
      split at h
      · exact q_callS0 hg hgo hx (by assumption) (wpCall0_C h).1 hd (wpCall0_C h).2
      · exact h.elim
    · rename_i y ci hk
      have hx := cpm _ _ _ _ hk
      delta wpKS at h
      split at h
      · exact q_callSN hg hgo hx (by assumption) (wpCall0_C h).1 hd (wpCall0_C h).2
      · exact h.elim
    · rename_i y ci hk
      have hx := cpm _ _ _ _ hk
      delta wpKX at h
      split at h
      · split at h
        · rename_i e1
          exact q_max hg hgo hx (Nat.le_of_ble_eq_true e1) h.1 hd h.2
        · exact h.elim
      · exact h.elim
    · rename_i y ci hk
      have hx := cpm _ _ _ _ hk
      delta wpKM at h
      split at h
      · split at h
        · rename_i e1
          exact q_min hg hgo hx (Nat.le_of_ble_eq_true e1) h.1 hd h.2
        · exact h.elim
      · exact h.elim
    · rename_i y ci hk
      have hx := cpm _ _ _ _ hk
      delta wpKC at h
      split at h
      · split at h
        · split at h
          · rename_i e0
            obtain ⟨e1, e2, e3, e4, e5, e6, e7, h⟩ := h
            rw [fL_eq] at h
            exact q_copy hg hgo hx (Nat.le_of_ble_eq_true e0) e1 (by assumption) (by assumption) e2 e3 e4 e5 e6 e7 hd h
          · exact h.elim
        · exact h.elim
      · exact h.elim
    · rename_i y ci hk
      have hx := cpm _ _ _ _ hk
      delta wpKS at h
      split at h
      · exact q_callSW hg hgo hx (by assumption) (wpCall0_C h).1 hd (wpCall0_C h).2
      · exact h.elim
    · exact h.elim
  | invokespecial k =>
    obtain ⟨rfl, rfl⟩ := hn rfl
    delta wpI at h
    dsimp only at h
    split at h
    · rename_i y ci hk
      have hx := cpm _ _ _ _ hk
      delta wpKI at h
      split at h
      · exact q_callI hg hgo hx (by assumption) (wpCall0_C h).1 hd (wpCall0_C h).2
      · exact h.elim
    · rename_i y ci hk
      have hx := cpm _ _ _ _ hk
      delta wpKI at h
      split at h
      · exact q_callIN hg hgo hx (by assumption) (wpCall0_C h).1 hd (wpCall0_C h).2
      · exact h.elim
    · rename_i y ci hk
      have hx := cpm _ _ _ _ hk
      delta wpKO at h
      split at h
      · split at h
        · rename_i e1
          exact q_objInit hg hgo hx (Nat.le_of_ble_eq_true e1) h.1 hd h.2
        · exact h.elim
      · exact h.elim
    · rename_i y ci hk
      have hx := cpm _ _ _ _ hk
      delta wpKU at h
      split at h
      · split at h
        · split at h
          · rename_i e1
            cases Nat.eq_of_beq_eq_true e1
            exact q_callSU hg hgo hx (by assumption) (by assumption) (wpCall0_C h).1 hd (wpCall0_C h).2
          · exact h.elim
        · exact h.elim
      · exact h.elim
    · exact h.elim
  | ireturn =>
    obtain ⟨rfl, rfl⟩ := hn rfl
    delta wpI at h
    dsimp only at h
    split at h
    · rename_i x
      split at h
      · rename_i hr
        exact q_ret (v := some (.int x)) ⟨_, _, hcd, _, hr, rfl⟩ rfl h
      · rename_i ty hr
        exact q_ret (v := some (.int x)) ⟨_, _, hcd, _, (by assumption), h.1⟩ rfl h.2
      · exact h.elim
    · exact h.elim
  | areturn =>
    obtain ⟨rfl, rfl⟩ := hn rfl
    delta wpI at h
    dsimp only at h
    have hra := hre _ _ _ _ hcd
    split at h
    · exact q_ret (v := some (.ref _)) ⟨_, _, hcd, hra⟩ rfl h
    · exact q_ret (v := some (.retAddr _)) ⟨_, _, hcd, hra⟩ rfl h
    · exact h.elim
  | dreturn =>
    obtain ⟨rfl, rfl⟩ := hn rfl
    delta wpI at h
    dsimp only at h
    have hra := hre _ _ _ _ hcd
    split at h
    · exact q_ret (v := some (.double _)) ⟨_, _, hcd, hra⟩ rfl h
    · exact h.elim
  | freturn =>
    obtain ⟨rfl, rfl⟩ := hn rfl
    delta wpI at h
    dsimp only at h
    have hra := hre _ _ _ _ hcd
    split at h
    · exact q_ret (v := some (.float _)) ⟨_, _, hcd, hra⟩ rfl h
    · exact h.elim
  | return_ =>
    obtain ⟨rfl, rfl⟩ := hn rfl
    delta wpI at h
    dsimp only at h
    have hra := hre _ _ _ _ hcd
    split at h
    · exact q_ret (v := none) ⟨_, _, hcd, hra⟩ rfl h
    · exact h.elim
  | _ => exact False.elim h
theorem wp_ok (hg : gOK G) (hm : mOK M) (cut : Nat → Option (List Bool)) : ∀ (n bc bs pc : Nat) (ls : List (Option Value)) (st : List Value) (w : xW), wp G M cut d K KX n bc bs pc ls st w → AW G M d bc bs pc ls st w K KX := by
  intro n
  induction n with
  | zero => intro bc bs pc ls st w h; exact h
  | succ n ih =>
    intro bc bs pc ls st w h
    have h : (match M.cd pc with
      | some (i, np, tg) => wpI G M d K KX (wpG G M cut d K KX (wp G M cut d K KX n)) bc bs pc ls st w i np tg
      | none => False) := h
    split at h
    · refine wpI_ok hg hm (fun bc bs pc ls st w h => ?_) (by assumption) h
      unfold wpG at h
      split at h
      · exact h.msk _
      · exact ih _ _ _ _ _ _ h
    · exact h.elim
end QF
end
section
/-! ===== a method's contract out of its walk ===== -/
def entL : List Value → Nat → List (Option Value)
  | _, 0 => []
  | [], n + 1 => none :: entL [] n
  | v :: vs, n + 1 => some v :: entL vs n
theorem entL_at : ∀ (vs : List Value) (n i : Nat) (v : Value), (entL vs n)[i]? = some (some v) → vs[i]? = some v
  | vs, 0, i, v, h => by cases vs <;> simp [entL] at h
  | [], n + 1, 0, v, h => by simp [entL] at h
  | [], n + 1, i + 1, v, h => by
    simp [entL] at h
    have := entL_at [] n i v h
    simp at this
  | x :: vs, n + 1, 0, v, h => by simp [entL] at h; simpa using h
  | x :: vs, n + 1, i + 1, v, h => by
    simp [entL] at h
    simpa using entL_at vs n i v h
theorem lg_one : ∀ (vs : List Value), (∀ v ∈ vs, v.category = 1) → (lg_sl vs).length = vs.length
  | [], _ => rfl
  | v :: vs, h => by
    have h1 := h v List.mem_cons_self
    have h2 := lg_one vs (fun x hx => h x (List.mem_cons_of_mem _ hx))
    unfold lg_sl at h2 ⊢
    rw [List.flatMap_cons, List.length_append, h2, h1]
    simp; omega
theorem lv_args_one : ∀ (vs : List Value) (k : Nat), (∀ v ∈ vs, v.category = 1) → ∀ (i : Nat) (v : Value), vs[i]? = some v → (k + i, v) ∈ lv_args k vs
  | [], _, _, i, v, hi => by simp at hi
  | x :: vs, k, h, 0, v, hi => by
    simp at hi
    subst hi
    unfold lv_args
    exact List.mem_cons_self
  | x :: vs, k, h, i + 1, v, hi => by
    simp at hi
    unfold lv_args
    have h1 := h x List.mem_cons_self
    rw [if_neg (by omega)]
    have := lv_args_one vs (k + 1) (fun y hy => h y (List.mem_cons_of_mem _ hy)) i v hi
    rw [show k + 1 + i = k + (i + 1) by omega] at this
    exact List.mem_cons_of_mem _ this
section SP
variable {G : gT} {M : mT} {d mc ms : Nat} {w : xW} {K : Option Value → xW → Prop} {KX : Nat → xW → Prop}
variable {A : Nat → Prop} {ad0 : List Nat} {R : Room} {p : Program} {e : Env} {s : State} {m : MethodId} {args : Array Value} {below : List Frame} {meth : Method} {c : Code} {Q : State → Prop}
theorem codeOK.at (h : codeOK M) {pc : Nat} {i : Instr} {np tg : Nat} (hc : M.cd pc = some (i, np, tg)) (hs : isSw i = false) : decode M.m.cc pc = .ok (i, iLen i) := by
  obtain ⟨⟨n, hd, hn⟩, -, -⟩ := h pc i np tg hc
  rw [hd, (hn hs).1]
theorem fin_met (hg : gOK G) (hm : mOK M) {ws : va_W} {sz mc ms : Nat} (hA : A = va_A ws sz) (C : Ctx G M d A R p e s m args meth c) (hc : R.cells = mc) (hs : R.slots = ms) :
    FinQ G M A ad0 R p e s m args below meth c (vx_MQ below (QcS G ad0 ws sz K) (XcS G ad0 ws sz KX) args s mc ms (va_A ws sz)) K KX := by
  obtain ⟨hy, hcp, hco, hth, hhn, hini, -, -, hre⟩ := hm
  have hlocks := C.2.2.2.2.2.1
  have hret := C.2.2.1
  subst hA
  constructor
  · intro pc v cv w ad ws1 H locs cells slots lc hK hr ho hW h1 h2
    have hq : ∀ t : State, t.heap = H → s.WarmedH t.vm → QcS G ad0 ws sz K args s (.returned cv) t := fun t ht _ =>
      ⟨v, cv, w, ad, rfl, ho, hK, hW.1, ws1, hW.2.1, by rw [ht]; exact hW.2.2.1, hW.2.2.2.1, hW.2.2.2.2.F ht⟩
    rw [hc] at h1
    rw [hs] at h2
    refine W.widen h1 h2 (vx_ret ?_)
    obtain ⟨n, t, hr⟩ := hr
    cases v with
    | none =>
      cases (show cv = none from ho)
      exact W.vret C.1 C.2.1 (hret.trans hr.2) hq hW.2.2.2.2.2.2 (hco.at hr.1 rfl)
    | some v =>
      obtain ⟨c', rfl, hv⟩ := ho
      cases v with
      | int x =>
        cases (show c' = _ from hv)
        obtain ⟨h3, ty, h4, h5⟩ := hr
        exact W.zret C.1 C.2.1 (hret.trans h4) h5 hq hW.2.2.2.2.2.2 (hco.at h3 rfl)
      | float x =>
        cases (show c' = _ from hv)
        exact W.fret C.1 C.2.1 (hret.trans hr.2) hq hW.2.2.2.2.2.2 (hco.at hr.1 rfl)
      | double x =>
        cases (show c' = _ from hv)
        exact W.dret C.1 C.2.1 (hret.trans hr.2) hq hW.2.2.2.2.2.2 (hco.at hr.1 rfl)
      | ref x =>
        obtain ⟨h3, h4⟩ := hr
        obtain ⟨a, -, rfl⟩ := hv
        rcases h4 with ⟨C9, h4⟩ | ⟨C9, h4⟩
        · exact W.aret C.1 C.2.1 (hret.trans h4) (Or.inl ⟨_, rfl⟩) (Or.inr ⟨_, rfl⟩) hq hW.2.2.2.2.2.2 (hco.at h3 rfl)
        · exact W.aret C.1 C.2.1 (hret.trans h4) (Or.inr ⟨_, rfl⟩) (Or.inr ⟨_, rfl⟩) hq hW.2.2.2.2.2.2 (hco.at h3 rfl)
      | retAddr x =>
        obtain ⟨h3, h4⟩ := hr
        cases (show c' = _ from hv)
        have hv9 := hg.2.2.2.2.1 x
        rcases h4 with ⟨C9, h4⟩ | ⟨C9, h4⟩
        · exact W.aret C.1 C.2.1 (hret.trans h4) (Or.inl ⟨_, rfl⟩) hv9 hq hW.2.2.2.2.2.2 (hco.at h3 rfl)
        · exact W.aret C.1 C.2.1 (hret.trans h4) (Or.inr ⟨_, rfl⟩) hv9 hq hW.2.2.2.2.2.2 (hco.at h3 rfl)
      | long x => exact hr.elim
      | null => exact hr.elim
  · intro pc x w ad ws1 H locs cells slots lc hKX hr h6 h7 hlc hW h1 h2
    obtain ⟨hhh, ik, iS, ic, text, t1, t2, t3, t4, d0, d3, d4⟩ := hth pc x hr
    obtain ⟨sa, hsa⟩ := hg.2.2.2.2.2.2.2.2.2.2.2.1 _ _ _ t3
    have hW0 := C.2.2.2.2.2.2.1
    have hx : ∀ t : State, s.vm.Alike t.vm → H.size ≤ t.heap.size → (∀ q : Nat, q < H.size → t.heap[q]? = H[q]?) → XcS G ad0 ws sz KX (exN x) s t := fun t _ h3 h4 =>
      ⟨x, w, ad, rfl, hKX, hW.1, ws1, hW.2.1, hW.2.2.1.kept (fun k q hk => h4 _ (hW.2.2.1 k q hk).lt), hW.2.2.2.1, ⟨Nat.le_trans hW.2.2.2.2.1 h3, fun q h8 h9 => by rw [h4 q (Nat.lt_of_lt_of_le h8 hW.2.2.2.2.1)]; exact hW.2.2.2.2.2.1 q h8 h9⟩⟩
    have hout : ∀ (z : Nat), ∀ y ∈ c.exceptionTable.toList, covers y z = false := fun z y hy2 => by
      rw [C.2.2.2.2.2.2.2.2.2.2.2.2.2, hhh] at hy2
      cases hy2
    have hat : ∀ q ∈ vx_atS M.m.y.cls ic (exN x) exNm, q.before args s = true := fun q hq => tr_at hW0 (t4 q hq).2.1 (hg.1 q (t4 q hq).1)
    have hgood : ∀ q ∈ Jvm.Cond.classLink M.m.y.cls ik (exN x) :: Jvm.Cond.initialized (exN x) :: vx_atS M.m.y.cls ic (exN x) exNm, vx_ot q = true := by
      intro q hq
      rcases List.mem_cons.mp hq with rfl | hq
      · rfl
      rcases List.mem_cons.mp hq with rfl | hq
      · rfl
      exact (t4 q hq).2.2
    have hfit : Bundle.fit (exN x) = true := by
      unfold exN
      split <;> decide +kernel
    rcases d4 with ⟨d4, d6, d9⟩ | ⟨d4, d7, d10⟩
    · exact vx_throwS (names := exNm) C.1 C.2.1 hg.2.2.2.2.2.2.2.2.2.2.1 C.2.2.2.2.1 hfit (by decide +kernel) (C.wrd hg t1 rfl) (C.wrd hg t2 rfl) (hsa.warm hW0) hat hgood (C.vq hg.2.2.2.2.2.2.2.2.1) (C.vq hg.2.2.2.2.2.2.2.2.2.1) hW.2.2.2.2 (by rw [C.2.2.2.1]; exact hlc) d0 d3 d4 d6 d9 (hout _) (show 2 + 3 < R.frames by omega) (show 0 + (13 * 3 + 43) ≤ R.locals by omega) h1 h2 hlocks hx hW.2.2.2.2.2.2 (by omega) (by omega)
    · exact vx_throwSW (names := exNm) C.1 C.2.1 hg.2.2.2.2.2.2.2.2.2.2.1 C.2.2.2.2.1 hfit (by decide +kernel) (C.wrd hg t1 rfl) (C.wrd hg t2 rfl) (hsa.warm hW0) hat hgood (C.vq hg.2.2.2.2.2.2.2.2.1) (C.vq hg.2.2.2.2.2.2.2.2.2.1) hW.2.2.2.2 (by rw [C.2.2.2.1]; exact hlc) d0 d3 d4 d7 d10 (hout _) (show 2 + 3 < R.frames by omega) (show 0 + (13 * 3 + 43) ≤ R.locals by omega) h1 h2 hlocks hx hW.2.2.2.2.2.2 (by omega) (by omega)
theorem spec_body (hg : gOK G) (hm : mOK M) {as : List Value} (hcat : ∀ v ∈ as, v.category = 1) (hlen : as.length ≤ M.m.nL) (h : AW G M d mc ms 0 (entL as M.m.nL) [] w K KX) {ad : List Nat} {ws : va_W} {sz : Nat} {ca : List Value} (hrw : rW G ad w ws) (hra : rVs G ad as ca)
    (p : Program) (e : Env) (s : State) (m : MethodId) (args : Array Value) (below : List Frame) (meth : Method) (c : Code) (s₁ : State) (B : BodyLoose p G.l M.m.y (headSpec [M.m.w] (rmS d mc ms)) M.m.cc M.m.nL M.m.ret e s m args below meth c s₁) (hml : c.maxLocals = M.m.nL) (htab : c.exceptionTable.toList = tableOf M.m.hh) (hP : PcS G ws sz ca args s) :
    W p G.l e (headSpec [M.m.w] (rmS d mc ms)).room s m args below meth c s.heap [] 0 0 (vx_MQ below (QcS G ad ws sz K) (XcS G ad ws sz KX) args s mc ms (va_A ws sz)) (entryFrame m args M.m.nL) := by
  obtain ⟨rfl, hsz, hwm, hlow, hPP, hDD⟩ := hP
  have hin : M.ini = true → meth.name = "<init>" := fun q => by
    rw [(name_of_methodNamed B.named B.method).1]; exact hm.2.2.2.2.2.1 q
  have C : Ctx G M d (va_A ws sz) (headSpec [M.m.w] (rmS d mc ms)).room p e s m ca.toArray meth c :=
    ⟨B.exec, B.bytes, B.returns, hml, findClass_of_methodNamed B.named, B.notSynchronized, hwm, hlow, (fun q hq => by
      rcases hq with ⟨k, x, hk⟩ | hq
      · exact hDD.2 k (q, x) hk
      · exact Nat.le_trans hlow.1 (by rw [hsz]; exact hq)), (fun q hq => Or.inr (by rw [← hsz]; exact hq)), Nat.le_refl d, Nat.le_refl (64 * d), hin, htab⟩
  have hc1 : ∀ v ∈ ca, v.category = 1 := by
    intro v hv
    obtain ⟨i, hi⟩ := List.getElem?_of_mem hv
    have hlt : i < as.length := by rw [← hra.len]; exact (List.getElem?_eq_some_iff.mp hi).1
    obtain ⟨c9, h1, h2⟩ := hra.at (List.getElem?_eq_getElem hlt)
    cases hi.symm.trans h1
    rw [h2.cat hg.cat]
    exact hcat _ (List.getElem_mem hlt)
  have hl := lv_entry ca (n := M.m.nL) (by rw [lg_one ca hc1, hra.len]; exact hlen)
  rw [lg_entry_eq]
  refine h (va_A ws sz) ad _ p e s m ca.toArray below meth c _ C (fin_met hg hm rfl C rfl rfl) ad ws s.heap [] 0 0 _ [] ⟨adM.rf, hrw, hPP, hDD.self, va_S.rf⟩ ⟨hl.1, hl.2.1, fun i v hv => ?_⟩ rfl (by show 0 + mc ≤ mc; omega) (by show 0 + ms ≤ ms; omega)
  obtain ⟨c9, h1, h2⟩ := hra.at (entL_at as M.m.nL i v hv)
  refine ⟨c9, h2, ?_⟩
  have := lv_args_one ca 0 hc1 i c9 h1
  rw [Nat.zero_add] at this
  exact hl.2.2 _ this
/-- THE CONTRACT OUT OF THE WALK -/
theorem spec_of (hg : gOK G) (hm : mOK M) {as : List Value} (hcat : ∀ v ∈ as, v.category = 1) (hlen : as.length ≤ M.m.nL) (h : AW G M d mc ms 0 (entL as M.m.nL) [] w K KX) : Spec G d mc ms M.m as w K KX := by
  intro ad ws sz ca hrw hra
  by_cases hh : M.m.hh = []
  · have hw := m0T.w_nil hh
    refine vx_ofW hm.2.2.2.2.2.2.2.1 (by rw [hw]) (fun p e s m args below meth c s₁ B hml ht hP => ?_)
    refine spec_body hg hm hcat hlen h hrw hra p e s m args below meth c s₁ B hml ?_ hP
    rw [hh]
    cases ht9 : c.exceptionTable.toList with
    | nil => rfl
    | cons x l => exact (ht x (by rw [ht9]; exact List.mem_cons_self)).elim
  · have hw := m0T.w_cons hh
    refine vx_ofWH hm.2.2.2.2.2.2.2.1 (by rw [hw]) (fun p e s m args below meth c s₁ B hml hP => ?_)
    refine spec_body hg hm hcat hlen h hrw hra p e s m args below meth c s₁ B hml ?_ hP
    exact vx_table (x := M.m.y) B (atoms_spec (ws := [M.m.w]) B.pre _ (by rw [hw]; exact List.mem_cons_self))
end SP
end
section
/-! ===== a contract over a small world holds over a large one, the rest unchanged ===== -/
def rnI : List Nat → Nat → Nat → Nat
  | [], N, k => N + k
  | a :: _, _, 0 => a
  | _ :: p, N, k + 1 => rnI p N k
def renV (p : List Nat) (N : Nat) : Value → Value
  | .ref k => .ref (rnI p N k)
  | v => v
def renVs (p : List Nat) (N : Nat) : List Value → List Value
  | [] => []
  | v :: l => renV p N v :: renVs p N l
def renE (p : List Nat) (N : Nat) : va_E → va_E
  | .inl (t, n, .inr (.inr (.inr (.inr f)))) => .inl (t, n, .inr (.inr (.inr (.inr (fun i => (f i).map (rnI p N))))))
  | .inl x => .inl x
  | .inr (ci, fs) => .inr (ci, renVs p N fs)
def renW (p : List Nat) (N : Nat) : xW → xW
  | [] => []
  | e :: l => renE p N e :: renW p N l
def renO (p : List Nat) (N : Nat) : Option Value → Option Value
  | none => none
  | some v => some (renV p N v)
def plg {α : Type} : List Nat → List α → List α → List α
  | [], xs, w => w ++ xs
  | _ :: _, [], w => w
  | a :: p, x :: xs, w => plg p xs (stN w a x)
def selW (p0 : List Nat) (N : Nat) (w : xW) : List Nat → xW → Prop
  | [], [] => True
  | a :: p, e :: l => nth w a = some (renE p0 N e) ∧ selW p0 N w p l
  | _, _ => False
theorem renW_eq (p : List Nat) (N : Nat) : ∀ l : xW, renW p N l = l.map (renE p N)
  | [] => rfl
  | e :: l => by rw [renW, renW_eq p N l]; rfl
theorem rnI_lt : ∀ (p : List Nat) (N k a : Nat), p[k]? = some a → rnI p N k = a
  | [], _, _, _, h => by simp at h
  | b :: _, _, 0, a, h => by simp at h; exact h
  | _ :: p, N, k + 1, a, h => by simp at h; exact rnI_lt p N k a h
theorem rnI_ge : ∀ (p : List Nat) (N k : Nat), p.length ≤ k → rnI p N k = N + (k - p.length)
  | [], N, k, _ => by simp [rnI]
  | _ :: _, _, 0, h => by simp at h
  | _ :: p, N, k + 1, h => by
    rw [rnI, rnI_ge p N k (by simpa using h)]
    simp
theorem plg_len {α : Type} : ∀ (p : List Nat) (xs w : List α), p.length ≤ xs.length → (plg p xs w).length = w.length + (xs.length - p.length)
  | [], xs, w, _ => by simp [plg]
  | _ :: _, [], w, h => by simp at h
  | a :: p, x :: xs, w, h => by
    rw [plg, plg_len p xs _ (by simpa using h), stN_eq]
    simp
theorem plg_at {α : Type} : ∀ (p : List Nat) (xs w : List α), p.Nodup → p.length ≤ xs.length → (∀ a ∈ p, a < w.length) → ∀ i : Nat,
    (∀ j : Nat, p[j]? = some i → (plg p xs w)[i]? = xs[j]?) ∧ (i < w.length → i ∉ p → (plg p xs w)[i]? = w[i]?) ∧ (w.length ≤ i → (plg p xs w)[i]? = xs[p.length + (i - w.length)]?)
  | [], xs, w, _, _, _, i => by
    refine ⟨fun j h => by simp at h, fun h _ => by rw [plg, List.getElem?_append_left h], fun h => by rw [plg, List.getElem?_append_right h]; simp⟩
  | _ :: _, [], w, _, h, _, i => by simp at h
  | a :: p, x :: xs, w, hn, hl, hw, i => by
    have hn2 := List.nodup_cons.mp hn
    have hal := hw a List.mem_cons_self
    have hlen : (stN w a x).length = w.length := by rw [stN_eq]; simp
    obtain ⟨h1, h2, h3⟩ := plg_at p xs (stN w a x) hn2.2 (by simpa using hl) (fun b hb => by rw [hlen]; exact hw b (List.mem_cons_of_mem _ hb)) i
    rw [hlen] at h2 h3
    refine ⟨fun j hj => ?_, fun hi hni => ?_, fun hi => ?_⟩
    · cases j with
      | zero =>
        simp at hj
        subst hj
        rw [plg, h2 hal hn2.1, stN_eq, List.getElem?_set_self hal]
        simp
      | succ j =>
        simp at hj
        rw [plg, h1 j hj]
        simp
    · have hne : ¬ a = i := fun q => hni (by rw [q]; exact List.mem_cons_self)
      rw [plg, h2 hi (fun q => hni (List.mem_cons_of_mem _ q)), stN_eq, List.getElem?_set_ne hne]
    · rw [plg, h3 hi]
      rw [show (a :: p).length + (i - w.length) = (p.length + (i - w.length)) + 1 by simp; omega]
      simp
theorem selW_at {p0 : List Nat} {N : Nat} {w : xW} : ∀ {p : List Nat} {l : xW}, selW p0 N w p l → p.length = l.length ∧ ∀ (j : Nat) (e : va_E), l[j]? = some e → ∃ a, p[j]? = some a ∧ w[a]? = some (renE p0 N e)
  | [], [], _ => ⟨rfl, fun j e h => by simp at h⟩
  | [], _ :: _, h => h.elim
  | _ :: _, [], h => h.elim
  | a :: p, e0 :: l, ⟨h1, h2⟩ => by
    obtain ⟨q1, q2⟩ := selW_at h2
    refine ⟨by simp [q1], fun j e h => ?_⟩
    cases j with
    | zero =>
      simp at h
      subst h
      exact ⟨a, by simp, by rw [← nth_eq]; exact h1⟩
    | succ j =>
      simp at h
      obtain ⟨b, r1, r2⟩ := q2 j e h
      exact ⟨b, by simpa using r1, r2⟩
theorem va_nd_nodup : ∀ {l : List Nat}, va_nd l = true → l.Nodup
  | [], _ => List.nodup_nil
  | a :: l, h => by
    unfold va_nd at h
    simp only [Bool.and_eq_true] at h
    refine List.nodup_cons.mpr ⟨?_, va_nd_nodup h.2⟩
    intro hm
    have h1 := h.1
    simp [List.contains_iff_mem, hm] at h1
section FRA
variable {G : gT} {p : List Nat} {N : Nat} {ad ad0 : List Nat}
theorem rV.un (hU : ∀ k a, ad[rnI p N k]? = some a → ad0[k]? = some a) {v c : Value} (h : rV G ad (renV p N v) c) : rV G ad0 v c := by
  cases v with
  | ref k => obtain ⟨a, h1, h2⟩ := h; exact ⟨a, hU k a h1, h2⟩
  | _ => exact h
theorem rV.re (hU : ∀ k a, ad0[k]? = some a → ad[rnI p N k]? = some a) {v c : Value} (h : rV G ad0 v c) : rV G ad (renV p N v) c := by
  cases v with
  | ref k => obtain ⟨a, h1, h2⟩ := h; exact ⟨a, hU k a h1, h2⟩
  | _ => exact h
theorem rVs.un (hU : ∀ k a, ad[rnI p N k]? = some a → ad0[k]? = some a) : ∀ {vs cs : List Value}, rVs G ad (renVs p N vs) cs → rVs G ad0 vs cs
  | [], _, h => h
  | _ :: _, _, ⟨c, cs', e, h1, h2⟩ => ⟨c, cs', e, h1.un hU, rVs.un hU h2⟩
theorem rVs.re (hU : ∀ k a, ad0[k]? = some a → ad[rnI p N k]? = some a) : ∀ {vs cs : List Value}, rVs G ad0 vs cs → rVs G ad (renVs p N vs) cs
  | [], _, h => h
  | _ :: _, _, ⟨c, cs', e, h1, h2⟩ => ⟨c, cs', e, h1.re hU, rVs.re hU h2⟩
theorem rE.un (hU : ∀ k a, ad[rnI p N k]? = some a → ad0[k]? = some a) {x c : va_E} (h : rE G ad (renE p N x) c) : rE G ad0 x c := by
  rcases x with ⟨t, n, f | f | f | f | f⟩ | ⟨ci, fs⟩
  · exact h
  · exact h
  · exact h
  · exact h
  · obtain ⟨q, d', h1, h2, g, h3, h4⟩ := h
    refine ⟨q, d', h1, h2, g, h3, fun i => ?_⟩
    have := h4 i
    cases hf : f i with
    | none => simp only [hf] at this; exact this
    | some k => simp only [hf] at this; obtain ⟨a, r1, r2⟩ := this; exact ⟨a, hU k a r1, r2⟩
  · obtain ⟨fs', h1, h2⟩ := h
    exact ⟨fs', h1, h2.un hU⟩
theorem rE.re (hU : ∀ k a, ad0[k]? = some a → ad[rnI p N k]? = some a) {x c : va_E} (h : rE G ad0 x c) : rE G ad (renE p N x) c := by
  rcases x with ⟨t, n, f | f | f | f | f⟩ | ⟨ci, fs⟩
  · exact h
  · exact h
  · exact h
  · exact h
  · obtain ⟨q, d', h1, h2, g, h3, h4⟩ := h
    refine ⟨q, d', h1, h2, g, h3, fun i => ?_⟩
    have := h4 i
    cases hf : f i with
    | none => simp only [hf] at this; simp only [hf, Option.map_none]; exact this
    | some k => simp only [hf] at this; simp only [hf, Option.map_some]; obtain ⟨a, r1, r2⟩ := this; exact ⟨a, hU k a r1, r2⟩
  · obtain ⟨fs', h1, h2⟩ := h
    exact ⟨fs', h1, h2.re hU⟩
/-- the world behind the small method, in the large one -/
theorem WEnd.fr {w w0 w' : xW} {ws ws0 : va_W} {sz : Nat} {st t : State} {ad0' : List Nat} (hN : N = w.length) (hn : p.Nodup) (hs : selW p N w p w0) (hw : rW G ad w ws) (hP : va_P G.D vwCl ws st.heap) (hD : va_D (fun q => G.bs ≤ q) ws) (hsz : st.heap.size = sz)
    (h0 : ∀ (j a : Nat), p[j]? = some a → ad0[j]? = ad[a]? ∧ ws0[j]? = ws[a]?) (hl0 : ad0.length = p.length) (hl1 : ws0.length = p.length) (h : WEnd G ad0 ws0 sz st t w' ad0') :
    WEnd G ad ws sz st t (plg p (renW p N w') w) (ad ++ ad0'.drop p.length) ∧ ∀ k a, ad0'[k]? = some a → (ad ++ ad0'.drop p.length)[rnI p N k]? = some a := by
  obtain ⟨hm, ws', r1, r2, r3, r4⟩ := h
  obtain ⟨hpl, hps⟩ := selW_at hs
  have hlad : ad.length = N := by rw [hN]; exact hw.1
  have hpw : ∀ a ∈ p, a < w.length := by
    intro a ha
    obtain ⟨j, hj⟩ := List.getElem?_of_mem ha
    have hjl : j < w0.length := by rw [← hpl]; exact (List.getElem?_eq_some_iff.mp hj).1
    obtain ⟨b, q1, q2⟩ := hps j _ (List.getElem?_eq_getElem hjl)
    cases hj.symm.trans q1
    exact (List.getElem?_eq_some_iff.mp q2).1
  have hle : p.length ≤ ad0'.length := by
    rcases Nat.lt_or_ge ad0'.length p.length with q | q
    · have h9 : ad0'.length < ad0.length := by rw [hl0]; exact q
      have := hm _ _ (List.getElem?_eq_getElem h9)
      simp at this
    · exact q
  have hU : ∀ k a, ad0'[k]? = some a → (ad ++ ad0'.drop p.length)[rnI p N k]? = some a := by
    intro k a hk
    rcases Nat.lt_or_ge k p.length with q | q
    · have hpk := List.getElem?_eq_getElem q
      rw [rnI_lt p N k _ hpk]
      have hlt : p[k] < ad.length := by rw [hlad, hN]; exact hpw _ (List.getElem_mem q)
      rw [List.getElem?_append_left hlt, ← (h0 k _ hpk).1]
      have hlt0 : k < ad0.length := by rw [hl0]; exact q
      have h8 := List.getElem?_eq_getElem hlt0
      rw [h8]
      have := hm _ _ h8
      rw [hk] at this
      exact this.symm
    · rw [rnI_ge p N k q, List.getElem?_append_right (by rw [hlad]; omega), hlad, show N + (k - p.length) - N = k - p.length by omega, List.getElem?_drop, show p.length + (k - p.length) = k by omega]
      exact hk
  refine ⟨⟨adM.app, plg p ws' ws, ?_, ?_, ?_, ?_⟩, hU⟩
  · have hl2 : p.length ≤ (renW p N w').length := by rw [renW_eq, List.length_map, ← r1.1]; exact hle
    have hl3 : p.length ≤ ws'.length := by rw [r1.2.1, ← r1.1]; exact hle
    have hpws : ∀ a ∈ p, a < ws.length := fun a ha => by rw [hw.2.1]; exact hpw a ha
    refine ⟨?_, ?_, fun i x hx => ?_⟩
    · rw [plg_len _ _ _ hl2, renW_eq, List.length_map, List.length_append, List.length_drop, r1.1, hw.1]
    · rw [plg_len _ _ _ hl3, plg_len _ _ _ hl2, renW_eq, List.length_map, r1.2.1, hw.2.1]
    · obtain ⟨a1, a2, a3⟩ := plg_at p (renW p N w') w hn hl2 hpw i
      obtain ⟨b1, b2, b3⟩ := plg_at p ws' ws hn hl3 hpws i
      by_cases hip : i ∈ p
      · obtain ⟨j, hj⟩ := List.getElem?_of_mem hip
        rw [a1 j hj, renW_eq, List.getElem?_map] at hx
        rw [b1 j hj]
        cases hwj : w'[j]? with
        | none => rw [hwj] at hx; cases hx
        | some y =>
          rw [hwj] at hx
          cases hx
          obtain ⟨a, x', c1, c2, c3⟩ := r1.at hwj
          refine ⟨a, x', ?_, c2, c3.re hU⟩
          have := hU j a c1
          rwa [rnI_lt p N j i hj] at this
      · rcases Nat.lt_or_ge i w.length with q | q
        · rw [a2 q hip] at hx
          obtain ⟨a, x', c1, c2, c3⟩ := hw.at hx
          exact ⟨a, x', adM.app _ _ c1, by rw [b2 (by rw [hw.2.1]; exact q) hip]; exact c2, c3.mono adM.app⟩
        · rw [a3 q, renW_eq, List.getElem?_map] at hx
          cases hwj : w'[p.length + (i - w.length)]? with
          | none => rw [hwj] at hx; cases hx
          | some y =>
            rw [hwj] at hx
            cases hx
            obtain ⟨a, x', c1, c2, c3⟩ := r1.at hwj
            refine ⟨a, x', ?_, by rw [b3 (by rw [hw.2.1]; exact q), hw.2.1]; exact c2, c3.re hU⟩
            have := hU _ a c1
            rw [rnI_ge p N _ (by omega)] at this
            rwa [show N + (p.length + (i - w.length) - p.length) = i by omega] at this
  all_goals
    have hl3 : p.length ≤ ws'.length := by rw [r1.2.1, ← r1.1]; exact hle
    have hpws : ∀ a ∈ p, a < ws.length := fun a ha => by rw [hw.2.1]; exact hpw a ha
    have cls : ∀ (i : Nat) (q : Nat × va_E), (plg p ws' ws)[i]? = some q → (∃ j, i = rnI p N j ∧ ws'[j]? = some q) ∨ (i ∉ p ∧ ws[i]? = some q) := by
      intro i q hq
      obtain ⟨b1, b2, b3⟩ := plg_at p ws' ws hn hl3 hpws i
      by_cases hip : i ∈ p
      · obtain ⟨j, hj⟩ := List.getElem?_of_mem hip
        rw [b1 j hj] at hq
        exact Or.inl ⟨j, (rnI_lt p N j i hj).symm, hq⟩
      · rcases Nat.lt_or_ge i ws.length with g | g
        · rw [b2 g hip] at hq
          exact Or.inr ⟨hip, hq⟩
        · rw [b3 g] at hq
          refine Or.inl ⟨_, ?_, hq⟩
          rw [rnI_ge p N _ (by omega), hN, ← hw.2.1]
          omega
    have sub : ∀ q, va_A ws0 sz q → va_A ws sz q := by
      rintro q (⟨k, x, hk⟩ | hq)
      · have hkl : k < p.length := by rw [← hl1]; exact (List.getElem?_eq_some_iff.mp hk).1
        rw [(h0 k _ (List.getElem?_eq_getElem hkl)).2] at hk
        exact Or.inl ⟨_, x, hk⟩
      · exact Or.inr hq
    have off : ∀ (i : Nat) (q : Nat × va_E), i ∉ p → ws[i]? = some q → ¬ va_A ws0 sz q.1 := by
      rintro i q hip hq (⟨k, x, hk⟩ | hz)
      · have hkl : k < p.length := by rw [← hl1]; exact (List.getElem?_eq_some_iff.mp hk).1
        rw [(h0 k _ (List.getElem?_eq_getElem hkl)).2] at hk
        have := hD.1 i _ q _ hq hk rfl
        exact hip (by rw [this]; exact List.getElem_mem hkl)
      · have := (hP i q hq).lt
        omega
  · intro i q hq
    rcases cls i q hq with ⟨j, -, hj⟩ | ⟨hip, hi⟩
    · exact r2 j q hj
    · exact (hP i q hi).kept (r4.2 _ (hP i q hi).lt (off i q hip hi))
  · refine ⟨fun i j x y hx hy hxy => ?_, fun i q hq => ?_⟩
    · rcases cls i x hx with ⟨a, ha, ha2⟩ | ⟨ha, ha2⟩ <;> rcases cls j y hy with ⟨b, hb, hb2⟩ | ⟨hb, hb2⟩
      · rw [ha, hb, r3.1 a b x y ha2 hb2 hxy]
      · exact absurd (by rw [← hxy]; exact r3.2 a x ha2) (off j y hb hb2)
      · exact absurd (by rw [hxy]; exact r3.2 b y hb2) (off i x ha ha2)
      · exact hD.1 i j x y ha2 hb2 hxy
    · rcases cls i q hq with ⟨j, -, hj⟩ | ⟨hip, hi⟩
      · exact sub _ (r3.2 j q hj)
      · exact Or.inl ⟨i, q.2, hi⟩
  · exact ⟨r4.1, fun q h1 h2 => r4.2 q h1 (fun h => h2 (sub q h))⟩
theorem renO_re {ad0' ad' : List Nat} (hU : ∀ k a, ad0'[k]? = some a → ad'[rnI p N k]? = some a) {v c : Option Value} (h : rO G ad0' v c) : rO G ad' (renO p N v) c := by
  cases v with
  | none => exact h
  | some v => obtain ⟨c', h1, h2⟩ := h; exact ⟨c', h1, h2.re hU⟩
/-- THE FRAME RULE: the small world's places in the large one are p -/
theorem Spec.fr {d mc ms : Nat} {y : m0T} {as as0 : List Value} {w w0 : xW} {K K0 : Option Value → xW → Prop} {KX KX0 : Nat → xW → Prop} (p : List Nat) (h : Spec G d mc ms y as0 w0 K0 KX0) (hn : va_nd p = true) (hs : selW p (lenL w) w p w0) (ha : as = renVs p (lenL w) as0)
    (hK : ∀ v w', K0 v w' → K (renO p (lenL w) v) (plg p (renW p (lenL w) w') w)) (hX : ∀ x w', KX0 x w' → KX x (plg p (renW p (lenL w) w') w)) : Spec G d mc ms y as w K KX := by
  intro ad ws sz ca hrw hra
  obtain ⟨hpl, hps⟩ := selW_at hs
  have hN : lenL w = w.length := lenL_eq w
  generalize lenL w = N at *
  have hnd := va_nd_nodup hn
  have hpw : ∀ (j a : Nat), p[j]? = some a → ∃ x, w0[j]? = some x ∧ w[a]? = some (renE p N x) := by
    intro j a hj
    have hjl : j < w0.length := by rw [← hpl]; exact (List.getElem?_eq_some_iff.mp hj).1
    obtain ⟨b, q1, q2⟩ := hps j _ (List.getElem?_eq_getElem hjl)
    cases hj.symm.trans q1
    exact ⟨_, List.getElem?_eq_getElem hjl, q2⟩
  obtain ⟨ad0, had0⟩ : ∃ z, z = p.map (fun a => (ad[a]?).getD 0) := ⟨_, rfl⟩
  obtain ⟨ws0, hws0⟩ : ∃ z, z = p.map (fun a => (ws[a]?).getD (0, .inr (0, []))) := ⟨_, rfl⟩
  have hl0 : ad0.length = p.length := by rw [had0]; simp
  have hl1 : ws0.length = p.length := by rw [hws0]; simp
  have h0 : ∀ (j a : Nat), p[j]? = some a → ad0[j]? = ad[a]? ∧ ws0[j]? = ws[a]? := by
    intro j a hj
    obtain ⟨x, q1, q2⟩ := hpw j a hj
    obtain ⟨b, x', c1, c2, -⟩ := hrw.at q2
    constructor
    · rw [had0, List.getElem?_map, hj]
      simp [c1]
    · rw [hws0, List.getElem?_map, hj]
      simp [c2]
  have hU : ∀ k a, ad[rnI p N k]? = some a → ad0[k]? = some a := by
    intro k a hk
    rcases Nat.lt_or_ge k p.length with q | q
    · have hpk := List.getElem?_eq_getElem q
      rw [rnI_lt p N k _ hpk] at hk
      rw [(h0 k _ hpk).1]; exact hk
    · rw [rnI_ge p N k q] at hk
      have := (List.getElem?_eq_some_iff.mp hk).1
      rw [hrw.1] at this
      omega
  have hrw0 : rW G ad0 w0 ws0 := by
    refine ⟨by rw [hl0, hpl], by rw [hl1, hpl], fun j x hx => ?_⟩
    obtain ⟨a, q1, q2⟩ := hps j x hx
    obtain ⟨b, x', c1, c2, c3⟩ := hrw.at q2
    exact ⟨b, x', by rw [(h0 j a q1).1]; exact c1, by rw [(h0 j a q1).2]; exact c2, c3.un hU⟩
  have hra0 : rVs G ad0 as0 ca := by rw [ha] at hra; exact hra.un hU
  have hM := h ad0 ws0 sz ca hrw0 hra0
  have inj : ∀ (j a : Nat), p[j]? = some a → ∀ q, ws0[j]? = some q → ws[a]? = some q := fun j a hj q hq => by rw [← (h0 j a hj).2]; exact hq
  have sub : ∀ q, va_A ws0 sz q → va_A ws sz q := by
    rintro q (⟨k, x, hk⟩ | hq)
    · have hkl : k < p.length := by rw [← hl1]; exact (List.getElem?_eq_some_iff.mp hk).1
      exact Or.inl ⟨_, x, inj k _ (List.getElem?_eq_getElem hkl) _ hk⟩
    · exact Or.inr hq
  intro p9 e ha9 hc hk s m args below hf happ hP hKK
  obtain ⟨P1, P2, P3, P4, P5, P6⟩ := id hP
  have hP0 : PcS G ws0 sz ca args s := by
    refine ⟨P1, P2, P3, P4, fun j q hq => ?_, fun i j x y hx hy hxy => ?_, fun j q hq => ?_⟩
    · have hkl : j < p.length := by rw [← hl1]; exact (List.getElem?_eq_some_iff.mp hq).1
      exact P5 _ q (inj j _ (List.getElem?_eq_getElem hkl) q hq)
    · have hil : i < p.length := by rw [← hl1]; exact (List.getElem?_eq_some_iff.mp hx).1
      have hjl : j < p.length := by rw [← hl1]; exact (List.getElem?_eq_some_iff.mp hy).1
      have := P6.1 _ _ x y (inj i _ (List.getElem?_eq_getElem hil) x hx) (inj j _ (List.getElem?_eq_getElem hjl) y hy) hxy
      exact (List.getElem_inj hnd).mp this
    · have hkl : j < p.length := by rw [← hl1]; exact (List.getElem?_eq_some_iff.mp hq).1
      exact P6.2 _ q (inj j _ (List.getElem?_eq_getElem hkl) q hq)
  obtain ⟨n, o, g1, g2, g3, g4⟩ := hM p9 e ha9 hc hk s m args below hf happ hP0 hKK
  refine ⟨n, o, g1, g2, g3, ?_⟩
  rcases g4 with ⟨⟨v, c, w', ad', ho, hv, hKv, hE⟩, L, hF, hL⟩ | ⟨q, ho, E, ce, L, ⟨x, w', ad', hEx, hKx, hE⟩, t1, t2, t3, t4, t5, t6⟩
  · obtain ⟨hE', hU'⟩ := WEnd.fr hN hnd hs hrw P5 P6 P2 h0 hl0 hl1 hE
    exact Or.inl ⟨⟨_, c, _, _, ho, renO_re hU' hv, hK v w' hKv, hE'⟩, L, hF, fun q hq => sub _ (hL q hq)⟩
  · obtain ⟨hE', hU'⟩ := WEnd.fr hN hnd hs hrw P5 P6 P2 h0 hl0 hl1 hE
    exact Or.inr ⟨q, ho, E, ce, L, ⟨x, _, _, hEx, hX x w' hKx, hE'⟩, t1, t2, t3, t4, t5, fun z hz => sub _ (t6 z hz)⟩
end FRA
end
section
/-! ===== tables: how a method's lists give what its walk asks ===== -/
def lkp {α : Type} : List (Nat × α) → Nat → Option α
  | [], _ => none
  | (k, v) :: l, x => match Nat.beq k x with
    | true => some v
    | false => lkp l x
def lk2 {α : Type} : List (Nat × List (Nat × α)) → Nat → Option α
  | [], _ => none
  | (b, l) :: r, x => match Nat.blt x b with
    | true => lkp l x
    | false => lk2 r x
theorem lkp_mem {α : Type} : ∀ {l : List (Nat × α)} {x : Nat} {v : α}, lkp l x = some v → (x, v) ∈ l
  | [], x, v, h => by cases h
  | (k, u) :: l, x, v, h => by
    unfold lkp at h
    split at h
    · rename_i e
      have := Nat.eq_of_beq_eq_true e
      cases h
      rw [this]
      exact List.mem_cons_self
    · exact List.mem_cons_of_mem _ (lkp_mem h)
theorem lk2_mem {α : Type} : ∀ {l : List (Nat × List (Nat × α))} {x : Nat} {v : α}, lk2 l x = some v → ∃ c ∈ l, (x, v) ∈ c.2
  | [], x, v, h => by cases h
  | (k, u) :: l, x, v, h => by
    unfold lk2 at h
    split at h
    · exact ⟨_, List.mem_cons_self, lkp_mem h⟩
    · obtain ⟨c, h1, h2⟩ := lk2_mem h
      exact ⟨c, List.mem_cons_of_mem _ h1, h2⟩
abbrev cdT : Type := List (Nat × List (Nat × (Instr × Nat × Nat)))
abbrev swT : Type := List (Nat × (Int × List Nat × Nat))
/-- every instruction of a list passes a test -/
def allI (cs : cdT) (f : Nat → Instr → Nat → Nat → Bool) : Bool := cs.all (fun c => c.2.all (fun q => f q.1 q.2.1 q.2.2.1 q.2.2.2))
theorem allI_at {cs : cdT} {f : Nat → Instr → Nat → Nat → Bool} (h : allI cs f = true) {pc : Nat} {i : Instr} {np tg : Nat} (hc : lk2 cs pc = some (i, np, tg)) : f pc i np tg = true := by
  obtain ⟨c, h1, h2⟩ := lk2_mem hc
  exact List.all_eq_true.mp (List.all_eq_true.mp h c h1) _ h2
def swC (sw : swT) (pc : Nat) (i : Instr) : Bool := match i with
  | .tableswitch dfl lo hi offs => (match lkp sw pc with
    | some (lo2, ts, df) => decide (lo2 = lo) && (decide (hi = lo + ts.length - 1) && (decide ((pc : Int) + dfl = (df : Int)) && decide (offs.toList.map (fun o => (pc : Int) + o) = ts.map (fun t : Nat => (t : Int)))))
    | none => true)
  | _ => true
def chkI (cc : ByteArray) (sw : swT) (pc : Nat) (i : Instr) (np tg : Nat) : Bool :=
  (match decode cc pc with
    | .ok (j, n) => decide (j = i) && (isSw i || (decide (n = iLen i) && decide (np = pc + iLen i)))
    | _ => false) &&
  ((match brO i with
    | some o => decide ((pc : Int) + o = (tg : Int))
    | none => true) && swC sw pc i)
theorem codeOK_of {M : mT} {cs : cdT} {sw : swT} (h1 : M.cd = lk2 cs) (h2 : M.sw = lkp sw) (h : allI cs (chkI M.m.cc sw) = true) : codeOK M := by
  intro pc i np tg hc
  rw [h1] at hc
  have hq := allI_at h hc
  unfold chkI at hq
  simp only [Bool.and_eq_true] at hq
  obtain ⟨q1, q2, q3⟩ := hq
  refine ⟨?_, ?_, ?_⟩
  · split at q1
    · rename_i j n hd
      simp only [Bool.and_eq_true, decide_eq_true_eq, Bool.or_eq_true] at q1
      obtain ⟨rfl, q1⟩ := q1
      refine ⟨n, hd, fun hs => ?_⟩
      rcases q1 with q1 | q1
      · rw [hs] at q1; cases q1
      · exact q1
    · cases q1
  · intro o ho
    rw [ho] at q2
    exact of_decide_eq_true q2
  · unfold swI
    split
    · rename_i dfl lo hi offs
      intro lo2 ts df hsw
      rw [h2] at hsw
      unfold swC at q3
      dsimp only at q3
      rw [hsw] at q3
      simp only [Bool.and_eq_true, decide_eq_true_eq] at q3
      obtain ⟨e1, e2, e3, e4⟩ := q3
      refine ⟨e1, e2, e3, fun j t ht => ?_⟩
      have hm : (ts.map (fun t : Nat => (t : Int)))[j]? = some (t : Int) := by rw [List.getElem?_map, ht]; rfl
      rw [← e4, List.getElem?_map] at hm
      cases ho : offs.toList[j]? with
      | none => rw [ho] at hm; cases hm
      | some o =>
        rw [ho] at hm
        refine ⟨o, by rw [← Array.getElem?_toList]; exact ho, Option.some.inj hm⟩
    · trivial
/-- no exception is made here -/
def noX (cls : Nat → Option (Nat ⊕ Nat)) (_ : Nat) (i : Instr) (_ _ : Nat) : Bool := match i with
  | .new k => (match cls k with
    | some (.inr _) => false
    | _ => true)
  | _ => true
theorem thrOK_no {M : mT} {cs : cdT} (h1 : M.cd = lk2 cs) (h : allI cs (noX M.cp.cls) = true) : thrOK M := by
  intro pc x ⟨k, n, t, hc, hk⟩
  rw [h1] at hc
  have := allI_at h hc
  unfold noX at this
  dsimp only at this
  rw [hk] at this
  cases this
/-- the throws of a class: of the x-th exception, its constructor's entry; its texts -/
def thC (cc : ByteArray) (cls : Nat → Option (Nat ⊕ Nat)) (ic : Nat → Nat) (strs : List (Nat × String)) (pc : Nat) (i : Instr) (_ _ : Nat) : Bool := match i with
  | .new k => (match cls k with
    | some (.inr x) => decide (decode cc pc = .ok (.new k, 3)) && (decide (decode cc (pc + 3) = .ok (.dup, 1)) && (match decode cc (pc + 4) with
      | .ok (.ldc iS, 2) => (lkp strs iS).isSome && (decide (decode cc (pc + 6) = .ok (.invokespecial (ic x), 3)) && decide (decode cc (pc + 9) = .ok (.athrow, 1)))
      | .ok (.ldc_w iS, 3) => (lkp strs iS).isSome && (decide (decode cc (pc + 7) = .ok (.invokespecial (ic x), 3)) && decide (decode cc (pc + 10) = .ok (.athrow, 1)))
      | _ => false))
    | _ => true)
  | _ => true
theorem thrOK_of {M : mT} {cs : cdT} {ic : Nat → Nat} {strs : List (Nat × String)} (h1 : M.cd = lk2 cs) (hh : M.m.hh = []) (hcl : ∀ k x, M.cp.cls k = some (.inr x) → Jvm.Cond.classLink M.m.y.cls k (exN x) ∈ lw_tbl ∧ Jvm.Cond.initialized (exN x) ∈ lw_tbl ∧ thrW M.m.y.cls (ic x) x) (hst : ∀ q ∈ strs, Jvm.Cond.stringRef M.m.y.cls q.1 q.2 ∈ lw_tbl) (h : allI cs (thC M.m.cc M.cp.cls ic strs) = true) : thrOK M := by
  intro pc x ⟨k, n, t, hc, hk⟩
  refine ⟨hh, ?_⟩
  rw [h1] at hc
  have hq := allI_at h hc
  unfold thC at hq
  dsimp only at hq
  rw [hk] at hq
  simp only [Bool.and_eq_true, decide_eq_true_eq] at hq
  obtain ⟨q1, q2, q3⟩ := hq
  obtain ⟨w1, w2, w3⟩ := hcl k x hk
  split at q3
  · rename_i iS hd
    simp only [Bool.and_eq_true, decide_eq_true_eq] at q3
    obtain ⟨r1, r2, r3⟩ := q3
    obtain ⟨text, ht⟩ := Option.isSome_iff_exists.mp r1
    exact ⟨k, iS, ic x, text, w1, w2, hst _ (lkp_mem ht), w3, q1, q2, Or.inl ⟨hd, r2, r3⟩⟩
  · rename_i iS hd
    simp only [Bool.and_eq_true, decide_eq_true_eq] at q3
    obtain ⟨r1, r2, r3⟩ := q3
    obtain ⟨text, ht⟩ := Option.isSome_iff_exists.mp r1
    exact ⟨k, iS, ic x, text, w1, w2, hst _ (lkp_mem ht), w3, q1, q2, Or.inr ⟨hd, r2, r3⟩⟩
  · cases q3
def rtC (ret : Option FieldType) (_ : Nat) (i : Instr) (_ _ : Nat) : Bool := match i with
  | .areturn => (match ret with
    | some (.object _) => true
    | some (.array _) => true
    | _ => false)
  | .dreturn => decide (ret = some .double)
  | .freturn => decide (ret = some .float)
  | .return_ => decide (ret = none)
  | _ => true
theorem rtOK_of {M : mT} {cs : cdT} (h1 : M.cd = lk2 cs) (h : allI cs (rtC M.m.ret) = true) : ∀ pc i np tg, M.cd pc = some (i, np, tg) → rtOK M i := by
  intro pc i np tg hc
  rw [h1] at hc
  have hq := allI_at h hc
  unfold rtC at hq
  unfold rtOK
  split
  · dsimp only at hq
    split at hq
    · rename_i h9; exact Or.inl ⟨_, h9⟩
    · rename_i h9; exact Or.inr ⟨_, h9⟩
    · cases hq
  · exact of_decide_eq_true hq
  · exact of_decide_eq_true hq
  · exact of_decide_eq_true hq
  · trivial
theorem hndOK_no {M : mT} (h : M.hs = []) (pc : Nat) : hndOK M pc := by
  intro x v hf
  rw [h] at hf
  cases hf
theorem mem_fa {α : Type} {P : α → Prop} {l : List α} (h : ∀ a ∈ l, P a) {a : α} (ha : a ∈ l) : P a := h a ha
theorem fa_nil {α : Type} {P : α → Prop} : ∀ a ∈ ([] : List α), P a := fun _ h => nomatch h
theorem fa_cons {α : Type} {P : α → Prop} {x : α} {l : List α} (h1 : P x) (h2 : ∀ a ∈ l, P a) : ∀ a ∈ x :: l, P a := List.forall_mem_cons.mpr ⟨h1, h2⟩
theorem hsF_mem : ∀ {l : List (Nat × Int32)} {x : Nat} {v : Int32}, hsF l x = some v → (x, v) ∈ l
  | [], x, v, h => by cases h
  | (k, u) :: l, x, v, h => by
    unfold hsF at h
    split at h
    · rename_i e
      have := Nat.eq_of_beq_eq_true e
      cases h
      rw [this]
      exact List.mem_cons_self
    · exact List.mem_cons_of_mem _ (hsF_mem h)
end
section
/-! ===== the classes of the worlds, and every method as its callers see it (by program) ===== -/
theorem clm1 : ∀ w ∈ u_ws RJ4 TJ4 4, w ∈ lw_tbl := (fa_cons (List.mem_append_right _ (List.mem_of_getElem? (i := 230) (by decide +kernel))) (fa_cons (List.mem_append_right _ (List.mem_of_getElem? (i := 232) (by decide +kernel))) (fa_cons (List.mem_append_right _ (List.mem_of_getElem? (i := 234) (by decide +kernel))) (fa_cons (List.mem_append_right _ (List.mem_of_getElem? (i := 236) (by decide +kernel))) fa_nil))))
theorem clOK1 : clOK 1 := by
  intro C T N h
  cases h
  exact ⟨fun w hw => List.mem_filter.mpr ⟨clm1 w hw, List.all_eq_true.mp (show (u_ws RJ4 TJ4 4).all goodWord = true by decide +kernel) w hw⟩, ⟨tyJ4, tyJ4_ok⟩, nmJ4⟩
theorem clm4 : ∀ w ∈ u_ws RX0 TX0 10, w ∈ lw_tbl := (fa_cons (List.mem_append_right _ (List.mem_of_getElem? (i := 91) (by decide +kernel))) (fa_cons (List.mem_append_right _ (List.mem_of_getElem? (i := 93) (by decide +kernel))) (fa_cons (List.mem_append_right _ (List.mem_of_getElem? (i := 95) (by decide +kernel))) (fa_cons (List.mem_append_right _ (List.mem_of_getElem? (i := 97) (by decide +kernel))) (fa_cons (List.mem_append_right _ (List.mem_of_getElem? (i := 99) (by decide +kernel))) (fa_cons (List.mem_append_right _ (List.mem_of_getElem? (i := 101) (by decide +kernel))) (fa_cons (List.mem_append_right _ (List.mem_of_getElem? (i := 103) (by decide +kernel))) (fa_cons (List.mem_append_right _ (List.mem_of_getElem? (i := 105) (by decide +kernel))) (fa_cons (List.mem_append_right _ (List.mem_of_getElem? (i := 107) (by decide +kernel))) (fa_cons (List.mem_append_right _ (List.mem_of_getElem? (i := 109) (by decide +kernel))) fa_nil))))))))))
theorem clOK4 : clOK 4 := by
  intro C T N h
  cases h
  exact ⟨fun w hw => List.mem_filter.mpr ⟨clm4 w hw, List.all_eq_true.mp (show (u_ws RX0 TX0 10).all goodWord = true by decide +kernel) w hw⟩, ⟨tyX0, tyX0_ok⟩, nmX0⟩
theorem clm5 : ∀ w ∈ u_ws RX1 TX1 1, w ∈ lw_tbl := (fa_cons (List.mem_append_right _ (List.mem_of_getElem? (i := 175) (by decide +kernel))) fa_nil)
theorem clOK5 : clOK 5 := by
  intro C T N h
  cases h
  exact ⟨fun w hw => List.mem_filter.mpr ⟨clm5 w hw, List.all_eq_true.mp (show (u_ws RX1 TX1 1).all goodWord = true by decide +kernel) w hw⟩, ⟨tyX1, tyX1_ok⟩, nmX1⟩
theorem clm6 : ∀ w ∈ u_ws RX2 TX2 3, w ∈ lw_tbl := (fa_cons (List.mem_append_right _ (List.mem_of_getElem? (i := 123) (by decide +kernel))) (fa_cons (List.mem_append_right _ (List.mem_of_getElem? (i := 125) (by decide +kernel))) (fa_cons (List.mem_append_right _ (List.mem_of_getElem? (i := 127) (by decide +kernel))) fa_nil)))
theorem clOK6 : clOK 6 := by
  intro C T N h
  cases h
  exact ⟨fun w hw => List.mem_filter.mpr ⟨clm6 w hw, List.all_eq_true.mp (show (u_ws RX2 TX2 3).all goodWord = true by decide +kernel) w hw⟩, ⟨tyX2, tyX2_ok⟩, nmX2⟩
theorem clm7 : ∀ w ∈ u_ws RX4 TX4 7, w ∈ lw_tbl := (fa_cons (List.mem_append_right _ (List.mem_of_getElem? (i := 192) (by decide +kernel))) (fa_cons (List.mem_append_right _ (List.mem_of_getElem? (i := 194) (by decide +kernel))) (fa_cons (List.mem_append_right _ (List.mem_of_getElem? (i := 196) (by decide +kernel))) (fa_cons (List.mem_append_right _ (List.mem_of_getElem? (i := 198) (by decide +kernel))) (fa_cons (List.mem_append_right _ (List.mem_of_getElem? (i := 200) (by decide +kernel))) (fa_cons (List.mem_append_right _ (List.mem_of_getElem? (i := 202) (by decide +kernel))) (fa_cons (List.mem_append_right _ (List.mem_of_getElem? (i := 204) (by decide +kernel))) fa_nil)))))))
theorem clOK7 : clOK 7 := by
  intro C T N h
  cases h
  exact ⟨fun w hw => List.mem_filter.mpr ⟨clm7 w hw, List.all_eq_true.mp (show (u_ws RX4 TX4 7).all goodWord = true by decide +kernel) w hw⟩, ⟨tyX4, tyX4_ok⟩, nmX4⟩
theorem clm8 : ∀ w ∈ u_ws RX5 TX5 2, w ∈ lw_tbl := (fa_cons (List.mem_append_right _ (List.mem_of_getElem? (i := 140) (by decide +kernel))) (fa_cons (List.mem_append_right _ (List.mem_of_getElem? (i := 142) (by decide +kernel))) fa_nil))
theorem clOK8 : clOK 8 := by
  intro C T N h
  cases h
  exact ⟨fun w hw => List.mem_filter.mpr ⟨clm8 w hw, List.all_eq_true.mp (show (u_ws RX5 TX5 2).all goodWord = true by decide +kernel) w hw⟩, ⟨tyX5, tyX5_ok⟩, nmX5⟩
theorem clm9 : ∀ w ∈ u_ws RX6 TX6 4, w ∈ lw_tbl := (fa_cons (List.mem_append_right _ (List.mem_of_getElem? (i := 62) (by decide +kernel))) (fa_cons (List.mem_append_right _ (List.mem_of_getElem? (i := 64) (by decide +kernel))) (fa_cons (List.mem_append_right _ (List.mem_of_getElem? (i := 66) (by decide +kernel))) (fa_cons (List.mem_append_right _ (List.mem_of_getElem? (i := 68) (by decide +kernel))) fa_nil))))
theorem clOK9 : clOK 9 := by
  intro C T N h
  cases h
  exact ⟨fun w hw => List.mem_filter.mpr ⟨clm9 w hw, List.all_eq_true.mp (show (u_ws RX6 TX6 4).all goodWord = true by decide +kernel) w hw⟩, ⟨tyX6, tyX6_ok⟩, nmX6⟩
theorem clm10 : ∀ w ∈ u_ws RX7 TX7 4, w ∈ lw_tbl := (fa_cons (List.mem_append_right _ (List.mem_of_getElem? (i := 158) (by decide +kernel))) (fa_cons (List.mem_append_right _ (List.mem_of_getElem? (i := 160) (by decide +kernel))) (fa_cons (List.mem_append_right _ (List.mem_of_getElem? (i := 162) (by decide +kernel))) (fa_cons (List.mem_append_right _ (List.mem_of_getElem? (i := 164) (by decide +kernel))) fa_nil))))
theorem clOK10 : clOK 10 := by
  intro C T N h
  cases h
  exact ⟨fun w hw => List.mem_filter.mpr ⟨clm10 w hw, List.all_eq_true.mp (show (u_ws RX7 TX7 4).all goodWord = true by decide +kernel) w hw⟩, ⟨tyX7, tyX7_ok⟩, nmX7⟩
theorem clm11 : ∀ w ∈ u_ws RX8 TX8 10, w ∈ lw_tbl := (fa_cons (List.mem_append_right _ (List.mem_of_getElem? (i := 250) (by decide +kernel))) (fa_cons (List.mem_append_right _ (List.mem_of_getElem? (i := 252) (by decide +kernel))) (fa_cons (List.mem_append_right _ (List.mem_of_getElem? (i := 254) (by decide +kernel))) (fa_cons (List.mem_append_right _ (List.mem_of_getElem? (i := 256) (by decide +kernel))) (fa_cons (List.mem_append_right _ (List.mem_of_getElem? (i := 258) (by decide +kernel))) (fa_cons (List.mem_append_right _ (List.mem_of_getElem? (i := 260) (by decide +kernel))) (fa_cons (List.mem_append_right _ (List.mem_of_getElem? (i := 262) (by decide +kernel))) (fa_cons (List.mem_append_right _ (List.mem_of_getElem? (i := 264) (by decide +kernel))) (fa_cons (List.mem_append_right _ (List.mem_of_getElem? (i := 266) (by decide +kernel))) (fa_cons (List.mem_append_right _ (List.mem_of_getElem? (i := 268) (by decide +kernel))) fa_nil))))))))))
theorem clOK11 : clOK 11 := by
  intro C T N h
  cases h
  exact ⟨fun w hw => List.mem_filter.mpr ⟨clm11 w hw, List.all_eq_true.mp (show (u_ws RX8 TX8 10).all goodWord = true by decide +kernel) w hw⟩, ⟨tyX8, tyX8_ok⟩, nmX8⟩
theorem clm12 : ∀ w ∈ u_ws RX9 TX9 19, w ∈ lw_tbl := (fa_cons (List.mem_append_right _ (List.mem_of_getElem? (i := 1459) (by decide +kernel))) (fa_cons (List.mem_append_right _ (List.mem_of_getElem? (i := 1461) (by decide +kernel))) (fa_cons (List.mem_append_right _ (List.mem_of_getElem? (i := 1463) (by decide +kernel))) (fa_cons (List.mem_append_right _ (List.mem_of_getElem? (i := 1465) (by decide +kernel))) (fa_cons (List.mem_append_right _ (List.mem_of_getElem? (i := 1467) (by decide +kernel))) (fa_cons (List.mem_append_right _ (List.mem_of_getElem? (i := 1469) (by decide +kernel))) (fa_cons (List.mem_append_right _ (List.mem_of_getElem? (i := 1471) (by decide +kernel))) (fa_cons (List.mem_append_right _ (List.mem_of_getElem? (i := 1473) (by decide +kernel))) (fa_cons (List.mem_append_right _ (List.mem_of_getElem? (i := 1475) (by decide +kernel))) (fa_cons (List.mem_append_right _ (List.mem_of_getElem? (i := 1477) (by decide +kernel))) (fa_cons (List.mem_append_right _ (List.mem_of_getElem? (i := 1479) (by decide +kernel))) (fa_cons (List.mem_append_right _ (List.mem_of_getElem? (i := 1481) (by decide +kernel))) (fa_cons (List.mem_append_right _ (List.mem_of_getElem? (i := 1483) (by decide +kernel))) (fa_cons (List.mem_append_right _ (List.mem_of_getElem? (i := 1485) (by decide +kernel))) (fa_cons (List.mem_append_right _ (List.mem_of_getElem? (i := 1487) (by decide +kernel))) (fa_cons (List.mem_append_right _ (List.mem_of_getElem? (i := 1489) (by decide +kernel))) (fa_cons (List.mem_append_right _ (List.mem_of_getElem? (i := 1491) (by decide +kernel))) (fa_cons (List.mem_append_right _ (List.mem_of_getElem? (i := 1493) (by decide +kernel))) (fa_cons (List.mem_append_right _ (List.mem_of_getElem? (i := 1495) (by decide +kernel))) fa_nil)))))))))))))))))))
theorem clOK12 : clOK 12 := by
  intro C T N h
  cases h
  exact ⟨fun w hw => List.mem_filter.mpr ⟨clm12 w hw, List.all_eq_true.mp (show (u_ws RX9 TX9 19).all goodWord = true by decide +kernel) w hw⟩, ⟨tyX9, tyX9_ok⟩, nmX9⟩
abbrev m_X0_init : m0T := (yX0_init, cX0_init, 1, none, [], 0)
theorem mo_X0_init : m0OK m_X0_init := ⟨(List.mem_append_right _ (List.mem_of_getElem? (i := 47) (by decide +kernel))), rfl, by decide, (List.mem_append_right _ (List.mem_of_getElem? (i := 2) (by decide +kernel))), ⟨by decide +kernel, by decide +kernel⟩, by decide +kernel⟩
abbrev m_X0_copyFrom : m0T := (yX0_copyFrom, cX0_copyFrom, 2, none, [], 1)
theorem mo_X0_copyFrom : m0OK m_X0_copyFrom := ⟨(List.mem_append_right _ (List.mem_of_getElem? (i := 405) (by decide +kernel))), rfl, by decide, (List.mem_append_right _ (List.mem_of_getElem? (i := 2) (by decide +kernel))), ⟨by decide +kernel, by decide +kernel⟩, by decide +kernel⟩
abbrev m_X0_burnCoal : m0T := (yX0_burnCoal, cX0_burnCoal, 2, none, [], 1)
theorem mo_X0_burnCoal : m0OK m_X0_burnCoal := ⟨(List.mem_append_right _ (List.mem_of_getElem? (i := 504) (by decide +kernel))), rfl, by decide, (List.mem_append_right _ (List.mem_of_getElem? (i := 2) (by decide +kernel))), ⟨by decide +kernel, by decide +kernel⟩, by decide +kernel⟩
abbrev m_X0_refusesPounds : m0T := (yX0_refusesPounds, cX0_refusesPounds, 3, (some (.boolean)), [], 2)
theorem mo_X0_refusesPounds : m0OK m_X0_refusesPounds := ⟨(List.mem_append_right _ (List.mem_of_getElem? (i := 518) (by decide +kernel))), rfl, by decide, (List.mem_append_right _ (List.mem_of_getElem? (i := 2) (by decide +kernel))), ⟨by decide +kernel, by decide +kernel⟩, by decide +kernel⟩
abbrev m_X0_bringBronze : m0T := (yX0_bringBronze, cX0_bringBronze, 2, none, [], 1)
theorem mo_X0_bringBronze : m0OK m_X0_bringBronze := ⟨(List.mem_append_right _ (List.mem_of_getElem? (i := 542) (by decide +kernel))), rfl, by decide, (List.mem_append_right _ (List.mem_of_getElem? (i := 2) (by decide +kernel))), ⟨by decide +kernel, by decide +kernel⟩, by decide +kernel⟩
abbrev m_X0_refusesMould : m0T := (yX0_refusesMould, cX0_refusesMould, 2, (some (.boolean)), [], 1)
theorem mo_X0_refusesMould : m0OK m_X0_refusesMould := ⟨(List.mem_append_right _ (List.mem_of_getElem? (i := 557) (by decide +kernel))), rfl, by decide, (List.mem_append_right _ (List.mem_of_getElem? (i := 2) (by decide +kernel))), ⟨by decide +kernel, by decide +kernel⟩, by decide +kernel⟩
abbrev m_X0_makeMould : m0T := (yX0_makeMould, cX0_makeMould, 4, (some (.int)), [], 2)
theorem mo_X0_makeMould : m0OK m_X0_makeMould := ⟨(List.mem_append_right _ (List.mem_of_getElem? (i := 562) (by decide +kernel))), rfl, by decide, (List.mem_append_right _ (List.mem_of_getElem? (i := 2) (by decide +kernel))), ⟨by decide +kernel, by decide +kernel⟩, by decide +kernel⟩
abbrev m_X0_refusesRack : m0T := (yX0_refusesRack, cX0_refusesRack, 2, (some (.boolean)), [], 1)
theorem mo_X0_refusesRack : m0OK m_X0_refusesRack := ⟨(List.mem_append_right _ (List.mem_of_getElem? (i := 645) (by decide +kernel))), rfl, by decide, (List.mem_append_right _ (List.mem_of_getElem? (i := 2) (by decide +kernel))), ⟨by decide +kernel, by decide +kernel⟩, by decide +kernel⟩
abbrev m_X0_setRack : m0T := (yX0_setRack, cX0_setRack, 3, (some (.int)), [], 1)
theorem mo_X0_setRack : m0OK m_X0_setRack := ⟨(List.mem_append_right _ (List.mem_of_getElem? (i := 650) (by decide +kernel))), rfl, by decide, (List.mem_append_right _ (List.mem_of_getElem? (i := 2) (by decide +kernel))), ⟨by decide +kernel, by decide +kernel⟩, by decide +kernel⟩
abbrev m_X0_refusesStrike : m0T := (yX0_refusesStrike, cX0_refusesStrike, 4, (some (.boolean)), [], 2)
theorem mo_X0_refusesStrike : m0OK m_X0_refusesStrike := ⟨(List.mem_append_right _ (List.mem_of_getElem? (i := 662) (by decide +kernel))), rfl, by decide, (List.mem_append_right _ (List.mem_of_getElem? (i := 2) (by decide +kernel))), ⟨by decide +kernel, by decide +kernel⟩, by decide +kernel⟩
abbrev m_X0_strikeRack : m0T := (yX0_strikeRack, cX0_strikeRack, 3, none, [], 1)
theorem mo_X0_strikeRack : m0OK m_X0_strikeRack := ⟨(List.mem_append_right _ (List.mem_of_getElem? (i := 667) (by decide +kernel))), rfl, by decide, (List.mem_append_right _ (List.mem_of_getElem? (i := 2) (by decide +kernel))), ⟨by decide +kernel, by decide +kernel⟩, by decide +kernel⟩
abbrev m_X0_bellsOn : m0T := (yX0_bellsOn, cX0_bellsOn, 2, (some (.int)), [], 1)
theorem mo_X0_bellsOn : m0OK m_X0_bellsOn := ⟨(List.mem_append_right _ (List.mem_of_getElem? (i := 392) (by decide +kernel))), rfl, by decide, (List.mem_append_right _ (List.mem_of_getElem? (i := 2) (by decide +kernel))), ⟨by decide +kernel, by decide +kernel⟩, by decide +kernel⟩
abbrev m_X0_lossOn : m0T := (yX0_lossOn, cX0_lossOn, 2, (some (.int)), [], 1)
theorem mo_X0_lossOn : m0OK m_X0_lossOn := ⟨(List.mem_append_right _ (List.mem_of_getElem? (i := 685) (by decide +kernel))), rfl, by decide, (List.mem_append_right _ (List.mem_of_getElem? (i := 2) (by decide +kernel))), ⟨by decide +kernel, by decide +kernel⟩, by decide +kernel⟩
abbrev m_X0_hasBoth : m0T := (yX0_hasBoth, cX0_hasBoth, 3, (some (.boolean)), [], 2)
theorem mo_X0_hasBoth : m0OK m_X0_hasBoth := ⟨(List.mem_append_right _ (List.mem_of_getElem? (i := 697) (by decide +kernel))), rfl, by decide, (List.mem_append_right _ (List.mem_of_getElem? (i := 2) (by decide +kernel))), ⟨by decide +kernel, by decide +kernel⟩, by decide +kernel⟩
abbrev m_X0_refusesPour : m0T := (yX0_refusesPour, cX0_refusesPour, 5, (some (.boolean)), [], 3)
theorem mo_X0_refusesPour : m0OK m_X0_refusesPour := ⟨(List.mem_append_right _ (List.mem_of_getElem? (i := 703) (by decide +kernel))), rfl, by decide, (List.mem_append_right _ (List.mem_of_getElem? (i := 2) (by decide +kernel))), ⟨by decide +kernel, by decide +kernel⟩, by decide +kernel⟩
abbrev m_X0_pourMould : m0T := (yX0_pourMould, cX0_pourMould, 5, (some (.int)), [], 2)
theorem mo_X0_pourMould : m0OK m_X0_pourMould := ⟨(List.mem_append_right _ (List.mem_of_getElem? (i := 710) (by decide +kernel))), rfl, by decide, (List.mem_append_right _ (List.mem_of_getElem? (i := 2) (by decide +kernel))), ⟨by decide +kernel, by decide +kernel⟩, by decide +kernel⟩
abbrev m_X0_letHoursGoBy : m0T := (yX0_letHoursGoBy, cX0_letHoursGoBy, 6, (some (.int)), [], 1)
theorem mo_X0_letHoursGoBy : m0OK m_X0_letHoursGoBy := ⟨(List.mem_append_right _ (List.mem_of_getElem? (i := 723) (by decide +kernel))), rfl, by decide, (List.mem_append_right _ (List.mem_of_getElem? (i := 2) (by decide +kernel))), ⟨by decide +kernel, by decide +kernel⟩, by decide +kernel⟩
abbrev m_X0_lossOf : m0T := (yX0_lossOf, cX0_lossOf, 3, (some (.int)), [], 1)
theorem mo_X0_lossOf : m0OK m_X0_lossOf := ⟨(List.mem_append_right _ (List.mem_of_getElem? (i := 728) (by decide +kernel))), rfl, by decide, (List.mem_append_right _ (List.mem_of_getElem? (i := 2) (by decide +kernel))), ⟨by decide +kernel, by decide +kernel⟩, by decide +kernel⟩
abbrev m_X0_cracksToCome : m0T := (yX0_cracksToCome, cX0_cracksToCome, 5, (some (.int)), [], 3)
theorem mo_X0_cracksToCome : m0OK m_X0_cracksToCome := ⟨(List.mem_append_right _ (List.mem_of_getElem? (i := 733) (by decide +kernel))), rfl, by decide, (List.mem_append_right _ (List.mem_of_getElem? (i := 2) (by decide +kernel))), ⟨by decide +kernel, by decide +kernel⟩, by decide +kernel⟩
abbrev m_X0_warmHours : m0T := (yX0_warmHours, cX0_warmHours, 2, (some (.int)), [], 2)
theorem mo_X0_warmHours : m0OK m_X0_warmHours := ⟨(List.mem_append_right _ (List.mem_of_getElem? (i := 736) (by decide +kernel))), rfl, by decide, (List.mem_append_right _ (List.mem_of_getElem? (i := 2) (by decide +kernel))), ⟨by decide +kernel, by decide +kernel⟩, by decide +kernel⟩
abbrev m_X0_cracksAfter : m0T := (yX0_cracksAfter, cX0_cracksAfter, 3, (some (.int)), [], 2)
theorem mo_X0_cracksAfter : m0OK m_X0_cracksAfter := ⟨(List.mem_append_right _ (List.mem_of_getElem? (i := 840) (by decide +kernel))), rfl, by decide, (List.mem_append_right _ (List.mem_of_getElem? (i := 2) (by decide +kernel))), ⟨by decide +kernel, by decide +kernel⟩, by decide +kernel⟩
abbrev m_X0_hoursUntilCold : m0T := (yX0_hoursUntilCold, cX0_hoursUntilCold, 2, (some (.int)), [], 1)
theorem mo_X0_hoursUntilCold : m0OK m_X0_hoursUntilCold := ⟨(List.mem_append_right _ (List.mem_of_getElem? (i := 851) (by decide +kernel))), rfl, by decide, (List.mem_append_right _ (List.mem_of_getElem? (i := 2) (by decide +kernel))), ⟨by decide +kernel, by decide +kernel⟩, by decide +kernel⟩
abbrev m_X0_addCracks : m0T := (yX0_addCracks, cX0_addCracks, 3, none, [], 2)
theorem mo_X0_addCracks : m0OK m_X0_addCracks := ⟨(List.mem_append_right _ (List.mem_of_getElem? (i := 740) (by decide +kernel))), rfl, by decide, (List.mem_append_right _ (List.mem_of_getElem? (i := 2) (by decide +kernel))), ⟨by decide +kernel, by decide +kernel⟩, by decide +kernel⟩
abbrev m_X0_refusesTake : m0T := (yX0_refusesTake, cX0_refusesTake, 4, (some (.boolean)), [], 2)
theorem mo_X0_refusesTake : m0OK m_X0_refusesTake := ⟨(List.mem_append_right _ (List.mem_of_getElem? (i := 752) (by decide +kernel))), rfl, by decide, (List.mem_append_right _ (List.mem_of_getElem? (i := 2) (by decide +kernel))), ⟨by decide +kernel, by decide +kernel⟩, by decide +kernel⟩
abbrev m_X0_takeBell : m0T := (yX0_takeBell, cX0_takeBell, 3, (some (.int)), [], 1)
theorem mo_X0_takeBell : m0OK m_X0_takeBell := ⟨(List.mem_append_right _ (List.mem_of_getElem? (i := 757) (by decide +kernel))), rfl, by decide, (List.mem_append_right _ (List.mem_of_getElem? (i := 2) (by decide +kernel))), ⟨by decide +kernel, by decide +kernel⟩, by decide +kernel⟩
abbrev m_X0_refusesOutsideHall : m0T := (yX0_refusesOutsideHall, cX0_refusesOutsideHall, 4, (some (.boolean)), [], 2)
theorem mo_X0_refusesOutsideHall : m0OK m_X0_refusesOutsideHall := ⟨(List.mem_append_right _ (List.mem_of_getElem? (i := 768) (by decide +kernel))), rfl, by decide, (List.mem_append_right _ (List.mem_of_getElem? (i := 2) (by decide +kernel))), ⟨by decide +kernel, by decide +kernel⟩, by decide +kernel⟩
abbrev m_X0_ringBell : m0T := (yX0_ringBell, cX0_ringBell, 4, (some (.int)), [], 1)
theorem mo_X0_ringBell : m0OK m_X0_ringBell := ⟨(List.mem_append_right _ (List.mem_of_getElem? (i := 773) (by decide +kernel))), rfl, by decide, (List.mem_append_right _ (List.mem_of_getElem? (i := 2) (by decide +kernel))), ⟨by decide +kernel, by decide +kernel⟩, by decide +kernel⟩
abbrev m_X0_refusesFile : m0T := (yX0_refusesFile, cX0_refusesFile, 5, (some (.boolean)), [], 3)
theorem mo_X0_refusesFile : m0OK m_X0_refusesFile := ⟨(List.mem_append_right _ (List.mem_of_getElem? (i := 785) (by decide +kernel))), rfl, by decide, (List.mem_append_right _ (List.mem_of_getElem? (i := 2) (by decide +kernel))), ⟨by decide +kernel, by decide +kernel⟩, by decide +kernel⟩
abbrev m_X0_addMarks : m0T := (yX0_addMarks, cX0_addMarks, 3, none, [], 2)
theorem mo_X0_addMarks : m0OK m_X0_addMarks := ⟨(List.mem_append_right _ (List.mem_of_getElem? (i := 791) (by decide +kernel))), rfl, by decide, (List.mem_append_right _ (List.mem_of_getElem? (i := 2) (by decide +kernel))), ⟨by decide +kernel, by decide +kernel⟩, by decide +kernel⟩
abbrev m_X0_backByRecast : m0T := (yX0_backByRecast, cX0_backByRecast, 3, (some (.int)), [], 1)
theorem mo_X0_backByRecast : m0OK m_X0_backByRecast := ⟨(List.mem_append_right _ (List.mem_of_getElem? (i := 807) (by decide +kernel))), rfl, by decide, (List.mem_append_right _ (List.mem_of_getElem? (i := 2) (by decide +kernel))), ⟨by decide +kernel, by decide +kernel⟩, by decide +kernel⟩
abbrev m_X0_refusesRecast : m0T := (yX0_refusesRecast, cX0_refusesRecast, 3, (some (.boolean)), [], 2)
theorem mo_X0_refusesRecast : m0OK m_X0_refusesRecast := ⟨(List.mem_append_right _ (List.mem_of_getElem? (i := 803) (by decide +kernel))), rfl, by decide, (List.mem_append_right _ (List.mem_of_getElem? (i := 2) (by decide +kernel))), ⟨by decide +kernel, by decide +kernel⟩, by decide +kernel⟩
abbrev m_X0_recastBell : m0T := (yX0_recastBell, cX0_recastBell, 3, (some (.int)), [], 1)
theorem mo_X0_recastBell : m0OK m_X0_recastBell := ⟨(List.mem_append_right _ (List.mem_of_getElem? (i := 813) (by decide +kernel))), rfl, by decide, (List.mem_append_right _ (List.mem_of_getElem? (i := 2) (by decide +kernel))), ⟨by decide +kernel, by decide +kernel⟩, by decide +kernel⟩
abbrev m_X0_noteOf : m0T := (yX0_noteOf, cX0_noteOf, 2, (some (.int)), [], 1)
theorem mo_X0_noteOf : m0OK m_X0_noteOf := ⟨(List.mem_append_right _ (List.mem_of_getElem? (i := 345) (by decide +kernel))), rfl, by decide, (List.mem_append_right _ (List.mem_of_getElem? (i := 2) (by decide +kernel))), ⟨by decide +kernel, by decide +kernel⟩, by decide +kernel⟩
abbrev m_X0_sumOfNotes : m0T := (yX0_sumOfNotes, cX0_sumOfNotes, 3, (some (.int)), [], 0)
theorem mo_X0_sumOfNotes : m0OK m_X0_sumOfNotes := ⟨(List.mem_append_right _ (List.mem_of_getElem? (i := 1401) (by decide +kernel))), rfl, by decide, (List.mem_append_right _ (List.mem_of_getElem? (i := 2) (by decide +kernel))), ⟨by decide +kernel, by decide +kernel⟩, by decide +kernel⟩
abbrev m_X0_bellAtPlace : m0T := (yX0_bellAtPlace, cX0_bellAtPlace, 3, (some (.int)), [], 1)
theorem mo_X0_bellAtPlace : m0OK m_X0_bellAtPlace := ⟨(List.mem_append_right _ (List.mem_of_getElem? (i := 900) (by decide +kernel))), rfl, by decide, (List.mem_append_right _ (List.mem_of_getElem? (i := 2) (by decide +kernel))), ⟨by decide +kernel, by decide +kernel⟩, by decide +kernel⟩
abbrev m_X0_bellsAheadOf : m0T := (yX0_bellsAheadOf, cX0_bellsAheadOf, 5, (some (.int)), [], 1)
theorem mo_X0_bellsAheadOf : m0OK m_X0_bellsAheadOf := ⟨(List.mem_append_right _ (List.mem_of_getElem? (i := 904) (by decide +kernel))), rfl, by decide, (List.mem_append_right _ (List.mem_of_getElem? (i := 2) (by decide +kernel))), ⟨by decide +kernel, by decide +kernel⟩, by decide +kernel⟩
abbrev m_X0_pealBellByBell : m0T := (yX0_pealBellByBell, cX0_pealBellByBell, 3, (some (.int)), [], 1)
theorem mo_X0_pealBellByBell : m0OK m_X0_pealBellByBell := ⟨(List.mem_append_right _ (List.mem_of_getElem? (i := 370) (by decide +kernel))), rfl, by decide, (List.mem_append_right _ (List.mem_of_getElem? (i := 2) (by decide +kernel))), ⟨by decide +kernel, by decide +kernel⟩, by decide +kernel⟩
abbrev m_X0_isHeard : m0T := (yX0_isHeard, cX0_isHeard, 3, (some (.boolean)), [], 1)
theorem mo_X0_isHeard : m0OK m_X0_isHeard := ⟨(List.mem_append_right _ (List.mem_of_getElem? (i := 375) (by decide +kernel))), rfl, by decide, (List.mem_append_right _ (List.mem_of_getElem? (i := 2) (by decide +kernel))), ⟨by decide +kernel, by decide +kernel⟩, by decide +kernel⟩
abbrev m_X0_accountOf : m0T := (yX0_accountOf, cX0_accountOf, 2, (some (.int)), [], 1)
theorem mo_X0_accountOf : m0OK m_X0_accountOf := ⟨(List.mem_append_right _ (List.mem_of_getElem? (i := 1369) (by decide +kernel))), rfl, by decide, (List.mem_append_right _ (List.mem_of_getElem? (i := 2) (by decide +kernel))), ⟨by decide +kernel, by decide +kernel⟩, by decide +kernel⟩
abbrev m_X0_soundInHall : m0T := (yX0_soundInHall, cX0_soundInHall, 3, (some (.int)), [], 0)
theorem mo_X0_soundInHall : m0OK m_X0_soundInHall := ⟨(List.mem_append_right _ (List.mem_of_getElem? (i := 1373) (by decide +kernel))), rfl, by decide, (List.mem_append_right _ (List.mem_of_getElem? (i := 2) (by decide +kernel))), ⟨by decide +kernel, by decide +kernel⟩, by decide +kernel⟩
abbrev m_X0_areNotesAlike : m0T := (yX0_areNotesAlike, cX0_areNotesAlike, 2, (some (.boolean)), [], 0)
theorem mo_X0_areNotesAlike : m0OK m_X0_areNotesAlike := ⟨(List.mem_append_right _ (List.mem_of_getElem? (i := 340) (by decide +kernel))), rfl, by decide, (List.mem_append_right _ (List.mem_of_getElem? (i := 2) (by decide +kernel))), ⟨by decide +kernel, by decide +kernel⟩, by decide +kernel⟩
abbrev m_X0_doesBronzeAddUp : m0T := (yX0_doesBronzeAddUp, cX0_doesBronzeAddUp, 1, (some (.boolean)), [], 0)
theorem mo_X0_doesBronzeAddUp : m0OK m_X0_doesBronzeAddUp := ⟨(List.mem_append_right _ (List.mem_of_getElem? (i := 379) (by decide +kernel))), rfl, by decide, (List.mem_append_right _ (List.mem_of_getElem? (i := 2) (by decide +kernel))), ⟨by decide +kernel, by decide +kernel⟩, by decide +kernel⟩
abbrev m_X0_hasRoomOnRacks : m0T := (yX0_hasRoomOnRacks, cX0_hasRoomOnRacks, 2, (some (.boolean)), [], 0)
theorem mo_X0_hasRoomOnRacks : m0OK m_X0_hasRoomOnRacks := ⟨(List.mem_append_right _ (List.mem_of_getElem? (i := 388) (by decide +kernel))), rfl, by decide, (List.mem_append_right _ (List.mem_of_getElem? (i := 2) (by decide +kernel))), ⟨by decide +kernel, by decide +kernel⟩, by decide +kernel⟩
abbrev m_X1_init : m0T := (yX1_init, cX1_init, 1, none, [], 0)
theorem mo_X1_init : m0OK m_X1_init := ⟨(List.mem_append_right _ (List.mem_of_getElem? (i := 172) (by decide +kernel))), rfl, by decide, (List.mem_append_right _ (List.mem_of_getElem? (i := 8) (by decide +kernel))), ⟨by decide +kernel, by decide +kernel⟩, by decide +kernel⟩
abbrev m_X1_gather : m0T := (yX1_gather, cX1_gather, 4, none, [], 1)
theorem mo_X1_gather : m0OK m_X1_gather := ⟨(List.mem_append_right _ (List.mem_of_getElem? (i := 357) (by decide +kernel))), rfl, by decide, (List.mem_append_right _ (List.mem_of_getElem? (i := 8) (by decide +kernel))), ⟨by decide +kernel, by decide +kernel⟩, by decide +kernel⟩
abbrev m_X1_pealFrom : m0T := (yX1_pealFrom, cX1_pealFrom, 4, (some (.int)), [], 1)
theorem mo_X1_pealFrom : m0OK m_X1_pealFrom := ⟨(List.mem_append_right _ (List.mem_of_getElem? (i := 364) (by decide +kernel))), rfl, by decide, (List.mem_append_right _ (List.mem_of_getElem? (i := 8) (by decide +kernel))), ⟨by decide +kernel, by decide +kernel⟩, by decide +kernel⟩
abbrev m_X1_startOfLongest : m0T := (yX1_startOfLongest, cX1_startOfLongest, 3, (some (.int)), [], 0)
theorem mo_X1_startOfLongest : m0OK m_X1_startOfLongest := ⟨(List.mem_append_right _ (List.mem_of_getElem? (i := 887) (by decide +kernel))), rfl, by decide, (List.mem_append_right _ (List.mem_of_getElem? (i := 8) (by decide +kernel))), ⟨by decide +kernel, by decide +kernel⟩, by decide +kernel⟩
abbrev m_X2_init : m0T := (yX2_init, cX2_init, 1, none, [], 0)
theorem mo_X2_init : m0OK m_X2_init := ⟨(List.mem_append_right _ (List.mem_of_getElem? (i := 116) (by decide +kernel))), rfl, by decide, (List.mem_append_right _ (List.mem_of_getElem? (i := 5) (by decide +kernel))), ⟨by decide +kernel, by decide +kernel⟩, by decide +kernel⟩
abbrev m_X2_size : m0T := (yX2_size, cX2_size, 1, (some (.int)), [], 0)
theorem mo_X2_size : m0OK m_X2_size := ⟨(List.mem_append_right _ (List.mem_of_getElem? (i := 1365) (by decide +kernel))), rfl, by decide, (List.mem_append_right _ (List.mem_of_getElem? (i := 5) (by decide +kernel))), ⟨by decide +kernel, by decide +kernel⟩, by decide +kernel⟩
abbrev m_X2_remember : m0T := (yX2_remember, cX2_remember, 3, none, [], 1)
theorem mo_X2_remember : m0OK m_X2_remember := ⟨(List.mem_append_right _ (List.mem_of_getElem? (i := 497) (by decide +kernel))), rfl, by decide, (List.mem_append_right _ (List.mem_of_getElem? (i := 5) (by decide +kernel))), ⟨by decide +kernel, by decide +kernel⟩, by decide +kernel⟩
abbrev m_X2_goBack : m0T := (yX2_goBack, cX2_goBack, 3, none, [], 1)
theorem mo_X2_goBack : m0OK m_X2_goBack := ⟨(List.mem_append_right _ (List.mem_of_getElem? (i := 1421) (by decide +kernel))), rfl, by decide, (List.mem_append_right _ (List.mem_of_getElem? (i := 5) (by decide +kernel))), ⟨by decide +kernel, by decide +kernel⟩, by decide +kernel⟩
abbrev m_X2_forget : m0T := (yX2_forget, cX2_forget, 1, none, [], 0)
theorem mo_X2_forget : m0OK m_X2_forget := ⟨(List.mem_append_right _ (List.mem_of_getElem? (i := 1433) (by decide +kernel))), rfl, by decide, (List.mem_append_right _ (List.mem_of_getElem? (i := 5) (by decide +kernel))), ⟨by decide +kernel, by decide +kernel⟩, by decide +kernel⟩
abbrev m_X4_init : m0T := (yX4_init, cX4_init, 1, none, [], 0)
theorem mo_X4_init : m0OK m_X4_init := ⟨(List.mem_append_right _ (List.mem_of_getElem? (i := 183) (by decide +kernel))), rfl, by decide, (List.mem_append_right _ (List.mem_of_getElem? (i := 9) (by decide +kernel))), ⟨by decide +kernel, by decide +kernel⟩, by decide +kernel⟩
abbrev m_X4_lookAt : m0T := (yX4_lookAt, cX4_lookAt, 3, none, [], 1)
theorem mo_X4_lookAt : m0OK m_X4_lookAt := ⟨(List.mem_append_right _ (List.mem_of_getElem? (i := 278) (by decide +kernel))), rfl, by decide, (List.mem_append_right _ (List.mem_of_getElem? (i := 9) (by decide +kernel))), ⟨by decide +kernel, by decide +kernel⟩, by decide +kernel⟩
abbrev m_X4_isEnough : m0T := (yX4_isEnough, cX4_isEnough, 3, (some (.boolean)), [], 3)
theorem mo_X4_isEnough : m0OK m_X4_isEnough := ⟨(List.mem_append_right _ (List.mem_of_getElem? (i := 316) (by decide +kernel))), rfl, by decide, (List.mem_append_right _ (List.mem_of_getElem? (i := 9) (by decide +kernel))), ⟨by decide +kernel, by decide +kernel⟩, by decide +kernel⟩
abbrev m_X4_hottest : m0T := (yX4_hottest, cX4_hottest, 8, (some (.int)), [], 0)
theorem mo_X4_hottest : m0OK m_X4_hottest := ⟨(List.mem_append_right _ (List.mem_of_getElem? (i := 324) (by decide +kernel))), rfl, by decide, (List.mem_append_right _ (List.mem_of_getElem? (i := 9) (by decide +kernel))), ⟨by decide +kernel, by decide +kernel⟩, by decide +kernel⟩
abbrev m_X4_hottestBut : m0T := (yX4_hottestBut, cX4_hottestBut, 5, (some (.int)), [], 1)
theorem mo_X4_hottestBut : m0OK m_X4_hottestBut := ⟨(List.mem_append_right _ (List.mem_of_getElem? (i := 328) (by decide +kernel))), rfl, by decide, (List.mem_append_right _ (List.mem_of_getElem? (i := 9) (by decide +kernel))), ⟨by decide +kernel, by decide +kernel⟩, by decide +kernel⟩
abbrev m_X4_best : m0T := (yX4_best, cX4_best, 1, (some (.int)), [], 0)
theorem mo_X4_best : m0OK m_X4_best := ⟨(List.mem_append_right _ (List.mem_of_getElem? (i := 293) (by decide +kernel))), rfl, by decide, (List.mem_append_right _ (List.mem_of_getElem? (i := 9) (by decide +kernel))), ⟨by decide +kernel, by decide +kernel⟩, by decide +kernel⟩
abbrev m_X4_firstOfBest : m0T := (yX4_firstOfBest, cX4_firstOfBest, 3, (some (.int)), [], 0)
theorem mo_X4_firstOfBest : m0OK m_X4_firstOfBest := ⟨(List.mem_append_right _ (List.mem_of_getElem? (i := 915) (by decide +kernel))), rfl, by decide, (List.mem_append_right _ (List.mem_of_getElem? (i := 9) (by decide +kernel))), ⟨by decide +kernel, by decide +kernel⟩, by decide +kernel⟩
abbrev m_X4_weighWhatIsLeft : m0T := (yX4_weighWhatIsLeft, cX4_weighWhatIsLeft, 4, none, [], 0)
theorem mo_X4_weighWhatIsLeft : m0OK m_X4_weighWhatIsLeft := ⟨(List.mem_append_right _ (List.mem_of_getElem? (i := 297) (by decide +kernel))), rfl, by decide, (List.mem_append_right _ (List.mem_of_getElem? (i := 9) (by decide +kernel))), ⟨by decide +kernel, by decide +kernel⟩, by decide +kernel⟩
abbrev m_X4_countBehind : m0T := (yX4_countBehind, cX4_countBehind, 4, none, [], 0)
theorem mo_X4_countBehind : m0OK m_X4_countBehind := ⟨(List.mem_append_right _ (List.mem_of_getElem? (i := 309) (by decide +kernel))), rfl, by decide, (List.mem_append_right _ (List.mem_of_getElem? (i := 9) (by decide +kernel))), ⟨by decide +kernel, by decide +kernel⟩, by decide +kernel⟩
abbrev m_X4_pouredWithNext : m0T := (yX4_pouredWithNext, cX4_pouredWithNext, 4, (some (.int)), [], 2)
theorem mo_X4_pouredWithNext : m0OK m_X4_pouredWithNext := ⟨(List.mem_append_right _ (List.mem_of_getElem? (i := 313) (by decide +kernel))), rfl, by decide, (List.mem_append_right _ (List.mem_of_getElem? (i := 9) (by decide +kernel))), ⟨by decide +kernel, by decide +kernel⟩, by decide +kernel⟩
abbrev m_X5_init : m0T := (yX5_init, cX5_init, 1, none, [], 0)
theorem mo_X5_init : m0OK m_X5_init := ⟨(List.mem_append_right _ (List.mem_of_getElem? (i := 134) (by decide +kernel))), rfl, by decide, (List.mem_append_right _ (List.mem_of_getElem? (i := 6) (by decide +kernel))), ⟨by decide +kernel, by decide +kernel⟩, by decide +kernel⟩
abbrev m_X5_keep : m0T := (yX5_keep, cX5_keep, 3, (some (.boolean)), [], 2)
theorem mo_X5_keep : m0OK m_X5_keep := ⟨(List.mem_append_right _ (List.mem_of_getElem? (i := 522) (by decide +kernel))), rfl, by decide, (List.mem_append_right _ (List.mem_of_getElem? (i := 6) (by decide +kernel))), ⟨by decide +kernel, by decide +kernel⟩, by decide +kernel⟩
abbrev m_X6_init : m0T := (yX6_init, cX6_init, 3, none, [], 2)
theorem mo_X6_init : m0OK m_X6_init := ⟨(List.mem_append_right _ (List.mem_of_getElem? (i := 53) (by decide +kernel))), rfl, by decide, (List.mem_append_right _ (List.mem_of_getElem? (i := 3) (by decide +kernel))), ⟨by decide +kernel, by decide +kernel⟩, by decide +kernel⟩
abbrev m_X6_size : m0T := (yX6_size, cX6_size, 1, (some (.int)), [], 0)
theorem mo_X6_size : m0OK m_X6_size := ⟨(List.mem_append_right _ (List.mem_of_getElem? (i := 282) (by decide +kernel))), rfl, by decide, (List.mem_append_right _ (List.mem_of_getElem? (i := 3) (by decide +kernel))), ⟨by decide +kernel, by decide +kernel⟩, by decide +kernel⟩
abbrev m_X6_has : m0T := (yX6_has, cX6_has, 2, (some (.boolean)), [], 1)
theorem mo_X6_has : m0OK m_X6_has := ⟨(List.mem_append_right _ (List.mem_of_getElem? (i := 605) (by decide +kernel))), rfl, by decide, (List.mem_append_right _ (List.mem_of_getElem? (i := 3) (by decide +kernel))), ⟨by decide +kernel, by decide +kernel⟩, by decide +kernel⟩
abbrev m_X6_get : m0T := (yX6_get, cX6_get, 3, (some (.int)), [], 2)
theorem mo_X6_get : m0OK m_X6_get := ⟨(List.mem_append_right _ (List.mem_of_getElem? (i := 289) (by decide +kernel))), rfl, by decide, (List.mem_append_right _ (List.mem_of_getElem? (i := 3) (by decide +kernel))), ⟨by decide +kernel, by decide +kernel⟩, by decide +kernel⟩
abbrev m_X6_put : m0T := (yX6_put, cX6_put, 4, none, [], 3)
theorem mo_X6_put : m0OK m_X6_put := ⟨(List.mem_append_right _ (List.mem_of_getElem? (i := 570) (by decide +kernel))), rfl, by decide, (List.mem_append_right _ (List.mem_of_getElem? (i := 3) (by decide +kernel))), ⟨by decide +kernel, by decide +kernel⟩, by decide +kernel⟩
abbrev m_X6_raise : m0T := (yX6_raise, cX6_raise, 4, none, [], 3)
theorem mo_X6_raise : m0OK m_X6_raise := ⟨(List.mem_append_right _ (List.mem_of_getElem? (i := 672) (by decide +kernel))), rfl, by decide, (List.mem_append_right _ (List.mem_of_getElem? (i := 3) (by decide +kernel))), ⟨by decide +kernel, by decide +kernel⟩, by decide +kernel⟩
abbrev m_X6_add : m0T := (yX6_add, cX6_add, 2, (some (.int)), [], 0)
theorem mo_X6_add : m0OK m_X6_add := ⟨(List.mem_append_right _ (List.mem_of_getElem? (i := 566) (by decide +kernel))), rfl, by decide, (List.mem_append_right _ (List.mem_of_getElem? (i := 3) (by decide +kernel))), ⟨by decide +kernel, by decide +kernel⟩, by decide +kernel⟩
abbrev m_X6_drop : m0T := (yX6_drop, cX6_drop, 3, none, [], 1)
theorem mo_X6_drop : m0OK m_X6_drop := ⟨(List.mem_append_right _ (List.mem_of_getElem? (i := 622) (by decide +kernel))), rfl, by decide, (List.mem_append_right _ (List.mem_of_getElem? (i := 3) (by decide +kernel))), ⟨by decide +kernel, by decide +kernel⟩, by decide +kernel⟩
abbrev m_X6_clear : m0T := (yX6_clear, cX6_clear, 1, none, [], 0)
theorem mo_X6_clear : m0OK m_X6_clear := ⟨(List.mem_append_right _ (List.mem_of_getElem? (i := 1286) (by decide +kernel))), rfl, by decide, (List.mem_append_right _ (List.mem_of_getElem? (i := 3) (by decide +kernel))), ⟨by decide +kernel, by decide +kernel⟩, by decide +kernel⟩
abbrev m_X6_sumOf : m0T := (yX6_sumOf, cX6_sumOf, 4, (some (.int)), [], 1)
theorem mo_X6_sumOf : m0OK m_X6_sumOf := ⟨(List.mem_append_right _ (List.mem_of_getElem? (i := 383) (by decide +kernel))), rfl, by decide, (List.mem_append_right _ (List.mem_of_getElem? (i := 3) (by decide +kernel))), ⟨by decide +kernel, by decide +kernel⟩, by decide +kernel⟩
abbrev m_X6_countOf : m0T := (yX6_countOf, cX6_countOf, 5, (some (.int)), [], 2)
theorem mo_X6_countOf : m0OK m_X6_countOf := ⟨(List.mem_append_right _ (List.mem_of_getElem? (i := 396) (by decide +kernel))), rfl, by decide, (List.mem_append_right _ (List.mem_of_getElem? (i := 3) (by decide +kernel))), ⟨by decide +kernel, by decide +kernel⟩, by decide +kernel⟩
abbrev m_X6_copyFrom : m0T := (yX6_copyFrom, cX6_copyFrom, 3, none, [], 1)
theorem mo_X6_copyFrom : m0OK m_X6_copyFrom := ⟨(List.mem_append_right _ (List.mem_of_getElem? (i := 409) (by decide +kernel))), rfl, by decide, (List.mem_append_right _ (List.mem_of_getElem? (i := 3) (by decide +kernel))), ⟨by decide +kernel, by decide +kernel⟩, by decide +kernel⟩
abbrev m_X7_init : m0T := (yX7_init, cX7_init, 1, none, [], 0)
theorem mo_X7_init : m0OK m_X7_init := ⟨(List.mem_append_right _ (List.mem_of_getElem? (i := 149) (by decide +kernel))), rfl, by decide, (List.mem_append_right _ (List.mem_of_getElem? (i := 7) (by decide +kernel))), ⟨by decide +kernel, by decide +kernel⟩, by decide +kernel⟩
abbrev m_X7_size : m0T := (yX7_size, cX7_size, 1, (some (.int)), [], 0)
theorem mo_X7_size : m0OK m_X7_size := ⟨(List.mem_append_right _ (List.mem_of_getElem? (i := 1271) (by decide +kernel))), rfl, by decide, (List.mem_append_right _ (List.mem_of_getElem? (i := 7) (by decide +kernel))), ⟨by decide +kernel, by decide +kernel⟩, by decide +kernel⟩
abbrev m_X7_isFull : m0T := (yX7_isFull, cX7_isFull, 1, (some (.boolean)), [], 0)
theorem mo_X7_isFull : m0OK m_X7_isFull := ⟨(List.mem_append_right _ (List.mem_of_getElem? (i := 1246) (by decide +kernel))), rfl, by decide, (List.mem_append_right _ (List.mem_of_getElem? (i := 7) (by decide +kernel))), ⟨by decide +kernel, by decide +kernel⟩, by decide +kernel⟩
abbrev m_X7_add : m0T := (yX7_add, cX7_add, 2, none, [], 1)
theorem mo_X7_add : m0OK m_X7_add := ⟨(List.mem_append_right _ (List.mem_of_getElem? (i := 1266) (by decide +kernel))), rfl, by decide, (List.mem_append_right _ (List.mem_of_getElem? (i := 7) (by decide +kernel))), ⟨by decide +kernel, by decide +kernel⟩, by decide +kernel⟩
abbrev m_X7_empty : m0T := (yX7_empty, cX7_empty, 1, none, [], 0)
theorem mo_X7_empty : m0OK m_X7_empty := ⟨(List.mem_append_right _ (List.mem_of_getElem? (i := 1316) (by decide +kernel))), rfl, by decide, (List.mem_append_right _ (List.mem_of_getElem? (i := 7) (by decide +kernel))), ⟨by decide +kernel, by decide +kernel⟩, by decide +kernel⟩
abbrev m_X7_readOrders : m0T := (yX7_readOrders, cX7_readOrders, 2, (some (.int)), [], 0)
theorem mo_X7_readOrders : m0OK m_X7_readOrders := ⟨(List.mem_append_right _ (List.mem_of_getElem? (i := 1282) (by decide +kernel))), rfl, by decide, (List.mem_append_right _ (List.mem_of_getElem? (i := 7) (by decide +kernel))), ⟨by decide +kernel, by decide +kernel⟩, by decide +kernel⟩
abbrev m_X7_readOrder : m0T := (yX7_readOrder, cX7_readOrder, 2, (some (.boolean)), [], 0)
theorem mo_X7_readOrder : m0OK m_X7_readOrder := ⟨(List.mem_append_right _ (List.mem_of_getElem? (i := 1290) (by decide +kernel))), rfl, by decide, (List.mem_append_right _ (List.mem_of_getElem? (i := 7) (by decide +kernel))), ⟨by decide +kernel, by decide +kernel⟩, by decide +kernel⟩
abbrev m_X7_readPair : m0T := (yX7_readPair, cX7_readPair, 5, (some (.boolean)), [], 3)
theorem mo_X7_readPair : m0OK m_X7_readPair := ⟨(List.mem_append_right _ (List.mem_of_getElem? (i := 1308) (by decide +kernel))), rfl, by decide, (List.mem_append_right _ (List.mem_of_getElem? (i := 7) (by decide +kernel))), ⟨by decide +kernel, by decide +kernel⟩, by decide +kernel⟩
abbrev m_X7_keep : m0T := (yX7_keep, cX7_keep, 5, (some (.boolean)), [], 3)
theorem mo_X7_keep : m0OK m_X7_keep := ⟨(List.mem_append_right _ (List.mem_of_getElem? (i := 1302) (by decide +kernel))), rfl, by decide, (List.mem_append_right _ (List.mem_of_getElem? (i := 7) (by decide +kernel))), ⟨by decide +kernel, by decide +kernel⟩, by decide +kernel⟩
abbrev m_X7_readNumber : m0T := (yX7_readNumber, cX7_readNumber, 5, (some (.int)), [], 1)
theorem mo_X7_readNumber : m0OK m_X7_readNumber := ⟨(List.mem_append_right _ (List.mem_of_getElem? (i := 1298) (by decide +kernel))), rfl, by decide, (List.mem_append_right _ (List.mem_of_getElem? (i := 7) (by decide +kernel))), ⟨by decide +kernel, by decide +kernel⟩, by decide +kernel⟩
abbrev m_X7_skip : m0T := (yX7_skip, cX7_skip, 2, (some (.boolean)), [], 1)
theorem mo_X7_skip : m0OK m_X7_skip := ⟨(List.mem_append_right _ (List.mem_of_getElem? (i := 1312) (by decide +kernel))), rfl, by decide, (List.mem_append_right _ (List.mem_of_getElem? (i := 7) (by decide +kernel))), ⟨by decide +kernel, by decide +kernel⟩, by decide +kernel⟩
abbrev m_X7_next : m0T := (yX7_next, cX7_next, 1, (some (.int)), [], 0)
theorem mo_X7_next : m0OK m_X7_next := ⟨(List.mem_append_right _ (List.mem_of_getElem? (i := 1294) (by decide +kernel))), rfl, by decide, (List.mem_append_right _ (List.mem_of_getElem? (i := 7) (by decide +kernel))), ⟨by decide +kernel, by decide +kernel⟩, by decide +kernel⟩
abbrev m_X8_init : m0T := (yX8_init, cX8_init, 1, none, [], 0)
theorem mo_X8_init : m0OK m_X8_init := ⟨(List.mem_append_right _ (List.mem_of_getElem? (i := 39) (by decide +kernel))), rfl, by decide, (List.mem_append_right _ (List.mem_of_getElem? (i := 1) (by decide +kernel))), ⟨by decide +kernel, by decide +kernel⟩, by decide +kernel⟩
abbrev m_X8_coal : m0T := (yX8_coal, cX8_coal, 2, (some (.int)), [], 1)
theorem mo_X8_coal : m0OK m_X8_coal := ⟨(List.mem_append_right _ (List.mem_of_getElem? (i := 418) (by decide +kernel))), rfl, by decide, (List.mem_append_right _ (List.mem_of_getElem? (i := 1) (by decide +kernel))), ⟨by decide +kernel, by decide +kernel⟩, by decide +kernel⟩
abbrev m_X8_bronze : m0T := (yX8_bronze, cX8_bronze, 2, (some (.int)), [], 1)
theorem mo_X8_bronze : m0OK m_X8_bronze := ⟨(List.mem_append_right _ (List.mem_of_getElem? (i := 513) (by decide +kernel))), rfl, by decide, (List.mem_append_right _ (List.mem_of_getElem? (i := 1) (by decide +kernel))), ⟨by decide +kernel, by decide +kernel⟩, by decide +kernel⟩
abbrev m_X8_mould : m0T := (yX8_mould, cX8_mould, 3, (some (.int)), [], 2)
theorem mo_X8_mould : m0OK m_X8_mould := ⟨(List.mem_append_right _ (List.mem_of_getElem? (i := 549) (by decide +kernel))), rfl, by decide, (List.mem_append_right _ (List.mem_of_getElem? (i := 1) (by decide +kernel))), ⟨by decide +kernel, by decide +kernel⟩, by decide +kernel⟩
abbrev m_X8_smash : m0T := (yX8_smash, cX8_smash, 2, (some (.int)), [], 1)
theorem mo_X8_smash : m0OK m_X8_smash := ⟨(List.mem_append_right _ (List.mem_of_getElem? (i := 601) (by decide +kernel))), rfl, by decide, (List.mem_append_right _ (List.mem_of_getElem? (i := 1) (by decide +kernel))), ⟨by decide +kernel, by decide +kernel⟩, by decide +kernel⟩
abbrev m_X8_mouldOf : m0T := (yX8_mouldOf, cX8_mouldOf, 4, (some (.int)), [], 2)
theorem mo_X8_mouldOf : m0OK m_X8_mouldOf := ⟨(List.mem_append_right _ (List.mem_of_getElem? (i := 629) (by decide +kernel))), rfl, by decide, (List.mem_append_right _ (List.mem_of_getElem? (i := 1) (by decide +kernel))), ⟨by decide +kernel, by decide +kernel⟩, by decide +kernel⟩
abbrev m_X8_rack : m0T := (yX8_rack, cX8_rack, 2, (some (.int)), [], 1)
theorem mo_X8_rack : m0OK m_X8_rack := ⟨(List.mem_append_right _ (List.mem_of_getElem? (i := 640) (by decide +kernel))), rfl, by decide, (List.mem_append_right _ (List.mem_of_getElem? (i := 1) (by decide +kernel))), ⟨by decide +kernel, by decide +kernel⟩, by decide +kernel⟩
abbrev m_X8_strike : m0T := (yX8_strike, cX8_strike, 2, (some (.int)), [], 1)
theorem mo_X8_strike : m0OK m_X8_strike := ⟨(List.mem_append_right _ (List.mem_of_getElem? (i := 657) (by decide +kernel))), rfl, by decide, (List.mem_append_right _ (List.mem_of_getElem? (i := 1) (by decide +kernel))), ⟨by decide +kernel, by decide +kernel⟩, by decide +kernel⟩
abbrev m_X8_rackOf : m0T := (yX8_rackOf, cX8_rackOf, 3, (some (.int)), [], 2)
theorem mo_X8_rackOf : m0OK m_X8_rackOf := ⟨(List.mem_append_right _ (List.mem_of_getElem? (i := 680) (by decide +kernel))), rfl, by decide, (List.mem_append_right _ (List.mem_of_getElem? (i := 1) (by decide +kernel))), ⟨by decide +kernel, by decide +kernel⟩, by decide +kernel⟩
abbrev m_X8_pour : m0T := (yX8_pour, cX8_pour, 3, (some (.int)), [], 2)
theorem mo_X8_pour : m0OK m_X8_pour := ⟨(List.mem_append_right _ (List.mem_of_getElem? (i := 693) (by decide +kernel))), rfl, by decide, (List.mem_append_right _ (List.mem_of_getElem? (i := 1) (by decide +kernel))), ⟨by decide +kernel, by decide +kernel⟩, by decide +kernel⟩
abbrev m_X8_pass : m0T := (yX8_pass, cX8_pass, 2, (some (.int)), [], 1)
theorem mo_X8_pass : m0OK m_X8_pass := ⟨(List.mem_append_right _ (List.mem_of_getElem? (i := 718) (by decide +kernel))), rfl, by decide, (List.mem_append_right _ (List.mem_of_getElem? (i := 1) (by decide +kernel))), ⟨by decide +kernel, by decide +kernel⟩, by decide +kernel⟩
abbrev m_X8_take : m0T := (yX8_take, cX8_take, 2, (some (.int)), [], 1)
theorem mo_X8_take : m0OK m_X8_take := ⟨(List.mem_append_right _ (List.mem_of_getElem? (i := 747) (by decide +kernel))), rfl, by decide, (List.mem_append_right _ (List.mem_of_getElem? (i := 1) (by decide +kernel))), ⟨by decide +kernel, by decide +kernel⟩, by decide +kernel⟩
abbrev m_X8_ring : m0T := (yX8_ring, cX8_ring, 2, (some (.int)), [], 1)
theorem mo_X8_ring : m0OK m_X8_ring := ⟨(List.mem_append_right _ (List.mem_of_getElem? (i := 764) (by decide +kernel))), rfl, by decide, (List.mem_append_right _ (List.mem_of_getElem? (i := 1) (by decide +kernel))), ⟨by decide +kernel, by decide +kernel⟩, by decide +kernel⟩
abbrev m_X8_file : m0T := (yX8_file, cX8_file, 3, (some (.int)), [], 2)
theorem mo_X8_file : m0OK m_X8_file := ⟨(List.mem_append_right _ (List.mem_of_getElem? (i := 780) (by decide +kernel))), rfl, by decide, (List.mem_append_right _ (List.mem_of_getElem? (i := 1) (by decide +kernel))), ⟨by decide +kernel, by decide +kernel⟩, by decide +kernel⟩
abbrev m_X8_recast : m0T := (yX8_recast, cX8_recast, 2, (some (.int)), [], 1)
theorem mo_X8_recast : m0OK m_X8_recast := ⟨(List.mem_append_right _ (List.mem_of_getElem? (i := 799) (by decide +kernel))), rfl, by decide, (List.mem_append_right _ (List.mem_of_getElem? (i := 1) (by decide +kernel))), ⟨by decide +kernel, by decide +kernel⟩, by decide +kernel⟩
abbrev m_X8_bellOf : m0T := (yX8_bellOf, cX8_bellOf, 3, (some (.int)), [], 2)
theorem mo_X8_bellOf : m0OK m_X8_bellOf := ⟨(List.mem_append_right _ (List.mem_of_getElem? (i := 820) (by decide +kernel))), rfl, by decide, (List.mem_append_right _ (List.mem_of_getElem? (i := 1) (by decide +kernel))), ⟨by decide +kernel, by decide +kernel⟩, by decide +kernel⟩
abbrev m_X8_note : m0T := (yX8_note, cX8_note, 3, (some (.int)), [], 2)
theorem mo_X8_note : m0OK m_X8_note := ⟨(List.mem_append_right _ (List.mem_of_getElem? (i := 828) (by decide +kernel))), rfl, by decide, (List.mem_append_right _ (List.mem_of_getElem? (i := 1) (by decide +kernel))), ⟨by decide +kernel, by decide +kernel⟩, by decide +kernel⟩
abbrev m_X8_wouldCrack : m0T := (yX8_wouldCrack, cX8_wouldCrack, 3, (some (.int)), [], 2)
theorem mo_X8_wouldCrack : m0OK m_X8_wouldCrack := ⟨(List.mem_append_right _ (List.mem_of_getElem? (i := 835) (by decide +kernel))), rfl, by decide, (List.mem_append_right _ (List.mem_of_getElem? (i := 1) (by decide +kernel))), ⟨by decide +kernel, by decide +kernel⟩, by decide +kernel⟩
abbrev m_X8_coldIn : m0T := (yX8_coldIn, cX8_coldIn, 2, (some (.int)), [], 1)
theorem mo_X8_coldIn : m0OK m_X8_coldIn := ⟨(List.mem_append_right _ (List.mem_of_getElem? (i := 847) (by decide +kernel))), rfl, by decide, (List.mem_append_right _ (List.mem_of_getElem? (i := 1) (by decide +kernel))), ⟨by decide +kernel, by decide +kernel⟩, by decide +kernel⟩
abbrev m_X8_peal : m0T := (yX8_peal, cX8_peal, 3, (some (.int)), [], 2)
theorem mo_X8_peal : m0OK m_X8_peal := ⟨(List.mem_append_right _ (List.mem_of_getElem? (i := 858) (by decide +kernel))), rfl, by decide, (List.mem_append_right _ (List.mem_of_getElem? (i := 1) (by decide +kernel))), ⟨by decide +kernel, by decide +kernel⟩, by decide +kernel⟩
abbrev m_X8_longest : m0T := (yX8_longest, cX8_longest, 1, (some (.int)), [], 0)
theorem mo_X8_longest : m0OK m_X8_longest := ⟨(List.mem_append_right _ (List.mem_of_getElem? (i := 867) (by decide +kernel))), rfl, by decide, (List.mem_append_right _ (List.mem_of_getElem? (i := 1) (by decide +kernel))), ⟨by decide +kernel, by decide +kernel⟩, by decide +kernel⟩
abbrev m_X8_ranked : m0T := (yX8_ranked, cX8_ranked, 2, (some (.int)), [], 1)
theorem mo_X8_ranked : m0OK m_X8_ranked := ⟨(List.mem_append_right _ (List.mem_of_getElem? (i := 895) (by decide +kernel))), rfl, by decide, (List.mem_append_right _ (List.mem_of_getElem? (i := 1) (by decide +kernel))), ⟨by decide +kernel, by decide +kernel⟩, by decide +kernel⟩
abbrev m_X8_pourable : m0T := (yX8_pourable, cX8_pourable, 2, (some (.int)), [], 1)
theorem mo_X8_pourable : m0OK m_X8_pourable := ⟨(List.mem_append_right _ (List.mem_of_getElem? (i := 274) (by decide +kernel))), rfl, by decide, (List.mem_append_right _ (List.mem_of_getElem? (i := 1) (by decide +kernel))), ⟨by decide +kernel, by decide +kernel⟩, by decide +kernel⟩
abbrev m_X8_first : m0T := (yX8_first, cX8_first, 2, (some (.int)), [], 0)
theorem mo_X8_first : m0OK m_X8_first := ⟨(List.mem_append_right _ (List.mem_of_getElem? (i := 911) (by decide +kernel))), rfl, by decide, (List.mem_append_right _ (List.mem_of_getElem? (i := 1) (by decide +kernel))), ⟨by decide +kernel, by decide +kernel⟩, by decide +kernel⟩
abbrev m_X8_line : m0T := (yX8_line, cX8_line, 2, (some (.int)), [], 1)
theorem mo_X8_line : m0OK m_X8_line := ⟨(List.mem_append_right _ (List.mem_of_getElem? (i := 924) (by decide +kernel))), rfl, by decide, (List.mem_append_right _ (List.mem_of_getElem? (i := 1) (by decide +kernel))), ⟨by decide +kernel, by decide +kernel⟩, by decide +kernel⟩
abbrev m_X8_rackLine : m0T := (yX8_rackLine, cX8_rackLine, 2, (some (.int)), [], 1)
theorem mo_X8_rackLine : m0OK m_X8_rackLine := ⟨(List.mem_append_right _ (List.mem_of_getElem? (i := 1212) (by decide +kernel))), rfl, by decide, (List.mem_append_right _ (List.mem_of_getElem? (i := 1) (by decide +kernel))), ⟨by decide +kernel, by decide +kernel⟩, by decide +kernel⟩
abbrev m_X8_character : m0T := (yX8_character, cX8_character, 2, (some (.char)), [], 1)
theorem mo_X8_character : m0OK m_X8_character := ⟨(List.mem_append_right _ (List.mem_of_getElem? (i := 1223) (by decide +kernel))), rfl, by decide, (List.mem_append_right _ (List.mem_of_getElem? (i := 1) (by decide +kernel))), ⟨by decide +kernel, by decide +kernel⟩, by decide +kernel⟩
abbrev m_X8_append : m0T := (yX8_append, cX8_append, 2, (some (.int)), [], 1)
theorem mo_X8_append : m0OK m_X8_append := ⟨(List.mem_append_right _ (List.mem_of_getElem? (i := 1242) (by decide +kernel))), rfl, by decide, (List.mem_append_right _ (List.mem_of_getElem? (i := 1) (by decide +kernel))), ⟨by decide +kernel, by decide +kernel⟩, by decide +kernel⟩
abbrev m_X8_run : m0T := (yX8_run, cX8_run, 2, (some (.int)), [], 0)
theorem mo_X8_run : m0OK m_X8_run := ⟨(List.mem_append_right _ (List.mem_of_getElem? (i := 1278) (by decide +kernel))), rfl, by decide, (List.mem_append_right _ (List.mem_of_getElem? (i := 1) (by decide +kernel))), ⟨by decide +kernel, by decide +kernel⟩, by decide +kernel⟩
abbrev m_X8_errorPosition : m0T := (yX8_errorPosition, cX8_errorPosition, 1, (some (.int)), [], 0)
theorem mo_X8_errorPosition : m0OK m_X8_errorPosition := ⟨(List.mem_append_right _ (List.mem_of_getElem? (i := 332) (by decide +kernel))), rfl, by decide, (List.mem_append_right _ (List.mem_of_getElem? (i := 1) (by decide +kernel))), ⟨by decide +kernel, by decide +kernel⟩, by decide +kernel⟩
abbrev m_X8_refusal : m0T := (yX8_refusal, cX8_refusal, 2, (some (.int)), [], 1)
theorem mo_X8_refusal : m0OK m_X8_refusal := ⟨(List.mem_append_right _ (List.mem_of_getElem? (i := 1352) (by decide +kernel))), rfl, by decide, (List.mem_append_right _ (List.mem_of_getElem? (i := 1) (by decide +kernel))), ⟨by decide +kernel, by decide +kernel⟩, by decide +kernel⟩
abbrev m_X8_account : m0T := (yX8_account, cX8_account, 2, (some (.int)), [], 1)
theorem mo_X8_account : m0OK m_X8_account := ⟨(List.mem_append_right _ (List.mem_of_getElem? (i := 1360) (by decide +kernel))), rfl, by decide, (List.mem_append_right _ (List.mem_of_getElem? (i := 1) (by decide +kernel))), ⟨by decide +kernel, by decide +kernel⟩, by decide +kernel⟩
abbrev m_X8_isWell : m0T := (yX8_isWell, cX8_isWell, 1, (some (.boolean)), [], 0)
theorem mo_X8_isWell : m0OK m_X8_isWell := ⟨(List.mem_append_right _ (List.mem_of_getElem? (i := 336) (by decide +kernel))), rfl, by decide, (List.mem_append_right _ (List.mem_of_getElem? (i := 1) (by decide +kernel))), ⟨by decide +kernel, by decide +kernel⟩, by decide +kernel⟩
abbrev m_X8_meanNote : m0T := (yX8_meanNote, cX8_meanNote, 2, (some (.double)), [], 0)
theorem mo_X8_meanNote : m0OK m_X8_meanNote := ⟨(List.mem_append_right _ (List.mem_of_getElem? (i := 1394) (by decide +kernel))), rfl, by decide, (List.mem_append_right _ (List.mem_of_getElem? (i := 1) (by decide +kernel))), ⟨by decide +kernel, by decide +kernel⟩, by decide +kernel⟩
abbrev m_X8_soundShare : m0T := (yX8_soundShare, cX8_soundShare, 2, (some (.float)), [], 0)
theorem mo_X8_soundShare : m0OK m_X8_soundShare := ⟨(List.mem_append_right _ (List.mem_of_getElem? (i := 1408) (by decide +kernel))), rfl, by decide, (List.mem_append_right _ (List.mem_of_getElem? (i := 1) (by decide +kernel))), ⟨by decide +kernel, by decide +kernel⟩, by decide +kernel⟩
abbrev m_X8_undo : m0T := (yX8_undo, cX8_undo, 1, (some (.int)), [], 0)
theorem mo_X8_undo : m0OK m_X8_undo := ⟨(List.mem_append_right _ (List.mem_of_getElem? (i := 1416) (by decide +kernel))), rfl, by decide, (List.mem_append_right _ (List.mem_of_getElem? (i := 1) (by decide +kernel))), ⟨by decide +kernel, by decide +kernel⟩, by decide +kernel⟩
abbrev m_X8_save : m0T := (yX8_save, cX8_save, 1, (some (.int)), [], 0)
theorem mo_X8_save : m0OK m_X8_save := ⟨(List.mem_append_right _ (List.mem_of_getElem? (i := 401) (by decide +kernel))), rfl, by decide, (List.mem_append_right _ (List.mem_of_getElem? (i := 1) (by decide +kernel))), ⟨by decide +kernel, by decide +kernel⟩, by decide +kernel⟩
abbrev m_X8_restore : m0T := (yX8_restore, cX8_restore, 1, (some (.int)), [], 0)
theorem mo_X8_restore : m0OK m_X8_restore := ⟨(List.mem_append_right _ (List.mem_of_getElem? (i := 1428) (by decide +kernel))), rfl, by decide, (List.mem_append_right _ (List.mem_of_getElem? (i := 1) (by decide +kernel))), ⟨by decide +kernel, by decide +kernel⟩, by decide +kernel⟩
abbrev m_X8_isWithin : m0T := (yX8_isWithin, cX8_isWithin, 3, (some (.boolean)), [], 3)
theorem mo_X8_isWithin : m0OK m_X8_isWithin := ⟨(List.mem_append_right _ (List.mem_of_getElem? (i := 421) (by decide +kernel))), rfl, by decide, (List.mem_append_right _ (List.mem_of_getElem? (i := 1) (by decide +kernel))), ⟨by decide +kernel, by decide +kernel⟩, by decide +kernel⟩
abbrev m_X8_isMould : m0T := (yX8_isMould, cX8_isMould, 2, (some (.boolean)), [], 2)
theorem mo_X8_isMould : m0OK m_X8_isMould := ⟨(List.mem_append_right _ (List.mem_of_getElem? (i := 552) (by decide +kernel))), rfl, by decide, (List.mem_append_right _ (List.mem_of_getElem? (i := 1) (by decide +kernel))), ⟨by decide +kernel, by decide +kernel⟩, by decide +kernel⟩
abbrev m_X8_poundsFor : m0T := (yX8_poundsFor, cX8_poundsFor, 1, (some (.int)), [], 1)
theorem mo_X8_poundsFor : m0OK m_X8_poundsFor := ⟨(List.mem_append_right _ (List.mem_of_getElem? (i := 303) (by decide +kernel))), rfl, by decide, (List.mem_append_right _ (List.mem_of_getElem? (i := 1) (by decide +kernel))), ⟨by decide +kernel, by decide +kernel⟩, by decide +kernel⟩
abbrev m_X8_heatFor : m0T := (yX8_heatFor, cX8_heatFor, 1, (some (.int)), [], 1)
theorem mo_X8_heatFor : m0OK m_X8_heatFor := ⟨(List.mem_append_right _ (List.mem_of_getElem? (i := 319) (by decide +kernel))), rfl, by decide, (List.mem_append_right _ (List.mem_of_getElem? (i := 1) (by decide +kernel))), ⟨by decide +kernel, by decide +kernel⟩, by decide +kernel⟩
abbrev m_X8_heatAfterPouring : m0T := (yX8_heatAfterPouring, cX8_heatAfterPouring, 2, (some (.int)), [], 2)
theorem mo_X8_heatAfterPouring : m0OK m_X8_heatAfterPouring := ⟨(List.mem_append_right _ (List.mem_of_getElem? (i := 300) (by decide +kernel))), rfl, by decide, (List.mem_append_right _ (List.mem_of_getElem? (i := 1) (by decide +kernel))), ⟨by decide +kernel, by decide +kernel⟩, by decide +kernel⟩
abbrev m_X8_firstNote : m0T := (yX8_firstNote, cX8_firstNote, 1, (some (.int)), [], 1)
theorem mo_X8_firstNote : m0OK m_X8_firstNote := ⟨(List.mem_append_right _ (List.mem_of_getElem? (i := 349) (by decide +kernel))), rfl, by decide, (List.mem_append_right _ (List.mem_of_getElem? (i := 1) (by decide +kernel))), ⟨by decide +kernel, by decide +kernel⟩, by decide +kernel⟩
abbrev m_X8_writeBell : m0T := (yX8_writeBell, cX8_writeBell, 4, none, [], 1)
theorem mo_X8_writeBell : m0OK m_X8_writeBell := ⟨(List.mem_append_right _ (List.mem_of_getElem? (i := 928) (by decide +kernel))), rfl, by decide, (List.mem_append_right _ (List.mem_of_getElem? (i := 1) (by decide +kernel))), ⟨by decide +kernel, by decide +kernel⟩, by decide +kernel⟩
abbrev m_X8_writeRack : m0T := (yX8_writeRack, cX8_writeRack, 3, none, [], 1)
theorem mo_X8_writeRack : m0OK m_X8_writeRack := ⟨(List.mem_append_right _ (List.mem_of_getElem? (i := 1216) (by decide +kernel))), rfl, by decide, (List.mem_append_right _ (List.mem_of_getElem? (i := 1) (by decide +kernel))), ⟨by decide +kernel, by decide +kernel⟩, by decide +kernel⟩
abbrev m_X8_arePealsAlike : m0T := (yX8_arePealsAlike, cX8_arePealsAlike, 2, (some (.boolean)), [], 0)
theorem mo_X8_arePealsAlike : m0OK m_X8_arePealsAlike := ⟨(List.mem_append_right _ (List.mem_of_getElem? (i := 353) (by decide +kernel))), rfl, by decide, (List.mem_append_right _ (List.mem_of_getElem? (i := 1) (by decide +kernel))), ⟨by decide +kernel, by decide +kernel⟩, by decide +kernel⟩
abbrev m_X8_tryOrders : m0T := (yX8_tryOrders, cX8_tryOrders, 6, (some (.object "BellCores$Outcome")), [], 0)
theorem mo_X8_tryOrders : m0OK m_X8_tryOrders := ⟨(List.mem_append_right _ (List.mem_of_getElem? (i := 1321) (by decide +kernel))), rfl, by decide, (List.mem_append_right _ (List.mem_of_getElem? (i := 1) (by decide +kernel))), ⟨by decide +kernel, by decide +kernel⟩, by decide +kernel⟩
abbrev m_X8_judge : m0T := (yX8_judge, cX8_judge, 4, (some (.object "BellCores$Outcome")), [], 3)
theorem mo_X8_judge : m0OK m_X8_judge := ⟨(List.mem_append_right _ (List.mem_of_getElem? (i := 1325) (by decide +kernel))), rfl, by decide, (List.mem_append_right _ (List.mem_of_getElem? (i := 1) (by decide +kernel))), ⟨by decide +kernel, by decide +kernel⟩, by decide +kernel⟩
abbrev m_X8_isPossible : m0T := (yX8_isPossible, cX8_isPossible, 4, (some (.boolean)), [], 3)
theorem mo_X8_isPossible : m0OK m_X8_isPossible := ⟨(List.mem_append_right _ (List.mem_of_getElem? (i := 1329) (by decide +kernel))), rfl, by decide, (List.mem_append_right _ (List.mem_of_getElem? (i := 1) (by decide +kernel))), ⟨by decide +kernel, by decide +kernel⟩, by decide +kernel⟩
abbrev m_X8_isRefused : m0T := (yX8_isRefused, cX8_isRefused, 4, (some (.boolean)), [], 3)
theorem mo_X8_isRefused : m0OK m_X8_isRefused := ⟨(List.mem_append_right _ (List.mem_of_getElem? (i := 1335) (by decide +kernel))), rfl, by decide, (List.mem_append_right _ (List.mem_of_getElem? (i := 1) (by decide +kernel))), ⟨by decide +kernel, by decide +kernel⟩, by decide +kernel⟩
abbrev m_X8_carryOut : m0T := (yX8_carryOut, cX8_carryOut, 4, none, [], 3)
theorem mo_X8_carryOut : m0OK m_X8_carryOut := ⟨(List.mem_append_right _ (List.mem_of_getElem? (i := 1343) (by decide +kernel))), rfl, by decide, (List.mem_append_right _ (List.mem_of_getElem? (i := 1) (by decide +kernel))), ⟨by decide +kernel, by decide +kernel⟩, by decide +kernel⟩
abbrev m_X9_init : m0T := (yX9_init, cX9_init, 1, none, [], 0)
theorem mo_X9_init : m0OK m_X9_init := ⟨(List.mem_append_right _ (List.mem_of_getElem? (i := 1438) (by decide +kernel))), rfl, by decide, (List.mem_append_right _ (List.mem_of_getElem? (i := 14) (by decide +kernel))), ⟨by decide +kernel, by decide +kernel⟩, by decide +kernel⟩
abbrev m_X9_thrown : m0T := (yX9_thrown, cX9_thrown, 1, (some (.int)), [], 0)
theorem mo_X9_thrown : m0OK m_X9_thrown := ⟨(List.mem_append_right _ (List.mem_of_getElem? (i := 1501) (by decide +kernel))), rfl, by decide, (List.mem_append_right _ (List.mem_of_getElem? (i := 14) (by decide +kernel))), ⟨by decide +kernel, by decide +kernel⟩, by decide +kernel⟩
abbrev m_X9_fails : m0T := (yX9_fails, cX9_fails, 2, (some (.boolean)), [], 1)
theorem mo_X9_fails : m0OK m_X9_fails := ⟨(List.mem_append_right _ (List.mem_of_getElem? (i := 1512) (by decide +kernel))), rfl, by decide, (List.mem_append_right _ (List.mem_of_getElem? (i := 14) (by decide +kernel))), ⟨by decide +kernel, by decide +kernel⟩, by decide +kernel⟩
abbrev m_X9_refuses : m0T := (yX9_refuses, cX9_refuses, 3, (some (.int)), [], 2)
theorem mo_X9_refuses : m0OK m_X9_refuses := ⟨(List.mem_append_right _ (List.mem_of_getElem? (i := 1527) (by decide +kernel))), rfl, by decide, (List.mem_append_right _ (List.mem_of_getElem? (i := 14) (by decide +kernel))), ⟨by decide +kernel, by decide +kernel⟩, by decide +kernel⟩
abbrev m_X9_in : m0T := (yX9_in, cX9_in, 3, (some (.boolean)), [], 3)
theorem mo_X9_in : m0OK m_X9_in := ⟨(List.mem_append_right _ (List.mem_of_getElem? (i := 1508) (by decide +kernel))), rfl, by decide, (List.mem_append_right _ (List.mem_of_getElem? (i := 14) (by decide +kernel))), ⟨by decide +kernel, by decide +kernel⟩, by decide +kernel⟩
abbrev m_X9_most : m0T := (yX9_most, cX9_most, 2, (some (.int)), [], 2)
theorem mo_X9_most : m0OK m_X9_most := ⟨(List.mem_append_right _ (List.mem_of_getElem? (i := 1602) (by decide +kernel))), rfl, by decide, (List.mem_append_right _ (List.mem_of_getElem? (i := 14) (by decide +kernel))), ⟨by decide +kernel, by decide +kernel⟩, by decide +kernel⟩
abbrev m_X9_copies : m0T := (yX9_copies, cX9_copies, 5, none, [], 4)
theorem mo_X9_copies : m0OK m_X9_copies := ⟨(List.mem_append_right _ (List.mem_of_getElem? (i := 1519) (by decide +kernel))), rfl, by decide, (List.mem_append_right _ (List.mem_of_getElem? (i := 14) (by decide +kernel))), ⟨by decide +kernel, by decide +kernel⟩, by decide +kernel⟩
abbrev m_X9_keeps : m0T := (yX9_keeps, cX9_keeps, 3, none, [], 1)
theorem mo_X9_keeps : m0OK m_X9_keeps := ⟨(List.mem_append_right _ (List.mem_of_getElem? (i := 1516) (by decide +kernel))), rfl, by decide, (List.mem_append_right _ (List.mem_of_getElem? (i := 14) (by decide +kernel))), ⟨by decide +kernel, by decide +kernel⟩, by decide +kernel⟩
abbrev m_X9_goes : m0T := (yX9_goes, cX9_goes, 6, none, [], 4)
theorem mo_X9_goes : m0OK m_X9_goes := ⟨(List.mem_append_right _ (List.mem_of_getElem? (i := 1547) (by decide +kernel))), rfl, by decide, (List.mem_append_right _ (List.mem_of_getElem? (i := 14) (by decide +kernel))), ⟨by decide +kernel, by decide +kernel⟩, by decide +kernel⟩
abbrev m_X9_coal : m0T := (yX9_coal, cX9_coal, 2, (some (.int)), [], 1)
theorem mo_X9_coal : m0OK m_X9_coal := ⟨(List.mem_append_right _ (List.mem_of_getElem? (i := 1505) (by decide +kernel))), rfl, by decide, (List.mem_append_right _ (List.mem_of_getElem? (i := 14) (by decide +kernel))), ⟨by decide +kernel, by decide +kernel⟩, by decide +kernel⟩
abbrev m_X9_bronze : m0T := (yX9_bronze, cX9_bronze, 2, (some (.int)), [], 1)
theorem mo_X9_bronze : m0OK m_X9_bronze := ⟨(List.mem_append_right _ (List.mem_of_getElem? (i := 1523) (by decide +kernel))), rfl, by decide, (List.mem_append_right _ (List.mem_of_getElem? (i := 14) (by decide +kernel))), ⟨by decide +kernel, by decide +kernel⟩, by decide +kernel⟩
abbrev m_X9_mould : m0T := (yX9_mould, cX9_mould, 3, (some (.int)), [], 2)
theorem mo_X9_mould : m0OK m_X9_mould := ⟨(List.mem_append_right _ (List.mem_of_getElem? (i := 1531) (by decide +kernel))), rfl, by decide, (List.mem_append_right _ (List.mem_of_getElem? (i := 14) (by decide +kernel))), ⟨by decide +kernel, by decide +kernel⟩, by decide +kernel⟩
abbrev m_X9_isMould : m0T := (yX9_isMould, cX9_isMould, 2, (some (.boolean)), [], 1)
theorem mo_X9_isMould : m0OK m_X9_isMould := ⟨(List.mem_append_right _ (List.mem_of_getElem? (i := 1539) (by decide +kernel))), rfl, by decide, (List.mem_append_right _ (List.mem_of_getElem? (i := 14) (by decide +kernel))), ⟨by decide +kernel, by decide +kernel⟩, by decide +kernel⟩
abbrev m_X9_breaks : m0T := (yX9_breaks, cX9_breaks, 2, none, [], 1)
theorem mo_X9_breaks : m0OK m_X9_breaks := ⟨(List.mem_append_right _ (List.mem_of_getElem? (i := 1543) (by decide +kernel))), rfl, by decide, (List.mem_append_right _ (List.mem_of_getElem? (i := 14) (by decide +kernel))), ⟨by decide +kernel, by decide +kernel⟩, by decide +kernel⟩
abbrev m_X9_smash : m0T := (yX9_smash, cX9_smash, 2, (some (.int)), [], 1)
theorem mo_X9_smash : m0OK m_X9_smash := ⟨(List.mem_append_right _ (List.mem_of_getElem? (i := 1535) (by decide +kernel))), rfl, by decide, (List.mem_append_right _ (List.mem_of_getElem? (i := 14) (by decide +kernel))), ⟨by decide +kernel, by decide +kernel⟩, by decide +kernel⟩
abbrev m_X9_core : m0T := (yX9_core, cX9_core, 2, (some (.int)), [], 1)
theorem mo_X9_core : m0OK m_X9_core := ⟨(List.mem_append_right _ (List.mem_of_getElem? (i := 1555) (by decide +kernel))), rfl, by decide, (List.mem_append_right _ (List.mem_of_getElem? (i := 14) (by decide +kernel))), ⟨by decide +kernel, by decide +kernel⟩, by decide +kernel⟩
abbrev m_X9_takes : m0T := (yX9_takes, cX9_takes, 2, (some (.int)), [], 1)
theorem mo_X9_takes : m0OK m_X9_takes := ⟨(List.mem_append_right _ (List.mem_of_getElem? (i := 1559) (by decide +kernel))), rfl, by decide, (List.mem_append_right _ (List.mem_of_getElem? (i := 14) (by decide +kernel))), ⟨by decide +kernel, by decide +kernel⟩, by decide +kernel⟩
abbrev m_X9_needs : m0T := (yX9_needs, cX9_needs, 2, (some (.int)), [], 1)
theorem mo_X9_needs : m0OK m_X9_needs := ⟨(List.mem_append_right _ (List.mem_of_getElem? (i := 1563) (by decide +kernel))), rfl, by decide, (List.mem_append_right _ (List.mem_of_getElem? (i := 14) (by decide +kernel))), ⟨by decide +kernel, by decide +kernel⟩, by decide +kernel⟩
abbrev m_X9_mouldOf : m0T := (yX9_mouldOf, cX9_mouldOf, 3, (some (.int)), [], 2)
theorem mo_X9_mouldOf : m0OK m_X9_mouldOf := ⟨(List.mem_append_right _ (List.mem_of_getElem? (i := 1551) (by decide +kernel))), rfl, by decide, (List.mem_append_right _ (List.mem_of_getElem? (i := 14) (by decide +kernel))), ⟨by decide +kernel, by decide +kernel⟩, by decide +kernel⟩
abbrev m_X9_rack : m0T := (yX9_rack, cX9_rack, 2, (some (.int)), [], 1)
theorem mo_X9_rack : m0OK m_X9_rack := ⟨(List.mem_append_right _ (List.mem_of_getElem? (i := 1567) (by decide +kernel))), rfl, by decide, (List.mem_append_right _ (List.mem_of_getElem? (i := 14) (by decide +kernel))), ⟨by decide +kernel, by decide +kernel⟩, by decide +kernel⟩
abbrev m_X9_isRack : m0T := (yX9_isRack, cX9_isRack, 2, (some (.boolean)), [], 1)
theorem mo_X9_isRack : m0OK m_X9_isRack := ⟨(List.mem_append_right _ (List.mem_of_getElem? (i := 1575) (by decide +kernel))), rfl, by decide, (List.mem_append_right _ (List.mem_of_getElem? (i := 14) (by decide +kernel))), ⟨by decide +kernel, by decide +kernel⟩, by decide +kernel⟩
abbrev m_X9_of : m0T := (yX9_of, cX9_of, 3, (some (.int)), [], 2)
theorem mo_X9_of : m0OK m_X9_of := ⟨(List.mem_append_right _ (List.mem_of_getElem? (i := 1583) (by decide +kernel))), rfl, by decide, (List.mem_append_right _ (List.mem_of_getElem? (i := 14) (by decide +kernel))), ⟨by decide +kernel, by decide +kernel⟩, by decide +kernel⟩
abbrev m_X9_lays : m0T := (yX9_lays, cX9_lays, 4, none, [], 3)
theorem mo_X9_lays : m0OK m_X9_lays := ⟨(List.mem_append_right _ (List.mem_of_getElem? (i := 1587) (by decide +kernel))), rfl, by decide, (List.mem_append_right _ (List.mem_of_getElem? (i := 14) (by decide +kernel))), ⟨by decide +kernel, by decide +kernel⟩, by decide +kernel⟩
abbrev m_X9_bellsOn : m0T := (yX9_bellsOn, cX9_bellsOn, 4, (some (.int)), [], 1)
theorem mo_X9_bellsOn : m0OK m_X9_bellsOn := ⟨(List.mem_append_right _ (List.mem_of_getElem? (i := 1579) (by decide +kernel))), rfl, by decide, (List.mem_append_right _ (List.mem_of_getElem? (i := 14) (by decide +kernel))), ⟨by decide +kernel, by decide +kernel⟩, by decide +kernel⟩
abbrev m_X9_strike : m0T := (yX9_strike, cX9_strike, 3, (some (.int)), [], 1)
theorem mo_X9_strike : m0OK m_X9_strike := ⟨(List.mem_append_right _ (List.mem_of_getElem? (i := 1571) (by decide +kernel))), rfl, by decide, (List.mem_append_right _ (List.mem_of_getElem? (i := 14) (by decide +kernel))), ⟨by decide +kernel, by decide +kernel⟩, by decide +kernel⟩
abbrev m_X9_losing : m0T := (yX9_losing, cX9_losing, 2, (some (.int)), [], 1)
theorem mo_X9_losing : m0OK m_X9_losing := ⟨(List.mem_append_right _ (List.mem_of_getElem? (i := 1595) (by decide +kernel))), rfl, by decide, (List.mem_append_right _ (List.mem_of_getElem? (i := 14) (by decide +kernel))), ⟨by decide +kernel, by decide +kernel⟩, by decide +kernel⟩
abbrev m_X9_rackOf : m0T := (yX9_rackOf, cX9_rackOf, 3, (some (.int)), [], 2)
theorem mo_X9_rackOf : m0OK m_X9_rackOf := ⟨(List.mem_append_right _ (List.mem_of_getElem? (i := 1591) (by decide +kernel))), rfl, by decide, (List.mem_append_right _ (List.mem_of_getElem? (i := 14) (by decide +kernel))), ⟨by decide +kernel, by decide +kernel⟩, by decide +kernel⟩
abbrev m_X9_isBell : m0T := (yX9_isBell, cX9_isBell, 2, (some (.boolean)), [], 1)
theorem mo_X9_isBell : m0OK m_X9_isBell := ⟨(List.mem_append_right _ (List.mem_of_getElem? (i := 1622) (by decide +kernel))), rfl, by decide, (List.mem_append_right _ (List.mem_of_getElem? (i := 14) (by decide +kernel))), ⟨by decide +kernel, by decide +kernel⟩, by decide +kernel⟩
abbrev m_X9_pour : m0T := (yX9_pour, cX9_pour, 4, (some (.int)), [], 2)
theorem mo_X9_pour : m0OK m_X9_pour := ⟨(List.mem_append_right _ (List.mem_of_getElem? (i := 1599) (by decide +kernel))), rfl, by decide, (List.mem_append_right _ (List.mem_of_getElem? (i := 14) (by decide +kernel))), ⟨by decide +kernel, by decide +kernel⟩, by decide +kernel⟩
abbrev m_X9_cools : m0T := (yX9_cools, cX9_cools, 3, (some (.boolean)), [], 1)
theorem mo_X9_cools : m0OK m_X9_cools := ⟨(List.mem_append_right _ (List.mem_of_getElem? (i := 1614) (by decide +kernel))), rfl, by decide, (List.mem_append_right _ (List.mem_of_getElem? (i := 14) (by decide +kernel))), ⟨by decide +kernel, by decide +kernel⟩, by decide +kernel⟩
abbrev m_X9_hour : m0T := (yX9_hour, cX9_hour, 3, (some (.int)), [], 0)
theorem mo_X9_hour : m0OK m_X9_hour := ⟨(List.mem_append_right _ (List.mem_of_getElem? (i := 1610) (by decide +kernel))), rfl, by decide, (List.mem_append_right _ (List.mem_of_getElem? (i := 14) (by decide +kernel))), ⟨by decide +kernel, by decide +kernel⟩, by decide +kernel⟩
abbrev m_X9_pass : m0T := (yX9_pass, cX9_pass, 4, (some (.int)), [], 1)
theorem mo_X9_pass : m0OK m_X9_pass := ⟨(List.mem_append_right _ (List.mem_of_getElem? (i := 1606) (by decide +kernel))), rfl, by decide, (List.mem_append_right _ (List.mem_of_getElem? (i := 14) (by decide +kernel))), ⟨by decide +kernel, by decide +kernel⟩, by decide +kernel⟩
abbrev m_X9_take : m0T := (yX9_take, cX9_take, 3, (some (.int)), [], 1)
theorem mo_X9_take : m0OK m_X9_take := ⟨(List.mem_append_right _ (List.mem_of_getElem? (i := 1618) (by decide +kernel))), rfl, by decide, (List.mem_append_right _ (List.mem_of_getElem? (i := 14) (by decide +kernel))), ⟨by decide +kernel, by decide +kernel⟩, by decide +kernel⟩
abbrev m_X9_noteOf : m0T := (yX9_noteOf, cX9_noteOf, 2, (some (.int)), [], 1)
theorem mo_X9_noteOf : m0OK m_X9_noteOf := ⟨(List.mem_append_right _ (List.mem_of_getElem? (i := 1630) (by decide +kernel))), rfl, by decide, (List.mem_append_right _ (List.mem_of_getElem? (i := 14) (by decide +kernel))), ⟨by decide +kernel, by decide +kernel⟩, by decide +kernel⟩
abbrev m_X9_ring : m0T := (yX9_ring, cX9_ring, 3, (some (.int)), [], 1)
theorem mo_X9_ring : m0OK m_X9_ring := ⟨(List.mem_append_right _ (List.mem_of_getElem? (i := 1626) (by decide +kernel))), rfl, by decide, (List.mem_append_right _ (List.mem_of_getElem? (i := 14) (by decide +kernel))), ⟨by decide +kernel, by decide +kernel⟩, by decide +kernel⟩
abbrev m_X9_refuses3 : m0T := (yX9_refuses3, cX9_refuses3, 3, (some (.int)), [], 2)
theorem mo_X9_refuses3 : m0OK m_X9_refuses3 := ⟨(List.mem_append_right _ (List.mem_of_getElem? (i := 1638) (by decide +kernel))), rfl, by decide, (List.mem_append_right _ (List.mem_of_getElem? (i := 14) (by decide +kernel))), ⟨by decide +kernel, by decide +kernel⟩, by decide +kernel⟩
abbrev m_X9_file : m0T := (yX9_file, cX9_file, 3, (some (.int)), [], 2)
theorem mo_X9_file : m0OK m_X9_file := ⟨(List.mem_append_right _ (List.mem_of_getElem? (i := 1634) (by decide +kernel))), rfl, by decide, (List.mem_append_right _ (List.mem_of_getElem? (i := 14) (by decide +kernel))), ⟨by decide +kernel, by decide +kernel⟩, by decide +kernel⟩
abbrev m_X9_recast : m0T := (yX9_recast, cX9_recast, 4, (some (.int)), [], 1)
theorem mo_X9_recast : m0OK m_X9_recast := ⟨(List.mem_append_right _ (List.mem_of_getElem? (i := 1642) (by decide +kernel))), rfl, by decide, (List.mem_append_right _ (List.mem_of_getElem? (i := 14) (by decide +kernel))), ⟨by decide +kernel, by decide +kernel⟩, by decide +kernel⟩
abbrev m_X9_bellOf : m0T := (yX9_bellOf, cX9_bellOf, 3, (some (.int)), [], 2)
theorem mo_X9_bellOf : m0OK m_X9_bellOf := ⟨(List.mem_append_right _ (List.mem_of_getElem? (i := 1646) (by decide +kernel))), rfl, by decide, (List.mem_append_right _ (List.mem_of_getElem? (i := 14) (by decide +kernel))), ⟨by decide +kernel, by decide +kernel⟩, by decide +kernel⟩
abbrev m_X9_note : m0T := (yX9_note, cX9_note, 3, (some (.int)), [], 2)
theorem mo_X9_note : m0OK m_X9_note := ⟨(List.mem_append_right _ (List.mem_of_getElem? (i := 1650) (by decide +kernel))), rfl, by decide, (List.mem_append_right _ (List.mem_of_getElem? (i := 14) (by decide +kernel))), ⟨by decide +kernel, by decide +kernel⟩, by decide +kernel⟩
abbrev m_X9_hoursOf : m0T := (yX9_hoursOf, cX9_hoursOf, 2, (some (.int)), [], 1)
theorem mo_X9_hoursOf : m0OK m_X9_hoursOf := ⟨(List.mem_append_right _ (List.mem_of_getElem? (i := 1658) (by decide +kernel))), rfl, by decide, (List.mem_append_right _ (List.mem_of_getElem? (i := 14) (by decide +kernel))), ⟨by decide +kernel, by decide +kernel⟩, by decide +kernel⟩
abbrev m_X9_wouldCrack : m0T := (yX9_wouldCrack, cX9_wouldCrack, 5, (some (.int)), [], 2)
theorem mo_X9_wouldCrack : m0OK m_X9_wouldCrack := ⟨(List.mem_append_right _ (List.mem_of_getElem? (i := 1654) (by decide +kernel))), rfl, by decide, (List.mem_append_right _ (List.mem_of_getElem? (i := 14) (by decide +kernel))), ⟨by decide +kernel, by decide +kernel⟩, by decide +kernel⟩
abbrev m_X9_coldIn : m0T := (yX9_coldIn, cX9_coldIn, 2, (some (.int)), [], 1)
theorem mo_X9_coldIn : m0OK m_X9_coldIn := ⟨(List.mem_append_right _ (List.mem_of_getElem? (i := 1662) (by decide +kernel))), rfl, by decide, (List.mem_append_right _ (List.mem_of_getElem? (i := 14) (by decide +kernel))), ⟨by decide +kernel, by decide +kernel⟩, by decide +kernel⟩
abbrev m_X9_step : m0T := (yX9_step, cX9_step, 1, (some (.int)), [], 1)
theorem mo_X9_step : m0OK m_X9_step := ⟨(List.mem_append_right _ (List.mem_of_getElem? (i := 1673) (by decide +kernel))), rfl, by decide, (List.mem_append_right _ (List.mem_of_getElem? (i := 14) (by decide +kernel))), ⟨by decide +kernel, by decide +kernel⟩, by decide +kernel⟩
abbrev m_X9_isHeard : m0T := (yX9_isHeard, cX9_isHeard, 3, (some (.boolean)), [], 1)
theorem mo_X9_isHeard : m0OK m_X9_isHeard := ⟨(List.mem_append_right _ (List.mem_of_getElem? (i := 1677) (by decide +kernel))), rfl, by decide, (List.mem_append_right _ (List.mem_of_getElem? (i := 14) (by decide +kernel))), ⟨by decide +kernel, by decide +kernel⟩, by decide +kernel⟩
abbrev m_X9_pealFrom : m0T := (yX9_pealFrom, cX9_pealFrom, 3, (some (.int)), [], 1)
theorem mo_X9_pealFrom : m0OK m_X9_pealFrom := ⟨(List.mem_append_right _ (List.mem_of_getElem? (i := 1670) (by decide +kernel))), rfl, by decide, (List.mem_append_right _ (List.mem_of_getElem? (i := 14) (by decide +kernel))), ⟨by decide +kernel, by decide +kernel⟩, by decide +kernel⟩
abbrev m_X9_peal : m0T := (yX9_peal, cX9_peal, 3, (some (.int)), [], 2)
theorem mo_X9_peal : m0OK m_X9_peal := ⟨(List.mem_append_right _ (List.mem_of_getElem? (i := 1666) (by decide +kernel))), rfl, by decide, (List.mem_append_right _ (List.mem_of_getElem? (i := 14) (by decide +kernel))), ⟨by decide +kernel, by decide +kernel⟩, by decide +kernel⟩
abbrev m_X9_inHall : m0T := (yX9_inHall, cX9_inHall, 3, (some (.int)), [], 0)
theorem mo_X9_inHall : m0OK m_X9_inHall := ⟨(List.mem_append_right _ (List.mem_of_getElem? (i := 1685) (by decide +kernel))), rfl, by decide, (List.mem_append_right _ (List.mem_of_getElem? (i := 14) (by decide +kernel))), ⟨by decide +kernel, by decide +kernel⟩, by decide +kernel⟩
abbrev m_X9_longest : m0T := (yX9_longest, cX9_longest, 3, (some (.int)), [], 0)
theorem mo_X9_longest : m0OK m_X9_longest := ⟨(List.mem_append_right _ (List.mem_of_getElem? (i := 1681) (by decide +kernel))), rfl, by decide, (List.mem_append_right _ (List.mem_of_getElem? (i := 14) (by decide +kernel))), ⟨by decide +kernel, by decide +kernel⟩, by decide +kernel⟩
abbrev m_X9_ranked : m0T := (yX9_ranked, cX9_ranked, 5, (some (.int)), [], 1)
theorem mo_X9_ranked : m0OK m_X9_ranked := ⟨(List.mem_append_right _ (List.mem_of_getElem? (i := 1689) (by decide +kernel))), rfl, by decide, (List.mem_append_right _ (List.mem_of_getElem? (i := 14) (by decide +kernel))), ⟨by decide +kernel, by decide +kernel⟩, by decide +kernel⟩
abbrev m_X9_pours : m0T := (yX9_pours, cX9_pours, 6, (some (.boolean)), [], 2)
theorem mo_X9_pours : m0OK m_X9_pours := ⟨(List.mem_append_right _ (List.mem_of_getElem? (i := 1701) (by decide +kernel))), rfl, by decide, (List.mem_append_right _ (List.mem_of_getElem? (i := 14) (by decide +kernel))), ⟨by decide +kernel, by decide +kernel⟩, by decide +kernel⟩
abbrev m_X9_many : m0T := (yX9_many, cX9_many, 3, (some (.int)), [], 1)
theorem mo_X9_many : m0OK m_X9_many := ⟨(List.mem_append_right _ (List.mem_of_getElem? (i := 1704) (by decide +kernel))), rfl, by decide, (List.mem_append_right _ (List.mem_of_getElem? (i := 14) (by decide +kernel))), ⟨by decide +kernel, by decide +kernel⟩, by decide +kernel⟩
abbrev m_X9_mostPoured : m0T := (yX9_mostPoured, cX9_mostPoured, 7, (some (.int)), [], 1)
theorem mo_X9_mostPoured : m0OK m_X9_mostPoured := ⟨(List.mem_append_right _ (List.mem_of_getElem? (i := 1697) (by decide +kernel))), rfl, by decide, (List.mem_append_right _ (List.mem_of_getElem? (i := 14) (by decide +kernel))), ⟨by decide +kernel, by decide +kernel⟩, by decide +kernel⟩
abbrev m_X9_hottest : m0T := (yX9_hottest, cX9_hottest, 4, (some (.int)), [], 1)
theorem mo_X9_hottest : m0OK m_X9_hottest := ⟨(List.mem_append_right _ (List.mem_of_getElem? (i := 1712) (by decide +kernel))), rfl, by decide, (List.mem_append_right _ (List.mem_of_getElem? (i := 14) (by decide +kernel))), ⟨by decide +kernel, by decide +kernel⟩, by decide +kernel⟩
abbrev m_X9_byHottest : m0T := (yX9_byHottest, cX9_byHottest, 4, (some (.int)), [], 0)
theorem mo_X9_byHottest : m0OK m_X9_byHottest := ⟨(List.mem_append_right _ (List.mem_of_getElem? (i := 1708) (by decide +kernel))), rfl, by decide, (List.mem_append_right _ (List.mem_of_getElem? (i := 14) (by decide +kernel))), ⟨by decide +kernel, by decide +kernel⟩, by decide +kernel⟩
abbrev m_X9_pourable : m0T := (yX9_pourable, cX9_pourable, 2, (some (.int)), [], 1)
theorem mo_X9_pourable : m0OK m_X9_pourable := ⟨(List.mem_append_right _ (List.mem_of_getElem? (i := 1693) (by decide +kernel))), rfl, by decide, (List.mem_append_right _ (List.mem_of_getElem? (i := 14) (by decide +kernel))), ⟨by decide +kernel, by decide +kernel⟩, by decide +kernel⟩
abbrev m_X9_first : m0T := (yX9_first, cX9_first, 3, (some (.int)), [], 0)
theorem mo_X9_first : m0OK m_X9_first := ⟨(List.mem_append_right _ (List.mem_of_getElem? (i := 1716) (by decide +kernel))), rfl, by decide, (List.mem_append_right _ (List.mem_of_getElem? (i := 14) (by decide +kernel))), ⟨by decide +kernel, by decide +kernel⟩, by decide +kernel⟩
abbrev m_X9_writes : m0T := (yX9_writes, cX9_writes, 2, none, [], 1)
theorem mo_X9_writes : m0OK m_X9_writes := ⟨(List.mem_append_right _ (List.mem_of_getElem? (i := 1728) (by decide +kernel))), rfl, by decide, (List.mem_append_right _ (List.mem_of_getElem? (i := 14) (by decide +kernel))), ⟨by decide +kernel, by decide +kernel⟩, by decide +kernel⟩
abbrev m_X9_writesNumber : m0T := (yX9_writesNumber, cX9_writesNumber, 2, none, [], 1)
theorem mo_X9_writesNumber : m0OK m_X9_writesNumber := ⟨(List.mem_append_right _ (List.mem_of_getElem? (i := 1724) (by decide +kernel))), rfl, by decide, (List.mem_append_right _ (List.mem_of_getElem? (i := 14) (by decide +kernel))), ⟨by decide +kernel, by decide +kernel⟩, by decide +kernel⟩
abbrev m_X9_line : m0T := (yX9_line, cX9_line, 3, (some (.int)), [], 1)
theorem mo_X9_line : m0OK m_X9_line := ⟨(List.mem_append_right _ (List.mem_of_getElem? (i := 1720) (by decide +kernel))), rfl, by decide, (List.mem_append_right _ (List.mem_of_getElem? (i := 14) (by decide +kernel))), ⟨by decide +kernel, by decide +kernel⟩, by decide +kernel⟩
abbrev m_X9_rackLine : m0T := (yX9_rackLine, cX9_rackLine, 3, (some (.int)), [], 1)
theorem mo_X9_rackLine : m0OK m_X9_rackLine := ⟨(List.mem_append_right _ (List.mem_of_getElem? (i := 1732) (by decide +kernel))), rfl, by decide, (List.mem_append_right _ (List.mem_of_getElem? (i := 14) (by decide +kernel))), ⟨by decide +kernel, by decide +kernel⟩, by decide +kernel⟩
abbrev m_X9_character : m0T := (yX9_character, cX9_character, 2, (some (.char)), [], 1)
theorem mo_X9_character : m0OK m_X9_character := ⟨(List.mem_append_right _ (List.mem_of_getElem? (i := 1736) (by decide +kernel))), rfl, by decide, (List.mem_append_right _ (List.mem_of_getElem? (i := 14) (by decide +kernel))), ⟨by decide +kernel, by decide +kernel⟩, by decide +kernel⟩
abbrev m_X9_append : m0T := (yX9_append, cX9_append, 2, (some (.int)), [], 1)
theorem mo_X9_append : m0OK m_X9_append := ⟨(List.mem_append_right _ (List.mem_of_getElem? (i := 1740) (by decide +kernel))), rfl, by decide, (List.mem_append_right _ (List.mem_of_getElem? (i := 14) (by decide +kernel))), ⟨by decide +kernel, by decide +kernel⟩, by decide +kernel⟩
abbrev m_X9_here : m0T := (yX9_here, cX9_here, 1, (some (.int)), [], 0)
theorem mo_X9_here : m0OK m_X9_here := ⟨(List.mem_append_right _ (List.mem_of_getElem? (i := 1756) (by decide +kernel))), rfl, by decide, (List.mem_append_right _ (List.mem_of_getElem? (i := 14) (by decide +kernel))), ⟨by decide +kernel, by decide +kernel⟩, by decide +kernel⟩
abbrev m_X9_skips : m0T := (yX9_skips, cX9_skips, 2, (some (.boolean)), [], 1)
theorem mo_X9_skips : m0OK m_X9_skips := ⟨(List.mem_append_right _ (List.mem_of_getElem? (i := 1760) (by decide +kernel))), rfl, by decide, (List.mem_append_right _ (List.mem_of_getElem? (i := 14) (by decide +kernel))), ⟨by decide +kernel, by decide +kernel⟩, by decide +kernel⟩
abbrev m_X9_figures : m0T := (yX9_figures, cX9_figures, 4, (some (.boolean)), [], 2)
theorem mo_X9_figures : m0OK m_X9_figures := ⟨(List.mem_append_right _ (List.mem_of_getElem? (i := 1764) (by decide +kernel))), rfl, by decide, (List.mem_append_right _ (List.mem_of_getElem? (i := 14) (by decide +kernel))), ⟨by decide +kernel, by decide +kernel⟩, by decide +kernel⟩
abbrev m_X9_orderHere : m0T := (yX9_orderHere, cX9_orderHere, 2, (some (.boolean)), [], 0)
theorem mo_X9_orderHere : m0OK m_X9_orderHere := ⟨(List.mem_append_right _ (List.mem_of_getElem? (i := 1752) (by decide +kernel))), rfl, by decide, (List.mem_append_right _ (List.mem_of_getElem? (i := 14) (by decide +kernel))), ⟨by decide +kernel, by decide +kernel⟩, by decide +kernel⟩
abbrev m_X9_isText : m0T := (yX9_isText, cX9_isText, 1, (some (.boolean)), [], 0)
theorem mo_X9_isText : m0OK m_X9_isText := ⟨(List.mem_append_right _ (List.mem_of_getElem? (i := 1748) (by decide +kernel))), rfl, by decide, (List.mem_append_right _ (List.mem_of_getElem? (i := 14) (by decide +kernel))), ⟨by decide +kernel, by decide +kernel⟩, by decide +kernel⟩
abbrev m_X9_carries : m0T := (yX9_carries, cX9_carries, 2, (some (.int)), [], 1)
theorem mo_X9_carries : m0OK m_X9_carries := ⟨(List.mem_append_right _ (List.mem_of_getElem? (i := 1768) (by decide +kernel))), rfl, by decide, (List.mem_append_right _ (List.mem_of_getElem? (i := 14) (by decide +kernel))), ⟨by decide +kernel, by decide +kernel⟩, by decide +kernel⟩
abbrev m_X9_run : m0T := (yX9_run, cX9_run, 4, (some (.int)), [], 0)
theorem mo_X9_run : m0OK m_X9_run := ⟨(List.mem_append_right _ (List.mem_of_getElem? (i := 1744) (by decide +kernel))), rfl, by decide, (List.mem_append_right _ (List.mem_of_getElem? (i := 14) (by decide +kernel))), ⟨by decide +kernel, by decide +kernel⟩, by decide +kernel⟩
abbrev m_X9_errorPosition : m0T := (yX9_errorPosition, cX9_errorPosition, 1, (some (.int)), [], 0)
theorem mo_X9_errorPosition : m0OK m_X9_errorPosition := ⟨(List.mem_append_right _ (List.mem_of_getElem? (i := 1780) (by decide +kernel))), rfl, by decide, (List.mem_append_right _ (List.mem_of_getElem? (i := 14) (by decide +kernel))), ⟨by decide +kernel, by decide +kernel⟩, by decide +kernel⟩
abbrev m_X9_refusal : m0T := (yX9_refusal, cX9_refusal, 2, (some (.int)), [], 1)
theorem mo_X9_refusal : m0OK m_X9_refusal := ⟨(List.mem_append_right _ (List.mem_of_getElem? (i := 1784) (by decide +kernel))), rfl, by decide, (List.mem_append_right _ (List.mem_of_getElem? (i := 14) (by decide +kernel))), ⟨by decide +kernel, by decide +kernel⟩, by decide +kernel⟩
abbrev m_X9_allOf : m0T := (yX9_allOf, cX9_allOf, 4, (some (.int)), [], 1)
theorem mo_X9_allOf : m0OK m_X9_allOf := ⟨(List.mem_append_right _ (List.mem_of_getElem? (i := 1792) (by decide +kernel))), rfl, by decide, (List.mem_append_right _ (List.mem_of_getElem? (i := 14) (by decide +kernel))), ⟨by decide +kernel, by decide +kernel⟩, by decide +kernel⟩
abbrev m_X9_sound : m0T := (yX9_sound, cX9_sound, 4, (some (.int)), [], 1)
theorem mo_X9_sound : m0OK m_X9_sound := ⟨(List.mem_append_right _ (List.mem_of_getElem? (i := 1796) (by decide +kernel))), rfl, by decide, (List.mem_append_right _ (List.mem_of_getElem? (i := 14) (by decide +kernel))), ⟨by decide +kernel, by decide +kernel⟩, by decide +kernel⟩
abbrev m_X9_account : m0T := (yX9_account, cX9_account, 2, (some (.int)), [], 1)
theorem mo_X9_account : m0OK m_X9_account := ⟨(List.mem_append_right _ (List.mem_of_getElem? (i := 1788) (by decide +kernel))), rfl, by decide, (List.mem_append_right _ (List.mem_of_getElem? (i := 14) (by decide +kernel))), ⟨by decide +kernel, by decide +kernel⟩, by decide +kernel⟩
abbrev m_X9_isWell : m0T := (yX9_isWell, cX9_isWell, 2, (some (.boolean)), [], 0)
theorem mo_X9_isWell : m0OK m_X9_isWell := ⟨(List.mem_append_right _ (List.mem_of_getElem? (i := 1800) (by decide +kernel))), rfl, by decide, (List.mem_append_right _ (List.mem_of_getElem? (i := 14) (by decide +kernel))), ⟨by decide +kernel, by decide +kernel⟩, by decide +kernel⟩
abbrev m_X9_meanNote : m0T := (yX9_meanNote, cX9_meanNote, 3, (some (.double)), [], 0)
theorem mo_X9_meanNote : m0OK m_X9_meanNote := ⟨(List.mem_append_right _ (List.mem_of_getElem? (i := 1804) (by decide +kernel))), rfl, by decide, (List.mem_append_right _ (List.mem_of_getElem? (i := 14) (by decide +kernel))), ⟨by decide +kernel, by decide +kernel⟩, by decide +kernel⟩
abbrev m_X9_soundShare : m0T := (yX9_soundShare, cX9_soundShare, 1, (some (.float)), [], 0)
theorem mo_X9_soundShare : m0OK m_X9_soundShare := ⟨(List.mem_append_right _ (List.mem_of_getElem? (i := 1808) (by decide +kernel))), rfl, by decide, (List.mem_append_right _ (List.mem_of_getElem? (i := 14) (by decide +kernel))), ⟨by decide +kernel, by decide +kernel⟩, by decide +kernel⟩
abbrev m_X9_undo : m0T := (yX9_undo, cX9_undo, 1, (some (.int)), [], 0)
theorem mo_X9_undo : m0OK m_X9_undo := ⟨(List.mem_append_right _ (List.mem_of_getElem? (i := 1812) (by decide +kernel))), rfl, by decide, (List.mem_append_right _ (List.mem_of_getElem? (i := 14) (by decide +kernel))), ⟨by decide +kernel, by decide +kernel⟩, by decide +kernel⟩
abbrev m_X9_save : m0T := (yX9_save, cX9_save, 1, (some (.int)), [], 0)
theorem mo_X9_save : m0OK m_X9_save := ⟨(List.mem_append_right _ (List.mem_of_getElem? (i := 1816) (by decide +kernel))), rfl, by decide, (List.mem_append_right _ (List.mem_of_getElem? (i := 14) (by decide +kernel))), ⟨by decide +kernel, by decide +kernel⟩, by decide +kernel⟩
abbrev m_X9_restore : m0T := (yX9_restore, cX9_restore, 1, (some (.int)), [], 0)
theorem mo_X9_restore : m0OK m_X9_restore := ⟨(List.mem_append_right _ (List.mem_of_getElem? (i := 1820) (by decide +kernel))), rfl, by decide, (List.mem_append_right _ (List.mem_of_getElem? (i := 14) (by decide +kernel))), ⟨by decide +kernel, by decide +kernel⟩, by decide +kernel⟩
abbrev m_J5_init_d00df : m0T := (yJ5_init_d00df, cJ5_init_d00df, 2, none, [], 1)
theorem mo_J5_init_d00df : m0OK m_J5_init_d00df := ⟨(List.mem_append_right _ (List.mem_of_getElem? (i := 214) (by decide +kernel))), rfl, by decide, (List.mem_append_right _ (List.mem_of_getElem? (i := 10) (by decide +kernel))), ⟨by decide +kernel, by decide +kernel⟩, by decide +kernel⟩
abbrev m_J5_length_8abf5 : m0T := (yJ5_length_8abf5, cJ5_length_8abf5, 1, (some (.int)), [], 0)
theorem mo_J5_length_8abf5 : m0OK m_J5_length_8abf5 := ⟨(List.mem_append_right _ (List.mem_of_getElem? (i := 1109) (by decide +kernel))), rfl, by decide, (List.mem_append_right _ (List.mem_of_getElem? (i := 10) (by decide +kernel))), ⟨by decide +kernel, by decide +kernel⟩, by decide +kernel⟩
abbrev m_J5_ensureCapacityInternal_d00df : m0T := (yJ5_ensureCapacityInternal_d00df, cJ5_ensureCapacityInternal_d00df, 3, none, [], 1)
theorem mo_J5_ensureCapacityInternal_d00df : m0OK m_J5_ensureCapacityInternal_d00df := ⟨(List.mem_append_right _ (List.mem_of_getElem? (i := 958) (by decide +kernel))), rfl, by decide, (List.mem_append_right _ (List.mem_of_getElem? (i := 10) (by decide +kernel))), ⟨by decide +kernel, by decide +kernel⟩, by decide +kernel⟩
abbrev m_J5_newCapacity_0f7a4 : m0T := (yJ5_newCapacity_0f7a4, cJ5_newCapacity_0f7a4, 6, (some (.int)), [], 1)
theorem mo_J5_newCapacity_0f7a4 : m0OK m_J5_newCapacity_0f7a4 := ⟨(List.mem_append_right _ (List.mem_of_getElem? (i := 962) (by decide +kernel))), rfl, by decide, (List.mem_append_right _ (List.mem_of_getElem? (i := 10) (by decide +kernel))), ⟨by decide +kernel, by decide +kernel⟩, by decide +kernel⟩
abbrev m_J5_setLength_d00df : m0T := (yJ5_setLength_d00df, cJ5_setLength_d00df, 2, none, [], 1)
theorem mo_J5_setLength_d00df : m0OK m_J5_setLength_d00df := ⟨(List.mem_append_right _ (List.mem_of_getElem? (i := 935) (by decide +kernel))), rfl, by decide, (List.mem_append_right _ (List.mem_of_getElem? (i := 10) (by decide +kernel))), ⟨by decide +kernel, by decide +kernel⟩, by decide +kernel⟩
abbrev m_J5_charAt_5068e : m0T := (yJ5_charAt_5068e, cJ5_charAt_5068e, 5, (some (.char)), [], 1)
theorem mo_J5_charAt_5068e : m0OK m_J5_charAt_5068e := ⟨(List.mem_append_right _ (List.mem_of_getElem? (i := 1231) (by decide +kernel))), rfl, by decide, (List.mem_append_right _ (List.mem_of_getElem? (i := 10) (by decide +kernel))), ⟨by decide +kernel, by decide +kernel⟩, by decide +kernel⟩
abbrev m_J5_append_3fe6f : m0T := (yJ5_append_3fe6f, cJ5_append_3fe6f, 2, (some (.object "java/lang/AbstractStringBuilder")), [], 1)
theorem mo_J5_append_3fe6f : m0OK m_J5_append_3fe6f := ⟨(List.mem_append_right _ (List.mem_of_getElem? (i := 1189) (by decide +kernel))), rfl, by decide, (List.mem_append_right _ (List.mem_of_getElem? (i := 10) (by decide +kernel))), ⟨by decide +kernel, by decide +kernel⟩, by decide +kernel⟩
abbrev m_J5_append_c97b9 : m0T := (yJ5_append_c97b9, cJ5_append_c97b9, 4, (some (.object "java/lang/AbstractStringBuilder")), [], 1)
theorem mo_J5_append_c97b9 : m0OK m_J5_append_c97b9 := ⟨(List.mem_append_right _ (List.mem_of_getElem? (i := 1066) (by decide +kernel))), rfl, by decide, (List.mem_append_right _ (List.mem_of_getElem? (i := 10) (by decide +kernel))), ⟨by decide +kernel, by decide +kernel⟩, by decide +kernel⟩
abbrev m_J5_isLatin1_aae02 : m0T := (yJ5_isLatin1_aae02, cJ5_isLatin1_aae02, 1, (some (.boolean)), [], 0)
theorem mo_J5_isLatin1_aae02 : m0OK m_J5_isLatin1_aae02 := ⟨(List.mem_append_right _ (List.mem_of_getElem? (i := 990) (by decide +kernel))), rfl, by decide, (List.mem_append_right _ (List.mem_of_getElem? (i := 10) (by decide +kernel))), ⟨by decide +kernel, by decide +kernel⟩, by decide +kernel⟩
abbrev m_J6_getChars_ba4f3 : m0T := (yJ6_getChars_ba4f3, cJ6_getChars_ba4f3, 7, (some (.int)), [], 3)
theorem mo_J6_getChars_ba4f3 : m0OK m_J6_getChars_ba4f3 := ⟨(List.mem_append_right _ (List.mem_of_getElem? (i := 1072) (by decide +kernel))), rfl, by decide, (List.mem_append_right _ (List.mem_of_getElem? (i := 30) (by decide +kernel))), ⟨by decide +kernel, by decide +kernel⟩, by decide +kernel⟩
abbrev m_J6_stringSize_0f7a4 : m0T := (yJ6_stringSize_0f7a4, cJ6_stringSize_0f7a4, 4, (some (.int)), [], 1)
theorem mo_J6_stringSize_0f7a4 : m0OK m_J6_stringSize_0f7a4 := ⟨(List.mem_append_right _ (List.mem_of_getElem? (i := 1069) (by decide +kernel))), rfl, by decide, (List.mem_append_right _ (List.mem_of_getElem? (i := 30) (by decide +kernel))), ⟨by decide +kernel, by decide +kernel⟩, by decide +kernel⟩
abbrev m_J0_checkIndex_df160 : m0T := (yJ0_checkIndex_df160, cJ0_checkIndex_df160, 2, none, [], 2)
theorem mo_J0_checkIndex_df160 : m0OK m_J0_checkIndex_df160 := ⟨(List.mem_append_right _ (List.mem_of_getElem? (i := 1201) (by decide +kernel))), rfl, by decide, (List.mem_append_right _ (List.mem_of_getElem? (i := 12) (by decide +kernel))), ⟨by decide +kernel, by decide +kernel⟩, by decide +kernel⟩
abbrev m_J4_init_da8c8 : m0T := (yJ4_init_da8c8, cJ4_init_da8c8, 1, none, [], 0)
theorem mo_J4_init_da8c8 : m0OK m_J4_init_da8c8 := ⟨(List.mem_append_right _ (List.mem_of_getElem? (i := 211) (by decide +kernel))), rfl, by decide, (List.mem_append_right _ (List.mem_of_getElem? (i := 11) (by decide +kernel))), ⟨by decide +kernel, by decide +kernel⟩, by decide +kernel⟩
abbrev m_J4_append_cf468 : m0T := (yJ4_append_cf468, cJ4_append_cf468, 2, (some (.object "java/lang/StringBuilder")), [], 1)
theorem mo_J4_append_cf468 : m0OK m_J4_append_cf468 := ⟨(List.mem_append_right _ (List.mem_of_getElem? (i := 1186) (by decide +kernel))), rfl, by decide, (List.mem_append_right _ (List.mem_of_getElem? (i := 11) (by decide +kernel))), ⟨by decide +kernel, by decide +kernel⟩, by decide +kernel⟩
abbrev m_J4_append_bf812 : m0T := (yJ4_append_bf812, cJ4_append_bf812, 2, (some (.object "java/lang/StringBuilder")), [], 1)
theorem mo_J4_append_bf812 : m0OK m_J4_append_bf812 := ⟨(List.mem_append_right _ (List.mem_of_getElem? (i := 1063) (by decide +kernel))), rfl, by decide, (List.mem_append_right _ (List.mem_of_getElem? (i := 11) (by decide +kernel))), ⟨by decide +kernel, by decide +kernel⟩, by decide +kernel⟩
abbrev m_J4_charAt_5068e : m0T := (yJ4_charAt_5068e, cJ4_charAt_5068e, 2, (some (.char)), [], 1)
theorem mo_J4_charAt_5068e : m0OK m_J4_charAt_5068e := ⟨(List.mem_append_right _ (List.mem_of_getElem? (i := 1228) (by decide +kernel))), rfl, by decide, (List.mem_append_right _ (List.mem_of_getElem? (i := 11) (by decide +kernel))), ⟨by decide +kernel, by decide +kernel⟩, by decide +kernel⟩
abbrev m_J4_setLength_d00df : m0T := (yJ4_setLength_d00df, cJ4_setLength_d00df, 2, none, [], 1)
theorem mo_J4_setLength_d00df : m0OK m_J4_setLength_d00df := ⟨(List.mem_append_right _ (List.mem_of_getElem? (i := 932) (by decide +kernel))), rfl, by decide, (List.mem_append_right _ (List.mem_of_getElem? (i := 11) (by decide +kernel))), ⟨by decide +kernel, by decide +kernel⟩, by decide +kernel⟩
abbrev m_J4_length_8abf5 : m0T := (yJ4_length_8abf5, cJ4_length_8abf5, 1, (some (.int)), [], 0)
theorem mo_J4_length_8abf5 : m0OK m_J4_length_8abf5 := ⟨(List.mem_append_right _ (List.mem_of_getElem? (i := 1107) (by decide +kernel))), rfl, by decide, (List.mem_append_right _ (List.mem_of_getElem? (i := 11) (by decide +kernel))), ⟨by decide +kernel, by decide +kernel⟩, by decide +kernel⟩
abbrev m_J1_canEncode_fc78d : m0T := (yJ1_canEncode_fc78d, cJ1_canEncode_fc78d, 1, (some (.boolean)), [], 1)
theorem mo_J1_canEncode_fc78d : m0OK m_J1_canEncode_fc78d := ⟨(List.mem_append_right _ (List.mem_of_getElem? (i := 1192) (by decide +kernel))), rfl, by decide, (List.mem_append_right _ (List.mem_of_getElem? (i := 28) (by decide +kernel))), ⟨by decide +kernel, by decide +kernel⟩, by decide +kernel⟩
abbrev m_J7_copyOf_9075b : m0T := (yJ7_copyOf_9075b, cJ7_copyOf_9075b, 3, (some (.array .byte)), [], 2)
theorem mo_J7_copyOf_9075b : m0OK m_J7_copyOf_9075b := ⟨(List.mem_append_right _ (List.mem_of_getElem? (i := 974) (by decide +kernel))), rfl, by decide, (List.mem_append_right _ (List.mem_of_getElem? (i := 25) (by decide +kernel))), ⟨by decide +kernel, by decide +kernel⟩, by decide +kernel⟩
abbrev m_J8_newLength_cabcc : m0T := (yJ8_newLength_cabcc, cJ8_newLength_cabcc, 4, (some (.int)), [], 3)
theorem mo_J8_newLength_cabcc : m0OK m_J8_newLength_cabcc := ⟨(List.mem_append_right _ (List.mem_of_getElem? (i := 965) (by decide +kernel))), rfl, by decide, (List.mem_append_right _ (List.mem_of_getElem? (i := 24) (by decide +kernel))), ⟨by decide +kernel, by decide +kernel⟩, by decide +kernel⟩
abbrev m_J3_checkIndex_8e157 : m0T := (yJ3_checkIndex_8e157, cJ3_checkIndex_8e157, 3, (some (.int)), [], 3)
theorem mo_J3_checkIndex_8e157 : m0OK m_J3_checkIndex_8e157 := ⟨(List.mem_append_right _ (List.mem_of_getElem? (i := 1204) (by decide +kernel))), rfl, by decide, (List.mem_append_right _ (List.mem_of_getElem? (i := 27) (by decide +kernel))), ⟨by decide +kernel, by decide +kernel⟩, by decide +kernel⟩
abbrev m_L_coal : m0T := (yL_coal, cL_coal, 4, (some (.int)), [(0, 9, 12, 13)], 3)
theorem mo_L_coal : m0OK m_L_coal := ⟨(List.mem_append_right _ (List.mem_of_getElem? (i := 413) (by decide +kernel))), rfl, by decide, (List.mem_append_right _ (List.mem_of_getElem? (i := 0) (by decide +kernel))), ⟨by decide +kernel, by decide +kernel⟩, by decide +kernel⟩
abbrev m_L_bronze : m0T := (yL_bronze, cL_bronze, 4, (some (.int)), [(0, 9, 12, 13), (0, 9, 15, 18)], 3)
theorem mo_L_bronze : m0OK m_L_bronze := ⟨(List.mem_append_right _ (List.mem_of_getElem? (i := 508) (by decide +kernel))), rfl, by decide, (List.mem_append_right _ (List.mem_of_getElem? (i := 0) (by decide +kernel))), ⟨by decide +kernel, by decide +kernel⟩, by decide +kernel⟩
abbrev m_L_mould : m0T := (yL_mould, cL_mould, 5, (some (.int)), [(0, 10, 13, 13), (0, 10, 17, 18)], 4)
theorem mo_L_mould : m0OK m_L_mould := ⟨(List.mem_append_right _ (List.mem_of_getElem? (i := 545) (by decide +kernel))), rfl, by decide, (List.mem_append_right _ (List.mem_of_getElem? (i := 0) (by decide +kernel))), ⟨by decide +kernel, by decide +kernel⟩, by decide +kernel⟩
abbrev m_L_smash : m0T := (yL_smash, cL_smash, 4, (some (.int)), [(0, 9, 12, 27)], 3)
theorem mo_L_smash : m0OK m_L_smash := ⟨(List.mem_append_right _ (List.mem_of_getElem? (i := 573) (by decide +kernel))), rfl, by decide, (List.mem_append_right _ (List.mem_of_getElem? (i := 0) (by decide +kernel))), ⟨by decide +kernel, by decide +kernel⟩, by decide +kernel⟩
abbrev m_L_mouldOf : m0T := (yL_mouldOf, cL_mouldOf, 5, (some (.int)), [(0, 10, 13, 27), (0, 10, 17, 13)], 4)
theorem mo_L_mouldOf : m0OK m_L_mouldOf := ⟨(List.mem_append_right _ (List.mem_of_getElem? (i := 625) (by decide +kernel))), rfl, by decide, (List.mem_append_right _ (List.mem_of_getElem? (i := 0) (by decide +kernel))), ⟨by decide +kernel, by decide +kernel⟩, by decide +kernel⟩
abbrev m_L_rack : m0T := (yL_rack, cL_rack, 4, (some (.int)), [(0, 9, 12, 13), (0, 9, 15, 18)], 3)
theorem mo_L_rack : m0OK m_L_rack := ⟨(List.mem_append_right _ (List.mem_of_getElem? (i := 636) (by decide +kernel))), rfl, by decide, (List.mem_append_right _ (List.mem_of_getElem? (i := 0) (by decide +kernel))), ⟨by decide +kernel, by decide +kernel⟩, by decide +kernel⟩
abbrev m_L_strike : m0T := (yL_strike, cL_strike, 4, (some (.int)), [(0, 9, 12, 27), (0, 9, 15, 18)], 3)
theorem mo_L_strike : m0OK m_L_strike := ⟨(List.mem_append_right _ (List.mem_of_getElem? (i := 653) (by decide +kernel))), rfl, by decide, (List.mem_append_right _ (List.mem_of_getElem? (i := 0) (by decide +kernel))), ⟨by decide +kernel, by decide +kernel⟩, by decide +kernel⟩
abbrev m_L_rackOf : m0T := (yL_rackOf, cL_rackOf, 5, (some (.int)), [(0, 10, 13, 27), (0, 10, 17, 13)], 4)
theorem mo_L_rackOf : m0OK m_L_rackOf := ⟨(List.mem_append_right _ (List.mem_of_getElem? (i := 676) (by decide +kernel))), rfl, by decide, (List.mem_append_right _ (List.mem_of_getElem? (i := 0) (by decide +kernel))), ⟨by decide +kernel, by decide +kernel⟩, by decide +kernel⟩
abbrev m_L_pour : m0T := (yL_pour, cL_pour, 5, (some (.int)), [(0, 10, 13, 27), (0, 10, 17, 18)], 4)
theorem mo_L_pour : m0OK m_L_pour := ⟨(List.mem_append_right _ (List.mem_of_getElem? (i := 689) (by decide +kernel))), rfl, by decide, (List.mem_append_right _ (List.mem_of_getElem? (i := 0) (by decide +kernel))), ⟨by decide +kernel, by decide +kernel⟩, by decide +kernel⟩
abbrev m_L_pass : m0T := (yL_pass, cL_pass, 4, (some (.int)), [(0, 9, 12, 13)], 3)
theorem mo_L_pass : m0OK m_L_pass := ⟨(List.mem_append_right _ (List.mem_of_getElem? (i := 714) (by decide +kernel))), rfl, by decide, (List.mem_append_right _ (List.mem_of_getElem? (i := 0) (by decide +kernel))), ⟨by decide +kernel, by decide +kernel⟩, by decide +kernel⟩
abbrev m_L_take : m0T := (yL_take, cL_take, 4, (some (.int)), [(0, 9, 12, 27), (0, 9, 15, 18)], 3)
theorem mo_L_take : m0OK m_L_take := ⟨(List.mem_append_right _ (List.mem_of_getElem? (i := 743) (by decide +kernel))), rfl, by decide, (List.mem_append_right _ (List.mem_of_getElem? (i := 0) (by decide +kernel))), ⟨by decide +kernel, by decide +kernel⟩, by decide +kernel⟩
abbrev m_L_ring : m0T := (yL_ring, cL_ring, 4, (some (.int)), [(0, 9, 12, 27), (0, 9, 15, 18)], 3)
theorem mo_L_ring : m0OK m_L_ring := ⟨(List.mem_append_right _ (List.mem_of_getElem? (i := 760) (by decide +kernel))), rfl, by decide, (List.mem_append_right _ (List.mem_of_getElem? (i := 0) (by decide +kernel))), ⟨by decide +kernel, by decide +kernel⟩, by decide +kernel⟩
abbrev m_L_file : m0T := (yL_file, cL_file, 5, (some (.int)), [(0, 10, 13, 27), (0, 10, 17, 13), (0, 10, 21, 18)], 4)
theorem mo_L_file : m0OK m_L_file := ⟨(List.mem_append_right _ (List.mem_of_getElem? (i := 776) (by decide +kernel))), rfl, by decide, (List.mem_append_right _ (List.mem_of_getElem? (i := 0) (by decide +kernel))), ⟨by decide +kernel, by decide +kernel⟩, by decide +kernel⟩
abbrev m_L_recast : m0T := (yL_recast, cL_recast, 4, (some (.int)), [(0, 9, 12, 27), (0, 9, 15, 18)], 3)
theorem mo_L_recast : m0OK m_L_recast := ⟨(List.mem_append_right _ (List.mem_of_getElem? (i := 795) (by decide +kernel))), rfl, by decide, (List.mem_append_right _ (List.mem_of_getElem? (i := 0) (by decide +kernel))), ⟨by decide +kernel, by decide +kernel⟩, by decide +kernel⟩
abbrev m_L_bellOf : m0T := (yL_bellOf, cL_bellOf, 5, (some (.int)), [(0, 10, 13, 27), (0, 10, 17, 13)], 4)
theorem mo_L_bellOf : m0OK m_L_bellOf := ⟨(List.mem_append_right _ (List.mem_of_getElem? (i := 816) (by decide +kernel))), rfl, by decide, (List.mem_append_right _ (List.mem_of_getElem? (i := 0) (by decide +kernel))), ⟨by decide +kernel, by decide +kernel⟩, by decide +kernel⟩
abbrev m_L_note : m0T := (yL_note, cL_note, 5, (some (.int)), [(0, 10, 13, 27)], 4)
theorem mo_L_note : m0OK m_L_note := ⟨(List.mem_append_right _ (List.mem_of_getElem? (i := 824) (by decide +kernel))), rfl, by decide, (List.mem_append_right _ (List.mem_of_getElem? (i := 0) (by decide +kernel))), ⟨by decide +kernel, by decide +kernel⟩, by decide +kernel⟩
abbrev m_L_wouldCrack : m0T := (yL_wouldCrack, cL_wouldCrack, 5, (some (.int)), [(0, 10, 13, 27), (0, 10, 17, 13)], 4)
theorem mo_L_wouldCrack : m0OK m_L_wouldCrack := ⟨(List.mem_append_right _ (List.mem_of_getElem? (i := 831) (by decide +kernel))), rfl, by decide, (List.mem_append_right _ (List.mem_of_getElem? (i := 0) (by decide +kernel))), ⟨by decide +kernel, by decide +kernel⟩, by decide +kernel⟩
abbrev m_L_coldIn : m0T := (yL_coldIn, cL_coldIn, 4, (some (.int)), [(0, 9, 12, 27)], 3)
theorem mo_L_coldIn : m0OK m_L_coldIn := ⟨(List.mem_append_right _ (List.mem_of_getElem? (i := 843) (by decide +kernel))), rfl, by decide, (List.mem_append_right _ (List.mem_of_getElem? (i := 0) (by decide +kernel))), ⟨by decide +kernel, by decide +kernel⟩, by decide +kernel⟩
abbrev m_L_peal : m0T := (yL_peal, cL_peal, 5, (some (.int)), [(0, 10, 13, 13)], 4)
theorem mo_L_peal : m0OK m_L_peal := ⟨(List.mem_append_right _ (List.mem_of_getElem? (i := 854) (by decide +kernel))), rfl, by decide, (List.mem_append_right _ (List.mem_of_getElem? (i := 0) (by decide +kernel))), ⟨by decide +kernel, by decide +kernel⟩, by decide +kernel⟩
abbrev m_L_longest : m0T := (yL_longest, cL_longest, 3, (some (.int)), [(0, 8, 11, 79)], 2)
theorem mo_L_longest : m0OK m_L_longest := ⟨(List.mem_append_right _ (List.mem_of_getElem? (i := 862) (by decide +kernel))), rfl, by decide, (List.mem_append_right _ (List.mem_of_getElem? (i := 0) (by decide +kernel))), ⟨by decide +kernel, by decide +kernel⟩, by decide +kernel⟩
abbrev m_L_ranked : m0T := (yL_ranked, cL_ranked, 4, (some (.int)), [(0, 9, 12, 79)], 3)
theorem mo_L_ranked : m0OK m_L_ranked := ⟨(List.mem_append_right _ (List.mem_of_getElem? (i := 891) (by decide +kernel))), rfl, by decide, (List.mem_append_right _ (List.mem_of_getElem? (i := 0) (by decide +kernel))), ⟨by decide +kernel, by decide +kernel⟩, by decide +kernel⟩
abbrev m_L_first : m0T := (yL_first, cL_first, 3, (some (.int)), [(0, 8, 11, 79)], 2)
theorem mo_L_first : m0OK m_L_first := ⟨(List.mem_append_right _ (List.mem_of_getElem? (i := 907) (by decide +kernel))), rfl, by decide, (List.mem_append_right _ (List.mem_of_getElem? (i := 0) (by decide +kernel))), ⟨by decide +kernel, by decide +kernel⟩, by decide +kernel⟩
abbrev m_L_line : m0T := (yL_line, cL_line, 4, (some (.int)), [(0, 9, 12, 27)], 3)
theorem mo_L_line : m0OK m_L_line := ⟨(List.mem_append_right _ (List.mem_of_getElem? (i := 920) (by decide +kernel))), rfl, by decide, (List.mem_append_right _ (List.mem_of_getElem? (i := 0) (by decide +kernel))), ⟨by decide +kernel, by decide +kernel⟩, by decide +kernel⟩
abbrev m_L_rackLine : m0T := (yL_rackLine, cL_rackLine, 4, (some (.int)), [(0, 9, 12, 27)], 3)
theorem mo_L_rackLine : m0OK m_L_rackLine := ⟨(List.mem_append_right _ (List.mem_of_getElem? (i := 1208) (by decide +kernel))), rfl, by decide, (List.mem_append_right _ (List.mem_of_getElem? (i := 0) (by decide +kernel))), ⟨by decide +kernel, by decide +kernel⟩, by decide +kernel⟩
abbrev m_L_character : m0T := (yL_character, cL_character, 4, (some (.int)), [(0, 9, 12, 27)], 3)
theorem mo_L_character : m0OK m_L_character := ⟨(List.mem_append_right _ (List.mem_of_getElem? (i := 1219) (by decide +kernel))), rfl, by decide, (List.mem_append_right _ (List.mem_of_getElem? (i := 0) (by decide +kernel))), ⟨by decide +kernel, by decide +kernel⟩, by decide +kernel⟩
abbrev m_L_append : m0T := (yL_append, cL_append, 4, (some (.int)), [(0, 9, 12, 101)], 3)
theorem mo_L_append : m0OK m_L_append := ⟨(List.mem_append_right _ (List.mem_of_getElem? (i := 1237) (by decide +kernel))), rfl, by decide, (List.mem_append_right _ (List.mem_of_getElem? (i := 0) (by decide +kernel))), ⟨by decide +kernel, by decide +kernel⟩, by decide +kernel⟩
abbrev m_L_run : m0T := (yL_run, cL_run, 3, (some (.int)), [(0, 8, 11, 13), (0, 8, 14, 18)], 2)
theorem mo_L_run : m0OK m_L_run := ⟨(List.mem_append_right _ (List.mem_of_getElem? (i := 1274) (by decide +kernel))), rfl, by decide, (List.mem_append_right _ (List.mem_of_getElem? (i := 0) (by decide +kernel))), ⟨by decide +kernel, by decide +kernel⟩, by decide +kernel⟩
abbrev m_L_refusal : m0T := (yL_refusal, cL_refusal, 4, (some (.int)), [(0, 9, 12, 79)], 3)
theorem mo_L_refusal : m0OK m_L_refusal := ⟨(List.mem_append_right _ (List.mem_of_getElem? (i := 1348) (by decide +kernel))), rfl, by decide, (List.mem_append_right _ (List.mem_of_getElem? (i := 0) (by decide +kernel))), ⟨by decide +kernel, by decide +kernel⟩, by decide +kernel⟩
abbrev m_L_account : m0T := (yL_account, cL_account, 4, (some (.int)), [(0, 9, 12, 13)], 3)
theorem mo_L_account : m0OK m_L_account := ⟨(List.mem_append_right _ (List.mem_of_getElem? (i := 1356) (by decide +kernel))), rfl, by decide, (List.mem_append_right _ (List.mem_of_getElem? (i := 0) (by decide +kernel))), ⟨by decide +kernel, by decide +kernel⟩, by decide +kernel⟩
abbrev m_L_meanNote : m0T := (yL_meanNote, cL_meanNote, 3, (some (.int)), [(0, 7, 10, 117)], 2)
theorem mo_L_meanNote : m0OK m_L_meanNote := ⟨(List.mem_append_right _ (List.mem_of_getElem? (i := 1376) (by decide +kernel))), rfl, by decide, (List.mem_append_right _ (List.mem_of_getElem? (i := 0) (by decide +kernel))), ⟨by decide +kernel, by decide +kernel⟩, by decide +kernel⟩
abbrev m_L_soundShare : m0T := (yL_soundShare, cL_soundShare, 3, (some (.int)), [(0, 8, 11, 117)], 2)
theorem mo_L_soundShare : m0OK m_L_soundShare := ⟨(List.mem_append_right _ (List.mem_of_getElem? (i := 1404) (by decide +kernel))), rfl, by decide, (List.mem_append_right _ (List.mem_of_getElem? (i := 0) (by decide +kernel))), ⟨by decide +kernel, by decide +kernel⟩, by decide +kernel⟩
abbrev m_L_undo : m0T := (yL_undo, cL_undo, 3, (some (.int)), [(0, 8, 11, 101)], 2)
theorem mo_L_undo : m0OK m_L_undo := ⟨(List.mem_append_right _ (List.mem_of_getElem? (i := 1412) (by decide +kernel))), rfl, by decide, (List.mem_append_right _ (List.mem_of_getElem? (i := 0) (by decide +kernel))), ⟨by decide +kernel, by decide +kernel⟩, by decide +kernel⟩
abbrev m_L_restore : m0T := (yL_restore, cL_restore, 3, (some (.int)), [(0, 8, 11, 101)], 2)
theorem mo_L_restore : m0OK m_L_restore := ⟨(List.mem_append_right _ (List.mem_of_getElem? (i := 1424) (by decide +kernel))), rfl, by decide, (List.mem_append_right _ (List.mem_of_getElem? (i := 0) (by decide +kernel))), ⟨by decide +kernel, by decide +kernel⟩, by decide +kernel⟩
end
section
/-! ===== the pools (by program) ===== -/
abbrev mNone : m0T := (⟨"", "", ""⟩, ⟨#[]⟩, 0, none, [], 0)
def flX8 : List (Nat × (Nat × Nat × FieldType × Bool)) := [(10, (11, 0, .object "BellCores$Foundry", true)), (16, (11, 1, .object "BellCores$Foundry", true)), (22, (11, 2, .object "BellCores$History", true)), (29, (11, 3, .object "BellCores$Refusal", true)), (36, (11, 4, .object "BellCores$Text", true)), (43, (11, 5, .object "BellCores$Hall", true)), (50, (11, 6, .object "BellCores$Pouring", true)), (57, (11, 7, .object "java/lang/StringBuilder", true)), (61, (11, 8, .object "BellCores$Foundry", false)), (64, (11, 9, .int, false)), (87, (4, 3, .int, false)), (104, (4, 4, .int, false)), (123, (4, 0, .object "BellCores$Table", true)), (170, (4, 1, .object "BellCores$Table", true)), (210, (4, 2, .object "BellCores$Table", true)), (358, (10, 0, .object "BellCores$Table", true)), (361, (8, 0, .int, false)), (366, (8, 1, .int, false))]
def slX8 : List (Nat × Value) := [(342, .retAddr 4), (350, .retAddr 5), (431, .retAddr 3)]
def mlX8 : List (Nat × (Nat × m0T × Nat)) := [(1, (5, mNone, 0)), (9, (4, m_X0_init, 0)), (21, (4, m_X2_init, 0)), (28, (4, m_X5_init, 0)), (35, (4, m_X7_init, 0)), (42, (4, m_X1_init, 0)), (49, (4, m_X4_init, 0)), (56, (2, m_J4_init_da8c8, 0)), (68, (1, m_X8_isWithin, 0)), (79, (0, m_X2_remember, 6)), (83, (0, m_X0_burnCoal, 4)), (92, (0, m_X0_refusesPounds, 4)), (101, (0, m_X0_bringBronze, 4)), (107, (1, m_X8_isMould, 0)), (113, (0, m_X0_refusesMould, 4)), (119, (0, m_X0_makeMould, 4)), (127, (0, m_X6_has, 9)), (138, (0, m_X6_drop, 9)), (141, (0, m_X6_size, 9)), (145, (0, m_X6_get, 9)), (148, (1, m_X8_poundsFor, 0)), (152, (1, m_X8_heatFor, 0)), (155, (1, m_X8_firstNote, 0)), (162, (0, m_X0_refusesRack, 4)), (167, (0, m_X0_setRack, 4)), (175, (0, m_X0_refusesStrike, 4)), (180, (0, m_X0_strikeRack, 4)), (183, (0, m_X0_bellsOn, 4)), (186, (0, m_X0_lossOn, 4)), (191, (0, m_X0_hasBoth, 4)), (196, (0, m_X0_refusesPour, 4)), (202, (0, m_X0_pourMould, 4)), (207, (0, m_X0_letHoursGoBy, 4)), (215, (0, m_X0_refusesTake, 4)), (220, (0, m_X0_takeBell, 4)), (223, (0, m_X0_refusesOutsideHall, 4)), (228, (0, m_X0_ringBell, 4)), (233, (0, m_X0_refusesFile, 4)), (238, (0, m_X0_addMarks, 4)), (242, (0, m_X0_noteOf, 4)), (245, (0, m_X0_refusesRecast, 4)), (250, (0, m_X0_recastBell, 4)), (257, (0, m_X0_cracksAfter, 4)), (260, (0, m_X0_hoursUntilCold, 4)), (265, (0, m_X0_pealBellByBell, 4)), (268, (0, m_X1_gather, 5)), (271, (0, m_X1_pealFrom, 5)), (279, (0, m_X1_startOfLongest, 5)), (284, (0, m_X0_bellAtPlace, 4)), (287, (0, m_X4_lookAt, 7)), (290, (0, m_X4_best, 7)), (293, (0, m_X4_hottest, 7)), (296, (0, m_X4_firstOfBest, 7)), (301, (0, m_X8_writeBell, 11)), (304, (0, m_J4_length_8abf5, 1)), (307, (0, m_X8_writeRack, 11)), (312, (0, m_J4_charAt_5068e, 1)), (316, (0, m_X7_isFull, 10)), (325, (0, m_X7_add, 10)), (329, (0, m_X7_size, 10)), (330, (0, m_X7_readOrders, 10)), (333, (0, m_X7_empty, 10)), (338, (0, m_X8_tryOrders, 11)), (355, (0, m_X0_copyFrom, 4)), (371, (0, m_X2_size, 6)), (372, (0, m_X0_accountOf, 4)), (375, (0, m_X0_areNotesAlike, 4)), (378, (0, m_X8_arePealsAlike, 11)), (381, (0, m_X0_doesBronzeAddUp, 4)), (384, (0, m_X0_hasRoomOnRacks, 4)), (387, (0, m_X8_pourable, 11)), (396, (0, m_X0_sumOfNotes, 4)), (399, (0, m_X6_countOf, 9)), (404, (0, m_X2_goBack, 6)), (409, (0, m_X2_forget, 6)), (412, (6, mNone, 0)), (417, (0, m_J4_setLength_d00df, 1)), (420, (0, m_J4_append_bf812, 1)), (424, (0, m_J4_append_cf468, 1)), (427, (0, m_X8_judge, 11)), (434, (0, m_X8_carryOut, 11)), (438, (0, m_X8_isPossible, 11)), (441, (0, m_X8_isRefused, 11))]
def clX8 : List (Nat × (Nat ⊕ Nat)) := [(7, .inl 4), (19, .inl 6), (26, .inl 8), (33, .inl 10), (40, .inl 5), (47, .inl 7), (54, .inl 1), (72, .inr 0), (96, .inr 1), (133, .inr 2), (274, .inr 3), (320, .inr 4), (391, .inr 5)]
def nlX8 : List (Nat × Int32) := []
def cpX8 : cpT := (lkp flX8, lkp slX8, lkp mlX8, lkp clX8, lkp nlX8)
theorem flpX8 : ∀ q ∈ flX8, fldOK RX8 q.1 q.2.1 q.2.2.1 q.2.2.2.1 q.2.2.2.2 := (fa_cons ⟨clOK11, RX8, TX8, 10, rfl, by decide, rfl, by decide +kernel, (List.mem_append_right _ (List.mem_of_getElem? (i := 240) (by decide +kernel))), fun _ => rfl⟩ (fa_cons ⟨clOK11, RX8, TX8, 10, rfl, by decide, rfl, by decide +kernel, (List.mem_append_right _ (List.mem_of_getElem? (i := 241) (by decide +kernel))), fun _ => rfl⟩ (fa_cons ⟨clOK11, RX8, TX8, 10, rfl, by decide, rfl, by decide +kernel, (List.mem_append_right _ (List.mem_of_getElem? (i := 242) (by decide +kernel))), fun _ => rfl⟩ (fa_cons ⟨clOK11, RX8, TX8, 10, rfl, by decide, rfl, by decide +kernel, (List.mem_append_right _ (List.mem_of_getElem? (i := 243) (by decide +kernel))), fun _ => rfl⟩ (fa_cons ⟨clOK11, RX8, TX8, 10, rfl, by decide, rfl, by decide +kernel, (List.mem_append_right _ (List.mem_of_getElem? (i := 244) (by decide +kernel))), fun _ => rfl⟩ (fa_cons ⟨clOK11, RX8, TX8, 10, rfl, by decide, rfl, by decide +kernel, (List.mem_append_right _ (List.mem_of_getElem? (i := 245) (by decide +kernel))), fun _ => rfl⟩ (fa_cons ⟨clOK11, RX8, TX8, 10, rfl, by decide, rfl, by decide +kernel, (List.mem_append_right _ (List.mem_of_getElem? (i := 246) (by decide +kernel))), fun _ => rfl⟩ (fa_cons ⟨clOK11, RX8, TX8, 10, rfl, by decide, rfl, by decide +kernel, (List.mem_append_right _ (List.mem_of_getElem? (i := 247) (by decide +kernel))), fun _ => rfl⟩ (fa_cons ⟨clOK11, RX8, TX8, 10, rfl, by decide, rfl, by decide +kernel, (List.mem_append_right _ (List.mem_of_getElem? (i := 248) (by decide +kernel))), fun h => nomatch h⟩ (fa_cons ⟨clOK11, RX8, TX8, 10, rfl, by decide, rfl, by decide +kernel, (List.mem_append_right _ (List.mem_of_getElem? (i := 249) (by decide +kernel))), fun h => nomatch h⟩ (fa_cons ⟨clOK4, RX0, TX0, 10, rfl, by decide, rfl, by decide +kernel, (List.mem_append_right _ (List.mem_of_getElem? (i := 81) (by decide +kernel))), fun h => nomatch h⟩ (fa_cons ⟨clOK4, RX0, TX0, 10, rfl, by decide, rfl, by decide +kernel, (List.mem_append_right _ (List.mem_of_getElem? (i := 85) (by decide +kernel))), fun h => nomatch h⟩ (fa_cons ⟨clOK4, RX0, TX0, 10, rfl, by decide, rfl, by decide +kernel, (List.mem_append_right _ (List.mem_of_getElem? (i := 74) (by decide +kernel))), fun h => nomatch h⟩ (fa_cons ⟨clOK4, RX0, TX0, 10, rfl, by decide, rfl, by decide +kernel, (List.mem_append_right _ (List.mem_of_getElem? (i := 76) (by decide +kernel))), fun h => nomatch h⟩ (fa_cons ⟨clOK4, RX0, TX0, 10, rfl, by decide, rfl, by decide +kernel, (List.mem_append_right _ (List.mem_of_getElem? (i := 79) (by decide +kernel))), fun h => nomatch h⟩ (fa_cons ⟨clOK10, RX7, TX7, 4, rfl, by decide, rfl, by decide +kernel, (List.mem_append_right _ (List.mem_of_getElem? (i := 154) (by decide +kernel))), fun h => nomatch h⟩ (fa_cons ⟨clOK8, RX5, TX5, 2, rfl, by decide, rfl, by decide +kernel, (List.mem_append_right _ (List.mem_of_getElem? (i := 137) (by decide +kernel))), fun h => nomatch h⟩ (fa_cons ⟨clOK8, RX5, TX5, 2, rfl, by decide, rfl, by decide +kernel, (List.mem_append_right _ (List.mem_of_getElem? (i := 139) (by decide +kernel))), fun h => nomatch h⟩ fa_nil))))))))))))))))))
theorem slpX8 : ∀ q ∈ slX8, stcOK RX8 q.1 q.2 := (fa_cons ⟨_, List.mem_of_getElem? (i := 4) rfl, rfl, Or.inl (List.mem_append_right _ (List.mem_of_getElem? (i := 1330) (by decide +kernel)))⟩ (fa_cons ⟨_, List.mem_of_getElem? (i := 5) rfl, rfl, Or.inl (List.mem_append_right _ (List.mem_of_getElem? (i := 1336) (by decide +kernel)))⟩ (fa_cons ⟨_, List.mem_of_getElem? (i := 3) rfl, rfl, Or.inl (List.mem_append_right _ (List.mem_of_getElem? (i := 1338) (by decide +kernel)))⟩ fa_nil)))
theorem mpX8_1 : oiOK RX8 1 := ⟨(List.mem_append_right _ (List.mem_of_getElem? (i := 40) (by decide +kernel))), (List.mem_append_right _ (List.mem_of_getElem? (i := 41) (by decide +kernel))), (List.mem_append_right _ (List.mem_of_getElem? (i := 42) (by decide +kernel)))⟩
theorem mpX8_9 : inOK RX8 9 m_X0_init := ⟨mo_X0_init, rfl, rfl, ⟨_, (List.mem_append_right _ (List.mem_of_getElem? (i := 45) (by decide +kernel)))⟩, rfl, (List.mem_append_right _ (List.mem_of_getElem? (i := 46) (by decide +kernel)))⟩
theorem mpX8_21 : inOK RX8 21 m_X2_init := ⟨mo_X2_init, rfl, rfl, ⟨_, (List.mem_append_right _ (List.mem_of_getElem? (i := 114) (by decide +kernel)))⟩, rfl, (List.mem_append_right _ (List.mem_of_getElem? (i := 115) (by decide +kernel)))⟩
theorem mpX8_28 : inOK RX8 28 m_X5_init := ⟨mo_X5_init, rfl, rfl, ⟨_, (List.mem_append_right _ (List.mem_of_getElem? (i := 132) (by decide +kernel)))⟩, rfl, (List.mem_append_right _ (List.mem_of_getElem? (i := 133) (by decide +kernel)))⟩
theorem mpX8_35 : inOK RX8 35 m_X7_init := ⟨mo_X7_init, rfl, rfl, ⟨_, (List.mem_append_right _ (List.mem_of_getElem? (i := 147) (by decide +kernel)))⟩, rfl, (List.mem_append_right _ (List.mem_of_getElem? (i := 148) (by decide +kernel)))⟩
theorem mpX8_42 : inOK RX8 42 m_X1_init := ⟨mo_X1_init, rfl, rfl, ⟨_, (List.mem_append_right _ (List.mem_of_getElem? (i := 170) (by decide +kernel)))⟩, rfl, (List.mem_append_right _ (List.mem_of_getElem? (i := 171) (by decide +kernel)))⟩
theorem mpX8_49 : inOK RX8 49 m_X4_init := ⟨mo_X4_init, rfl, rfl, ⟨_, (List.mem_append_right _ (List.mem_of_getElem? (i := 181) (by decide +kernel)))⟩, rfl, (List.mem_append_right _ (List.mem_of_getElem? (i := 182) (by decide +kernel)))⟩
theorem mpX8_56 : iOK RX8 56 m_J4_init_da8c8 := ⟨mo_J4_init_da8c8, rfl, rfl, (List.mem_append_right _ (List.mem_of_getElem? (i := 209) (by decide +kernel))), rfl, (List.mem_append_right _ (List.mem_of_getElem? (i := 210) (by decide +kernel)))⟩
theorem mpX8_68 : sOK RX8 68 m_X8_isWithin := ⟨mo_X8_isWithin, rfl, (List.mem_append_right _ (List.mem_of_getElem? (i := 419) (by decide +kernel))), (List.mem_append_right _ (List.mem_of_getElem? (i := 420) (by decide +kernel)))⟩
theorem mpX8_79 : vOK RX8 79 m_X2_remember 6 := ⟨mo_X2_remember, rfl, (List.mem_append_right _ (List.mem_of_getElem? (i := 494) (by decide +kernel))), (List.mem_append_right _ (List.mem_of_getElem? (i := 495) (by decide +kernel))), (List.mem_append_right _ (List.mem_of_getElem? (i := 496) (by decide +kernel))), TX2, 3, rfl⟩
theorem mpX8_83 : vOK RX8 83 m_X0_burnCoal 4 := ⟨mo_X0_burnCoal, rfl, (List.mem_append_right _ (List.mem_of_getElem? (i := 501) (by decide +kernel))), (List.mem_append_right _ (List.mem_of_getElem? (i := 502) (by decide +kernel))), (List.mem_append_right _ (List.mem_of_getElem? (i := 503) (by decide +kernel))), TX0, 10, rfl⟩
theorem mpX8_92 : vOK RX8 92 m_X0_refusesPounds 4 := ⟨mo_X0_refusesPounds, rfl, (List.mem_append_right _ (List.mem_of_getElem? (i := 515) (by decide +kernel))), (List.mem_append_right _ (List.mem_of_getElem? (i := 516) (by decide +kernel))), (List.mem_append_right _ (List.mem_of_getElem? (i := 517) (by decide +kernel))), TX0, 10, rfl⟩
theorem mpX8_101 : vOK RX8 101 m_X0_bringBronze 4 := ⟨mo_X0_bringBronze, rfl, (List.mem_append_right _ (List.mem_of_getElem? (i := 539) (by decide +kernel))), (List.mem_append_right _ (List.mem_of_getElem? (i := 540) (by decide +kernel))), (List.mem_append_right _ (List.mem_of_getElem? (i := 541) (by decide +kernel))), TX0, 10, rfl⟩
theorem mpX8_107 : sOK RX8 107 m_X8_isMould := ⟨mo_X8_isMould, rfl, (List.mem_append_right _ (List.mem_of_getElem? (i := 550) (by decide +kernel))), (List.mem_append_right _ (List.mem_of_getElem? (i := 551) (by decide +kernel)))⟩
theorem mpX8_113 : vOK RX8 113 m_X0_refusesMould 4 := ⟨mo_X0_refusesMould, rfl, (List.mem_append_right _ (List.mem_of_getElem? (i := 554) (by decide +kernel))), (List.mem_append_right _ (List.mem_of_getElem? (i := 555) (by decide +kernel))), (List.mem_append_right _ (List.mem_of_getElem? (i := 556) (by decide +kernel))), TX0, 10, rfl⟩
theorem mpX8_119 : vOK RX8 119 m_X0_makeMould 4 := ⟨mo_X0_makeMould, rfl, (List.mem_append_right _ (List.mem_of_getElem? (i := 559) (by decide +kernel))), (List.mem_append_right _ (List.mem_of_getElem? (i := 560) (by decide +kernel))), (List.mem_append_right _ (List.mem_of_getElem? (i := 561) (by decide +kernel))), TX0, 10, rfl⟩
theorem mpX8_127 : vOK RX8 127 m_X6_has 9 := ⟨mo_X6_has, rfl, (List.mem_append_right _ (List.mem_of_getElem? (i := 602) (by decide +kernel))), (List.mem_append_right _ (List.mem_of_getElem? (i := 603) (by decide +kernel))), (List.mem_append_right _ (List.mem_of_getElem? (i := 604) (by decide +kernel))), TX6, 4, rfl⟩
theorem mpX8_138 : vOK RX8 138 m_X6_drop 9 := ⟨mo_X6_drop, rfl, (List.mem_append_right _ (List.mem_of_getElem? (i := 619) (by decide +kernel))), (List.mem_append_right _ (List.mem_of_getElem? (i := 620) (by decide +kernel))), (List.mem_append_right _ (List.mem_of_getElem? (i := 621) (by decide +kernel))), TX6, 4, rfl⟩
theorem mpX8_141 : vOK RX8 141 m_X6_size 9 := ⟨mo_X6_size, rfl, (List.mem_append_right _ (List.mem_of_getElem? (i := 410) (by decide +kernel))), (List.mem_append_right _ (List.mem_of_getElem? (i := 280) (by decide +kernel))), (List.mem_append_right _ (List.mem_of_getElem? (i := 281) (by decide +kernel))), TX6, 4, rfl⟩
theorem mpX8_145 : vOK RX8 145 m_X6_get 9 := ⟨mo_X6_get, rfl, (List.mem_append_right _ (List.mem_of_getElem? (i := 630) (by decide +kernel))), (List.mem_append_right _ (List.mem_of_getElem? (i := 287) (by decide +kernel))), (List.mem_append_right _ (List.mem_of_getElem? (i := 288) (by decide +kernel))), TX6, 4, rfl⟩
theorem mpX8_148 : sOK RX8 148 m_X8_poundsFor := ⟨mo_X8_poundsFor, rfl, (List.mem_append_right _ (List.mem_of_getElem? (i := 301) (by decide +kernel))), (List.mem_append_right _ (List.mem_of_getElem? (i := 302) (by decide +kernel)))⟩
theorem mpX8_152 : sOK RX8 152 m_X8_heatFor := ⟨mo_X8_heatFor, rfl, (List.mem_append_right _ (List.mem_of_getElem? (i := 631) (by decide +kernel))), (List.mem_append_right _ (List.mem_of_getElem? (i := 318) (by decide +kernel)))⟩
theorem mpX8_155 : sOK RX8 155 m_X8_firstNote := ⟨mo_X8_firstNote, rfl, (List.mem_append_right _ (List.mem_of_getElem? (i := 632) (by decide +kernel))), (List.mem_append_right _ (List.mem_of_getElem? (i := 348) (by decide +kernel)))⟩
theorem mpX8_162 : vOK RX8 162 m_X0_refusesRack 4 := ⟨mo_X0_refusesRack, rfl, (List.mem_append_right _ (List.mem_of_getElem? (i := 642) (by decide +kernel))), (List.mem_append_right _ (List.mem_of_getElem? (i := 643) (by decide +kernel))), (List.mem_append_right _ (List.mem_of_getElem? (i := 644) (by decide +kernel))), TX0, 10, rfl⟩
theorem mpX8_167 : vOK RX8 167 m_X0_setRack 4 := ⟨mo_X0_setRack, rfl, (List.mem_append_right _ (List.mem_of_getElem? (i := 647) (by decide +kernel))), (List.mem_append_right _ (List.mem_of_getElem? (i := 648) (by decide +kernel))), (List.mem_append_right _ (List.mem_of_getElem? (i := 649) (by decide +kernel))), TX0, 10, rfl⟩
theorem mpX8_175 : vOK RX8 175 m_X0_refusesStrike 4 := ⟨mo_X0_refusesStrike, rfl, (List.mem_append_right _ (List.mem_of_getElem? (i := 659) (by decide +kernel))), (List.mem_append_right _ (List.mem_of_getElem? (i := 660) (by decide +kernel))), (List.mem_append_right _ (List.mem_of_getElem? (i := 661) (by decide +kernel))), TX0, 10, rfl⟩
theorem mpX8_180 : vOK RX8 180 m_X0_strikeRack 4 := ⟨mo_X0_strikeRack, rfl, (List.mem_append_right _ (List.mem_of_getElem? (i := 664) (by decide +kernel))), (List.mem_append_right _ (List.mem_of_getElem? (i := 665) (by decide +kernel))), (List.mem_append_right _ (List.mem_of_getElem? (i := 666) (by decide +kernel))), TX0, 10, rfl⟩
theorem mpX8_183 : vOK RX8 183 m_X0_bellsOn 4 := ⟨mo_X0_bellsOn, rfl, (List.mem_append_right _ (List.mem_of_getElem? (i := 681) (by decide +kernel))), (List.mem_append_right _ (List.mem_of_getElem? (i := 390) (by decide +kernel))), (List.mem_append_right _ (List.mem_of_getElem? (i := 391) (by decide +kernel))), TX0, 10, rfl⟩
theorem mpX8_186 : vOK RX8 186 m_X0_lossOn 4 := ⟨mo_X0_lossOn, rfl, (List.mem_append_right _ (List.mem_of_getElem? (i := 682) (by decide +kernel))), (List.mem_append_right _ (List.mem_of_getElem? (i := 683) (by decide +kernel))), (List.mem_append_right _ (List.mem_of_getElem? (i := 684) (by decide +kernel))), TX0, 10, rfl⟩
theorem mpX8_191 : vOK RX8 191 m_X0_hasBoth 4 := ⟨mo_X0_hasBoth, rfl, (List.mem_append_right _ (List.mem_of_getElem? (i := 694) (by decide +kernel))), (List.mem_append_right _ (List.mem_of_getElem? (i := 695) (by decide +kernel))), (List.mem_append_right _ (List.mem_of_getElem? (i := 696) (by decide +kernel))), TX0, 10, rfl⟩
theorem mpX8_196 : vOK RX8 196 m_X0_refusesPour 4 := ⟨mo_X0_refusesPour, rfl, (List.mem_append_right _ (List.mem_of_getElem? (i := 700) (by decide +kernel))), (List.mem_append_right _ (List.mem_of_getElem? (i := 701) (by decide +kernel))), (List.mem_append_right _ (List.mem_of_getElem? (i := 702) (by decide +kernel))), TX0, 10, rfl⟩
theorem mpX8_202 : vOK RX8 202 m_X0_pourMould 4 := ⟨mo_X0_pourMould, rfl, (List.mem_append_right _ (List.mem_of_getElem? (i := 707) (by decide +kernel))), (List.mem_append_right _ (List.mem_of_getElem? (i := 708) (by decide +kernel))), (List.mem_append_right _ (List.mem_of_getElem? (i := 709) (by decide +kernel))), TX0, 10, rfl⟩
theorem mpX8_207 : vOK RX8 207 m_X0_letHoursGoBy 4 := ⟨mo_X0_letHoursGoBy, rfl, (List.mem_append_right _ (List.mem_of_getElem? (i := 720) (by decide +kernel))), (List.mem_append_right _ (List.mem_of_getElem? (i := 721) (by decide +kernel))), (List.mem_append_right _ (List.mem_of_getElem? (i := 722) (by decide +kernel))), TX0, 10, rfl⟩
theorem mpX8_215 : vOK RX8 215 m_X0_refusesTake 4 := ⟨mo_X0_refusesTake, rfl, (List.mem_append_right _ (List.mem_of_getElem? (i := 749) (by decide +kernel))), (List.mem_append_right _ (List.mem_of_getElem? (i := 750) (by decide +kernel))), (List.mem_append_right _ (List.mem_of_getElem? (i := 751) (by decide +kernel))), TX0, 10, rfl⟩
theorem mpX8_220 : vOK RX8 220 m_X0_takeBell 4 := ⟨mo_X0_takeBell, rfl, (List.mem_append_right _ (List.mem_of_getElem? (i := 754) (by decide +kernel))), (List.mem_append_right _ (List.mem_of_getElem? (i := 755) (by decide +kernel))), (List.mem_append_right _ (List.mem_of_getElem? (i := 756) (by decide +kernel))), TX0, 10, rfl⟩
theorem mpX8_223 : vOK RX8 223 m_X0_refusesOutsideHall 4 := ⟨mo_X0_refusesOutsideHall, rfl, (List.mem_append_right _ (List.mem_of_getElem? (i := 765) (by decide +kernel))), (List.mem_append_right _ (List.mem_of_getElem? (i := 766) (by decide +kernel))), (List.mem_append_right _ (List.mem_of_getElem? (i := 767) (by decide +kernel))), TX0, 10, rfl⟩
theorem mpX8_228 : vOK RX8 228 m_X0_ringBell 4 := ⟨mo_X0_ringBell, rfl, (List.mem_append_right _ (List.mem_of_getElem? (i := 770) (by decide +kernel))), (List.mem_append_right _ (List.mem_of_getElem? (i := 771) (by decide +kernel))), (List.mem_append_right _ (List.mem_of_getElem? (i := 772) (by decide +kernel))), TX0, 10, rfl⟩
theorem mpX8_233 : vOK RX8 233 m_X0_refusesFile 4 := ⟨mo_X0_refusesFile, rfl, (List.mem_append_right _ (List.mem_of_getElem? (i := 782) (by decide +kernel))), (List.mem_append_right _ (List.mem_of_getElem? (i := 783) (by decide +kernel))), (List.mem_append_right _ (List.mem_of_getElem? (i := 784) (by decide +kernel))), TX0, 10, rfl⟩
theorem mpX8_238 : vOK RX8 238 m_X0_addMarks 4 := ⟨mo_X0_addMarks, rfl, (List.mem_append_right _ (List.mem_of_getElem? (i := 788) (by decide +kernel))), (List.mem_append_right _ (List.mem_of_getElem? (i := 789) (by decide +kernel))), (List.mem_append_right _ (List.mem_of_getElem? (i := 790) (by decide +kernel))), TX0, 10, rfl⟩
theorem mpX8_242 : vOK RX8 242 m_X0_noteOf 4 := ⟨mo_X0_noteOf, rfl, (List.mem_append_right _ (List.mem_of_getElem? (i := 792) (by decide +kernel))), (List.mem_append_right _ (List.mem_of_getElem? (i := 343) (by decide +kernel))), (List.mem_append_right _ (List.mem_of_getElem? (i := 344) (by decide +kernel))), TX0, 10, rfl⟩
theorem mpX8_245 : vOK RX8 245 m_X0_refusesRecast 4 := ⟨mo_X0_refusesRecast, rfl, (List.mem_append_right _ (List.mem_of_getElem? (i := 800) (by decide +kernel))), (List.mem_append_right _ (List.mem_of_getElem? (i := 801) (by decide +kernel))), (List.mem_append_right _ (List.mem_of_getElem? (i := 802) (by decide +kernel))), TX0, 10, rfl⟩
theorem mpX8_250 : vOK RX8 250 m_X0_recastBell 4 := ⟨mo_X0_recastBell, rfl, (List.mem_append_right _ (List.mem_of_getElem? (i := 810) (by decide +kernel))), (List.mem_append_right _ (List.mem_of_getElem? (i := 811) (by decide +kernel))), (List.mem_append_right _ (List.mem_of_getElem? (i := 812) (by decide +kernel))), TX0, 10, rfl⟩
theorem mpX8_257 : vOK RX8 257 m_X0_cracksAfter 4 := ⟨mo_X0_cracksAfter, rfl, (List.mem_append_right _ (List.mem_of_getElem? (i := 837) (by decide +kernel))), (List.mem_append_right _ (List.mem_of_getElem? (i := 838) (by decide +kernel))), (List.mem_append_right _ (List.mem_of_getElem? (i := 839) (by decide +kernel))), TX0, 10, rfl⟩
theorem mpX8_260 : vOK RX8 260 m_X0_hoursUntilCold 4 := ⟨mo_X0_hoursUntilCold, rfl, (List.mem_append_right _ (List.mem_of_getElem? (i := 848) (by decide +kernel))), (List.mem_append_right _ (List.mem_of_getElem? (i := 849) (by decide +kernel))), (List.mem_append_right _ (List.mem_of_getElem? (i := 850) (by decide +kernel))), TX0, 10, rfl⟩
theorem mpX8_265 : vOK RX8 265 m_X0_pealBellByBell 4 := ⟨mo_X0_pealBellByBell, rfl, (List.mem_append_right _ (List.mem_of_getElem? (i := 367) (by decide +kernel))), (List.mem_append_right _ (List.mem_of_getElem? (i := 368) (by decide +kernel))), (List.mem_append_right _ (List.mem_of_getElem? (i := 369) (by decide +kernel))), TX0, 10, rfl⟩
theorem mpX8_268 : vOK RX8 268 m_X1_gather 5 := ⟨mo_X1_gather, rfl, (List.mem_append_right _ (List.mem_of_getElem? (i := 354) (by decide +kernel))), (List.mem_append_right _ (List.mem_of_getElem? (i := 355) (by decide +kernel))), (List.mem_append_right _ (List.mem_of_getElem? (i := 356) (by decide +kernel))), TX1, 1, rfl⟩
theorem mpX8_271 : vOK RX8 271 m_X1_pealFrom 5 := ⟨mo_X1_pealFrom, rfl, (List.mem_append_right _ (List.mem_of_getElem? (i := 361) (by decide +kernel))), (List.mem_append_right _ (List.mem_of_getElem? (i := 362) (by decide +kernel))), (List.mem_append_right _ (List.mem_of_getElem? (i := 363) (by decide +kernel))), TX1, 1, rfl⟩
theorem mpX8_279 : vOK RX8 279 m_X1_startOfLongest 5 := ⟨mo_X1_startOfLongest, rfl, (List.mem_append_right _ (List.mem_of_getElem? (i := 884) (by decide +kernel))), (List.mem_append_right _ (List.mem_of_getElem? (i := 885) (by decide +kernel))), (List.mem_append_right _ (List.mem_of_getElem? (i := 886) (by decide +kernel))), TX1, 1, rfl⟩
theorem mpX8_284 : vOK RX8 284 m_X0_bellAtPlace 4 := ⟨mo_X0_bellAtPlace, rfl, (List.mem_append_right _ (List.mem_of_getElem? (i := 897) (by decide +kernel))), (List.mem_append_right _ (List.mem_of_getElem? (i := 898) (by decide +kernel))), (List.mem_append_right _ (List.mem_of_getElem? (i := 899) (by decide +kernel))), TX0, 10, rfl⟩
theorem mpX8_287 : vOK RX8 287 m_X4_lookAt 7 := ⟨mo_X4_lookAt, rfl, (List.mem_append_right _ (List.mem_of_getElem? (i := 275) (by decide +kernel))), (List.mem_append_right _ (List.mem_of_getElem? (i := 276) (by decide +kernel))), (List.mem_append_right _ (List.mem_of_getElem? (i := 277) (by decide +kernel))), TX4, 7, rfl⟩
theorem mpX8_290 : vOK RX8 290 m_X4_best 7 := ⟨mo_X4_best, rfl, (List.mem_append_right _ (List.mem_of_getElem? (i := 290) (by decide +kernel))), (List.mem_append_right _ (List.mem_of_getElem? (i := 291) (by decide +kernel))), (List.mem_append_right _ (List.mem_of_getElem? (i := 292) (by decide +kernel))), TX4, 7, rfl⟩
theorem mpX8_293 : vOK RX8 293 m_X4_hottest 7 := ⟨mo_X4_hottest, rfl, (List.mem_append_right _ (List.mem_of_getElem? (i := 321) (by decide +kernel))), (List.mem_append_right _ (List.mem_of_getElem? (i := 322) (by decide +kernel))), (List.mem_append_right _ (List.mem_of_getElem? (i := 323) (by decide +kernel))), TX4, 7, rfl⟩
theorem mpX8_296 : vOK RX8 296 m_X4_firstOfBest 7 := ⟨mo_X4_firstOfBest, rfl, (List.mem_append_right _ (List.mem_of_getElem? (i := 912) (by decide +kernel))), (List.mem_append_right _ (List.mem_of_getElem? (i := 913) (by decide +kernel))), (List.mem_append_right _ (List.mem_of_getElem? (i := 914) (by decide +kernel))), TX4, 7, rfl⟩
theorem mpX8_301 : vOK RX8 301 m_X8_writeBell 11 := ⟨mo_X8_writeBell, rfl, (List.mem_append_right _ (List.mem_of_getElem? (i := 925) (by decide +kernel))), (List.mem_append_right _ (List.mem_of_getElem? (i := 927) (by decide +kernel))), (List.mem_append_left _ (List.mem_of_getElem? (i := 12) (by decide +kernel))), TX8, 10, rfl⟩
theorem mpX8_304 : vOK RX8 304 m_J4_length_8abf5 1 := ⟨mo_J4_length_8abf5, rfl, (List.mem_append_right _ (List.mem_of_getElem? (i := 1205) (by decide +kernel))), (List.mem_append_right _ (List.mem_of_getElem? (i := 1106) (by decide +kernel))), (List.mem_append_right _ (List.mem_of_getElem? (i := 1834) (by decide +kernel))), TJ4, 4, rfl⟩
theorem mpX8_307 : vOK RX8 307 m_X8_writeRack 11 := ⟨mo_X8_writeRack, rfl, (List.mem_append_right _ (List.mem_of_getElem? (i := 1213) (by decide +kernel))), (List.mem_append_right _ (List.mem_of_getElem? (i := 1215) (by decide +kernel))), (List.mem_append_left _ (List.mem_of_getElem? (i := 13) (by decide +kernel))), TX8, 10, rfl⟩
theorem mpX8_312 : vOK RX8 312 m_J4_charAt_5068e 1 := ⟨mo_J4_charAt_5068e, rfl, (List.mem_append_right _ (List.mem_of_getElem? (i := 1225) (by decide +kernel))), (List.mem_append_right _ (List.mem_of_getElem? (i := 1226) (by decide +kernel))), (List.mem_append_right _ (List.mem_of_getElem? (i := 1227) (by decide +kernel))), TJ4, 4, rfl⟩
theorem mpX8_316 : vOK RX8 316 m_X7_isFull 10 := ⟨mo_X7_isFull, rfl, (List.mem_append_right _ (List.mem_of_getElem? (i := 1243) (by decide +kernel))), (List.mem_append_right _ (List.mem_of_getElem? (i := 1244) (by decide +kernel))), (List.mem_append_right _ (List.mem_of_getElem? (i := 1245) (by decide +kernel))), TX7, 4, rfl⟩
theorem mpX8_325 : vOK RX8 325 m_X7_add 10 := ⟨mo_X7_add, rfl, (List.mem_append_right _ (List.mem_of_getElem? (i := 1263) (by decide +kernel))), (List.mem_append_right _ (List.mem_of_getElem? (i := 1264) (by decide +kernel))), (List.mem_append_right _ (List.mem_of_getElem? (i := 1265) (by decide +kernel))), TX7, 4, rfl⟩
theorem mpX8_329 : vOK RX8 329 m_X7_size 10 := ⟨mo_X7_size, rfl, (List.mem_append_right _ (List.mem_of_getElem? (i := 1268) (by decide +kernel))), (List.mem_append_right _ (List.mem_of_getElem? (i := 1269) (by decide +kernel))), (List.mem_append_right _ (List.mem_of_getElem? (i := 1270) (by decide +kernel))), TX7, 4, rfl⟩
theorem mpX8_330 : vOK RX8 330 m_X7_readOrders 10 := ⟨mo_X7_readOrders, rfl, (List.mem_append_right _ (List.mem_of_getElem? (i := 1279) (by decide +kernel))), (List.mem_append_right _ (List.mem_of_getElem? (i := 1280) (by decide +kernel))), (List.mem_append_right _ (List.mem_of_getElem? (i := 1281) (by decide +kernel))), TX7, 4, rfl⟩
theorem mpX8_333 : vOK RX8 333 m_X7_empty 10 := ⟨mo_X7_empty, rfl, (List.mem_append_right _ (List.mem_of_getElem? (i := 1313) (by decide +kernel))), (List.mem_append_right _ (List.mem_of_getElem? (i := 1314) (by decide +kernel))), (List.mem_append_right _ (List.mem_of_getElem? (i := 1315) (by decide +kernel))), TX7, 4, rfl⟩
theorem mpX8_338 : vOK RX8 338 m_X8_tryOrders 11 := ⟨mo_X8_tryOrders, rfl, (List.mem_append_right _ (List.mem_of_getElem? (i := 1318) (by decide +kernel))), (List.mem_append_right _ (List.mem_of_getElem? (i := 1320) (by decide +kernel))), (List.mem_append_left _ (List.mem_of_getElem? (i := 20) (by decide +kernel))), TX8, 10, rfl⟩
theorem mpX8_355 : vOK RX8 355 m_X0_copyFrom 4 := ⟨mo_X0_copyFrom, rfl, (List.mem_append_right _ (List.mem_of_getElem? (i := 402) (by decide +kernel))), (List.mem_append_right _ (List.mem_of_getElem? (i := 403) (by decide +kernel))), (List.mem_append_right _ (List.mem_of_getElem? (i := 404) (by decide +kernel))), TX0, 10, rfl⟩
theorem mpX8_371 : vOK RX8 371 m_X2_size 6 := ⟨mo_X2_size, rfl, (List.mem_append_right _ (List.mem_of_getElem? (i := 1362) (by decide +kernel))), (List.mem_append_right _ (List.mem_of_getElem? (i := 1363) (by decide +kernel))), (List.mem_append_right _ (List.mem_of_getElem? (i := 1364) (by decide +kernel))), TX2, 3, rfl⟩
theorem mpX8_372 : vOK RX8 372 m_X0_accountOf 4 := ⟨mo_X0_accountOf, rfl, (List.mem_append_right _ (List.mem_of_getElem? (i := 1366) (by decide +kernel))), (List.mem_append_right _ (List.mem_of_getElem? (i := 1367) (by decide +kernel))), (List.mem_append_right _ (List.mem_of_getElem? (i := 1368) (by decide +kernel))), TX0, 10, rfl⟩
theorem mpX8_375 : vOK RX8 375 m_X0_areNotesAlike 4 := ⟨mo_X0_areNotesAlike, rfl, (List.mem_append_right _ (List.mem_of_getElem? (i := 337) (by decide +kernel))), (List.mem_append_right _ (List.mem_of_getElem? (i := 338) (by decide +kernel))), (List.mem_append_right _ (List.mem_of_getElem? (i := 339) (by decide +kernel))), TX0, 10, rfl⟩
theorem mpX8_378 : vOK RX8 378 m_X8_arePealsAlike 11 := ⟨mo_X8_arePealsAlike, rfl, (List.mem_append_right _ (List.mem_of_getElem? (i := 350) (by decide +kernel))), (List.mem_append_right _ (List.mem_of_getElem? (i := 352) (by decide +kernel))), (List.mem_append_left _ (List.mem_of_getElem? (i := 4) (by decide +kernel))), TX8, 10, rfl⟩
theorem mpX8_381 : vOK RX8 381 m_X0_doesBronzeAddUp 4 := ⟨mo_X0_doesBronzeAddUp, rfl, (List.mem_append_right _ (List.mem_of_getElem? (i := 376) (by decide +kernel))), (List.mem_append_right _ (List.mem_of_getElem? (i := 377) (by decide +kernel))), (List.mem_append_right _ (List.mem_of_getElem? (i := 378) (by decide +kernel))), TX0, 10, rfl⟩
theorem mpX8_384 : vOK RX8 384 m_X0_hasRoomOnRacks 4 := ⟨mo_X0_hasRoomOnRacks, rfl, (List.mem_append_right _ (List.mem_of_getElem? (i := 385) (by decide +kernel))), (List.mem_append_right _ (List.mem_of_getElem? (i := 386) (by decide +kernel))), (List.mem_append_right _ (List.mem_of_getElem? (i := 387) (by decide +kernel))), TX0, 10, rfl⟩
theorem mpX8_387 : vOK RX8 387 m_X8_pourable 11 := ⟨mo_X8_pourable, rfl, (List.mem_append_right _ (List.mem_of_getElem? (i := 397) (by decide +kernel))), (List.mem_append_right _ (List.mem_of_getElem? (i := 272) (by decide +kernel))), (List.mem_append_right _ (List.mem_of_getElem? (i := 273) (by decide +kernel))), TX8, 10, rfl⟩
theorem mpX8_396 : vOK RX8 396 m_X0_sumOfNotes 4 := ⟨mo_X0_sumOfNotes, rfl, (List.mem_append_right _ (List.mem_of_getElem? (i := 1398) (by decide +kernel))), (List.mem_append_right _ (List.mem_of_getElem? (i := 1399) (by decide +kernel))), (List.mem_append_right _ (List.mem_of_getElem? (i := 1400) (by decide +kernel))), TX0, 10, rfl⟩
theorem mpX8_399 : vOK RX8 399 m_X6_countOf 9 := ⟨mo_X6_countOf, rfl, (List.mem_append_right _ (List.mem_of_getElem? (i := 1409) (by decide +kernel))), (List.mem_append_right _ (List.mem_of_getElem? (i := 394) (by decide +kernel))), (List.mem_append_right _ (List.mem_of_getElem? (i := 395) (by decide +kernel))), TX6, 4, rfl⟩
theorem mpX8_404 : vOK RX8 404 m_X2_goBack 6 := ⟨mo_X2_goBack, rfl, (List.mem_append_right _ (List.mem_of_getElem? (i := 1418) (by decide +kernel))), (List.mem_append_right _ (List.mem_of_getElem? (i := 1419) (by decide +kernel))), (List.mem_append_right _ (List.mem_of_getElem? (i := 1420) (by decide +kernel))), TX2, 3, rfl⟩
theorem mpX8_409 : vOK RX8 409 m_X2_forget 6 := ⟨mo_X2_forget, rfl, (List.mem_append_right _ (List.mem_of_getElem? (i := 1430) (by decide +kernel))), (List.mem_append_right _ (List.mem_of_getElem? (i := 1431) (by decide +kernel))), (List.mem_append_right _ (List.mem_of_getElem? (i := 1432) (by decide +kernel))), TX2, 3, rfl⟩
theorem mpX8_412 : mmOK RX8 412 := ⟨(List.mem_append_right _ (List.mem_of_getElem? (i := 304) (by decide +kernel))), (List.mem_append_right _ (List.mem_of_getElem? (i := 56) (by decide +kernel))), (List.mem_append_right _ (List.mem_of_getElem? (i := 4) (by decide +kernel))), (List.mem_append_right _ (List.mem_of_getElem? (i := 57) (by decide +kernel)))⟩
theorem mpX8_417 : vOK RX8 417 m_J4_setLength_d00df 1 := ⟨mo_J4_setLength_d00df, rfl, (List.mem_append_right _ (List.mem_of_getElem? (i := 929) (by decide +kernel))), (List.mem_append_right _ (List.mem_of_getElem? (i := 930) (by decide +kernel))), (List.mem_append_right _ (List.mem_of_getElem? (i := 931) (by decide +kernel))), TJ4, 4, rfl⟩
theorem mpX8_420 : vOK RX8 420 m_J4_append_bf812 1 := ⟨mo_J4_append_bf812, rfl, (List.mem_append_right _ (List.mem_of_getElem? (i := 1182) (by decide +kernel))), (List.mem_append_right _ (List.mem_of_getElem? (i := 1061) (by decide +kernel))), (List.mem_append_right _ (List.mem_of_getElem? (i := 1062) (by decide +kernel))), TJ4, 4, rfl⟩
theorem mpX8_424 : vOK RX8 424 m_J4_append_cf468 1 := ⟨mo_J4_append_cf468, rfl, (List.mem_append_right _ (List.mem_of_getElem? (i := 1183) (by decide +kernel))), (List.mem_append_right _ (List.mem_of_getElem? (i := 1184) (by decide +kernel))), (List.mem_append_right _ (List.mem_of_getElem? (i := 1185) (by decide +kernel))), TJ4, 4, rfl⟩
theorem mpX8_427 : vOK RX8 427 m_X8_judge 11 := ⟨mo_X8_judge, rfl, (List.mem_append_right _ (List.mem_of_getElem? (i := 1322) (by decide +kernel))), (List.mem_append_right _ (List.mem_of_getElem? (i := 1324) (by decide +kernel))), (List.mem_append_left _ (List.mem_of_getElem? (i := 21) (by decide +kernel))), TX8, 10, rfl⟩
theorem mpX8_434 : vOK RX8 434 m_X8_carryOut 11 := ⟨mo_X8_carryOut, rfl, (List.mem_append_right _ (List.mem_of_getElem? (i := 1340) (by decide +kernel))), (List.mem_append_right _ (List.mem_of_getElem? (i := 1342) (by decide +kernel))), (List.mem_append_left _ (List.mem_of_getElem? (i := 24) (by decide +kernel))), TX8, 10, rfl⟩
theorem mpX8_438 : vOK RX8 438 m_X8_isPossible 11 := ⟨mo_X8_isPossible, rfl, (List.mem_append_right _ (List.mem_of_getElem? (i := 1326) (by decide +kernel))), (List.mem_append_right _ (List.mem_of_getElem? (i := 1328) (by decide +kernel))), (List.mem_append_left _ (List.mem_of_getElem? (i := 22) (by decide +kernel))), TX8, 10, rfl⟩
theorem mpX8_441 : vOK RX8 441 m_X8_isRefused 11 := ⟨mo_X8_isRefused, rfl, (List.mem_append_right _ (List.mem_of_getElem? (i := 1332) (by decide +kernel))), (List.mem_append_right _ (List.mem_of_getElem? (i := 1334) (by decide +kernel))), (List.mem_append_left _ (List.mem_of_getElem? (i := 23) (by decide +kernel))), TX8, 10, rfl⟩
theorem mlpX8 : ∀ q ∈ mlX8, ((match q.2.1 with
    | 0 => vOK RX8 q.1 q.2.2.1 q.2.2.2
    | 1 => sOK RX8 q.1 q.2.2.1
    | 2 => iOK RX8 q.1 q.2.2.1
    | 3 => snOK RX8 q.1 q.2.2.1
    | 4 => inOK RX8 q.1 q.2.2.1
    | 5 => oiOK RX8 q.1
    | 6 => mmOK RX8 q.1
    | 7 => mnOK RX8 q.1
    | 8 => acOK RX8 q.1
    | 9 => uOK RX8 q.1 q.2.2.1
    | 10 => suOK RX8 q.1 q.2.2.1
    | 11 => swOK RX8 q.1 q.2.2.1
    | _ => False) : Prop) := (fa_cons mpX8_1 (fa_cons mpX8_9 (fa_cons mpX8_21 (fa_cons mpX8_28 (fa_cons mpX8_35 (fa_cons mpX8_42 (fa_cons mpX8_49 (fa_cons mpX8_56 (fa_cons mpX8_68 (fa_cons mpX8_79 (fa_cons mpX8_83 (fa_cons mpX8_92 (fa_cons mpX8_101 (fa_cons mpX8_107 (fa_cons mpX8_113 (fa_cons mpX8_119 (fa_cons mpX8_127 (fa_cons mpX8_138 (fa_cons mpX8_141 (fa_cons mpX8_145 (fa_cons mpX8_148 (fa_cons mpX8_152 (fa_cons mpX8_155 (fa_cons mpX8_162 (fa_cons mpX8_167 (fa_cons mpX8_175 (fa_cons mpX8_180 (fa_cons mpX8_183 (fa_cons mpX8_186 (fa_cons mpX8_191 (fa_cons mpX8_196 (fa_cons mpX8_202 (fa_cons mpX8_207 (fa_cons mpX8_215 (fa_cons mpX8_220 (fa_cons mpX8_223 (fa_cons mpX8_228 (fa_cons mpX8_233 (fa_cons mpX8_238 (fa_cons mpX8_242 (fa_cons mpX8_245 (fa_cons mpX8_250 (fa_cons mpX8_257 (fa_cons mpX8_260 (fa_cons mpX8_265 (fa_cons mpX8_268 (fa_cons mpX8_271 (fa_cons mpX8_279 (fa_cons mpX8_284 (fa_cons mpX8_287 (fa_cons mpX8_290 (fa_cons mpX8_293 (fa_cons mpX8_296 (fa_cons mpX8_301 (fa_cons mpX8_304 (fa_cons mpX8_307 (fa_cons mpX8_312 (fa_cons mpX8_316 (fa_cons mpX8_325 (fa_cons mpX8_329 (fa_cons mpX8_330 (fa_cons mpX8_333 (fa_cons mpX8_338 (fa_cons mpX8_355 (fa_cons mpX8_371 (fa_cons mpX8_372 (fa_cons mpX8_375 (fa_cons mpX8_378 (fa_cons mpX8_381 (fa_cons mpX8_384 (fa_cons mpX8_387 (fa_cons mpX8_396 (fa_cons mpX8_399 (fa_cons mpX8_404 (fa_cons mpX8_409 (fa_cons mpX8_412 (fa_cons mpX8_417 (fa_cons mpX8_420 (fa_cons mpX8_424 (fa_cons mpX8_427 (fa_cons mpX8_434 (fa_cons mpX8_438 (fa_cons mpX8_441 fa_nil)))))))))))))))))))))))))))))))))))))))))))))))))))))))))))))))))))))))))))))))))))
def clPX8 (q : Nat × (Nat ⊕ Nat)) : Prop := match q.2 with
  | .inl ci => (∀ n fs, newF ci = some (n, fs) → newOK RX8 q.1 ci n fs) ∧ (ci = 4 → Jvm.Cond.classLink RX8 q.1 RX0 ∈ lw_tbl)
  | .inr _ => True
theorem clpX8 : ∀ q ∈ clX8, clPX8 q := (fa_cons ⟨(fun n fs h => by cases h; exact ⟨clOK4, RX0, TX0, tyX0, rfl, tyX0_ok, by decide +kernel, (List.mem_append_right _ (List.mem_of_getElem? (i := 43) (by decide +kernel))), (List.mem_append_right _ (List.mem_of_getElem? (i := 44) (by decide +kernel))), (List.mem_append_right _ (List.mem_of_getElem? (i := 2) (by decide +kernel)))⟩), (fun _ => (List.mem_append_right _ (List.mem_of_getElem? (i := 43) (by decide +kernel))))⟩ (fa_cons ⟨(fun n fs h => by cases h; exact ⟨clOK6, RX2, TX2, tyX2, rfl, tyX2_ok, by decide +kernel, (List.mem_append_right _ (List.mem_of_getElem? (i := 112) (by decide +kernel))), (List.mem_append_right _ (List.mem_of_getElem? (i := 113) (by decide +kernel))), (List.mem_append_right _ (List.mem_of_getElem? (i := 5) (by decide +kernel)))⟩), (fun h => nomatch h)⟩ (fa_cons ⟨(fun n fs h => by cases h; exact ⟨clOK8, RX5, TX5, tyX5, rfl, tyX5_ok, by decide +kernel, (List.mem_append_right _ (List.mem_of_getElem? (i := 130) (by decide +kernel))), (List.mem_append_right _ (List.mem_of_getElem? (i := 131) (by decide +kernel))), (List.mem_append_right _ (List.mem_of_getElem? (i := 6) (by decide +kernel)))⟩), (fun h => nomatch h)⟩ (fa_cons ⟨(fun n fs h => by cases h; exact ⟨clOK10, RX7, TX7, tyX7, rfl, tyX7_ok, by decide +kernel, (List.mem_append_right _ (List.mem_of_getElem? (i := 145) (by decide +kernel))), (List.mem_append_right _ (List.mem_of_getElem? (i := 146) (by decide +kernel))), (List.mem_append_right _ (List.mem_of_getElem? (i := 7) (by decide +kernel)))⟩), (fun h => nomatch h)⟩ (fa_cons ⟨(fun n fs h => by cases h; exact ⟨clOK5, RX1, TX1, tyX1, rfl, tyX1_ok, by decide +kernel, (List.mem_append_right _ (List.mem_of_getElem? (i := 168) (by decide +kernel))), (List.mem_append_right _ (List.mem_of_getElem? (i := 169) (by decide +kernel))), (List.mem_append_right _ (List.mem_of_getElem? (i := 8) (by decide +kernel)))⟩), (fun h => nomatch h)⟩ (fa_cons ⟨(fun n fs h => by cases h; exact ⟨clOK7, RX4, TX4, tyX4, rfl, tyX4_ok, by decide +kernel, (List.mem_append_right _ (List.mem_of_getElem? (i := 179) (by decide +kernel))), (List.mem_append_right _ (List.mem_of_getElem? (i := 180) (by decide +kernel))), (List.mem_append_right _ (List.mem_of_getElem? (i := 9) (by decide +kernel)))⟩), (fun h => nomatch h)⟩ (fa_cons ⟨(fun n fs h => by cases h; exact ⟨clOK1, RJ4, TJ4, tyJ4, rfl, tyJ4_ok, by decide +kernel, (List.mem_append_right _ (List.mem_of_getElem? (i := 207) (by decide +kernel))), (List.mem_append_right _ (List.mem_of_getElem? (i := 208) (by decide +kernel))), (List.mem_append_right _ (List.mem_of_getElem? (i := 11) (by decide +kernel)))⟩), (fun h => nomatch h)⟩ (fa_cons (trivial) (fa_cons (trivial) (fa_cons (trivial) (fa_cons (trivial) (fa_cons (trivial) (fa_cons (trivial) fa_nil)))))))))))))
theorem nlpX8 : ∀ q ∈ nlX8, Jvm.Cond.constant RX8 q.1 q.2 ∈ lw_tbl := fa_nil
theorem cpokX8 : cpOK RX8 cpX8 := by
  refine ⟨fun k ci j ty fin h => flpX8 _ (lkp_mem h), fun k v h => slpX8 _ (lkp_mem h), fun k t y ci h => ?_, fun k ci h => clpX8 _ (lkp_mem h), fun k v h => nlpX8 _ (lkp_mem h)⟩
  exact mlpX8 _ (lkp_mem h)
def icX8 (x : Nat) : Nat := match x with
  | 0 => 76
  | 1 => 100
  | 2 => 137
  | 3 => 278
  | 4 => 324
  | 5 => 395
  | _ => 0
def stX8 : List (Nat × String) := [(74, "the loads are not from 1 to 20"), (90, "the pounds are not from 1 to 500"), (98, "the furnace would be too full"), (111, "the core is not from 10 to 60, or the sand not from 0 to 4"), (117, "there would be too many moulds"), (135, "there is no such mould"), (158, "what is not from 0 to 4"), (160, "the draught is not from 1 to 9"), (165, "there would be too many racks"), (173, "there is no such rack"), (178, "there are bells on the rack"), (189, "what is not from 0 to 2"), (194, "there is no such mould or rack"), (200, "the mould cannot be poured onto the rack"), (205, "the hours are not from 1 to 48"), (213, "there is no such bell"), (218, "the bell is in the hall, or warm"), (226, "the bell is not in the hall"), (231, "the marks are not from 1 to 6"), (236, "the bell is not in the hall, or would have too many marks"), (248, "the bell is not in the hall, or the furnace would be too full"), (253, "what is not from 0 to 6"), (255, "the hours are not from 0 to 48"), (263, "the note is not from 0 to 100"), (276, "there are no bells in the hall"), (282, "there is no such place"), (299, "no mould could be poured"), (310, "there is no such index in the line"), (322, "the input contains 60 characters"), (336, "the text has an error"), (348, "an order has a number that cannot be"), (353, "an order is refused"), (364, "nothing was refused"), (369, "what is not from 0 to 15"), (393, "there are no bells"), (402, "no change can be undone"), (407, "there is no snapshot")]
theorem stpX8 : ∀ q ∈ stX8, Jvm.Cond.stringRef RX8 q.1 q.2 ∈ lw_tbl := (fa_cons ((List.mem_append_right _ (List.mem_of_getElem? (i := 468) (by decide +kernel)))) (fa_cons ((List.mem_append_right _ (List.mem_of_getElem? (i := 514) (by decide +kernel)))) (fa_cons ((List.mem_append_right _ (List.mem_of_getElem? (i := 532) (by decide +kernel)))) (fa_cons ((List.mem_append_right _ (List.mem_of_getElem? (i := 553) (by decide +kernel)))) (fa_cons ((List.mem_append_right _ (List.mem_of_getElem? (i := 558) (by decide +kernel)))) (fa_cons ((List.mem_append_right _ (List.mem_of_getElem? (i := 615) (by decide +kernel)))) (fa_cons ((List.mem_append_right _ (List.mem_of_getElem? (i := 633) (by decide +kernel)))) (fa_cons ((List.mem_append_right _ (List.mem_of_getElem? (i := 641) (by decide +kernel)))) (fa_cons ((List.mem_append_right _ (List.mem_of_getElem? (i := 646) (by decide +kernel)))) (fa_cons ((List.mem_append_right _ (List.mem_of_getElem? (i := 658) (by decide +kernel)))) (fa_cons ((List.mem_append_right _ (List.mem_of_getElem? (i := 663) (by decide +kernel)))) (fa_cons ((List.mem_append_right _ (List.mem_of_getElem? (i := 686) (by decide +kernel)))) (fa_cons ((List.mem_append_right _ (List.mem_of_getElem? (i := 699) (by decide +kernel)))) (fa_cons ((List.mem_append_right _ (List.mem_of_getElem? (i := 706) (by decide +kernel)))) (fa_cons ((List.mem_append_right _ (List.mem_of_getElem? (i := 719) (by decide +kernel)))) (fa_cons ((List.mem_append_right _ (List.mem_of_getElem? (i := 748) (by decide +kernel)))) (fa_cons ((List.mem_append_right _ (List.mem_of_getElem? (i := 753) (by decide +kernel)))) (fa_cons ((List.mem_append_right _ (List.mem_of_getElem? (i := 769) (by decide +kernel)))) (fa_cons ((List.mem_append_right _ (List.mem_of_getElem? (i := 781) (by decide +kernel)))) (fa_cons ((List.mem_append_right _ (List.mem_of_getElem? (i := 787) (by decide +kernel)))) (fa_cons ((List.mem_append_right _ (List.mem_of_getElem? (i := 809) (by decide +kernel)))) (fa_cons ((List.mem_append_right _ (List.mem_of_getElem? (i := 821) (by decide +kernel)))) (fa_cons ((List.mem_append_right _ (List.mem_of_getElem? (i := 836) (by decide +kernel)))) (fa_cons ((List.mem_append_right _ (List.mem_of_getElem? (i := 859) (by decide +kernel)))) (fa_cons ((List.mem_append_right _ (List.mem_of_getElem? (i := 877) (by decide +kernel)))) (fa_cons ((List.mem_append_right _ (List.mem_of_getElem? (i := 896) (by decide +kernel)))) (fa_cons ((List.mem_append_right _ (List.mem_of_getElem? (i := 917) (by decide +kernel)))) (fa_cons ((List.mem_append_right _ (List.mem_of_getElem? (i := 1224) (by decide +kernel)))) (fa_cons ((List.mem_append_right _ (List.mem_of_getElem? (i := 1256) (by decide +kernel)))) (fa_cons ((List.mem_append_right _ (List.mem_of_getElem? (i := 1317) (by decide +kernel)))) (fa_cons ((List.mem_append_right _ (List.mem_of_getElem? (i := 1344) (by decide +kernel)))) (fa_cons ((List.mem_append_right _ (List.mem_of_getElem? (i := 1345) (by decide +kernel)))) (fa_cons ((List.mem_append_right _ (List.mem_of_getElem? (i := 1353) (by decide +kernel)))) (fa_cons ((List.mem_append_right _ (List.mem_of_getElem? (i := 1361) (by decide +kernel)))) (fa_cons ((List.mem_append_right _ (List.mem_of_getElem? (i := 1396) (by decide +kernel)))) (fa_cons ((List.mem_append_right _ (List.mem_of_getElem? (i := 1417) (by decide +kernel)))) (fa_cons ((List.mem_append_right _ (List.mem_of_getElem? (i := 1429) (by decide +kernel)))) fa_nil)))))))))))))))))))))))))))))))))))))
theorem thwX8_0 : thrW RX8 76 0 := fun q hq => of_decide_eq_true (List.all_eq_true.mp (show (vx_atS RX8 76 (exN 0) exNm).all (fun q => decide (q ∈ lw_tbl ∧ trW q = true ∧ vx_ot q = true)) = true by decide +kernel) q hq)
theorem thwX8_1 : thrW RX8 100 1 := fun q hq => of_decide_eq_true (List.all_eq_true.mp (show (vx_atS RX8 100 (exN 1) exNm).all (fun q => decide (q ∈ lw_tbl ∧ trW q = true ∧ vx_ot q = true)) = true by decide +kernel) q hq)
theorem thwX8_2 : thrW RX8 137 2 := fun q hq => of_decide_eq_true (List.all_eq_true.mp (show (vx_atS RX8 137 (exN 2) exNm).all (fun q => decide (q ∈ lw_tbl ∧ trW q = true ∧ vx_ot q = true)) = true by decide +kernel) q hq)
theorem thwX8_3 : thrW RX8 278 3 := fun q hq => of_decide_eq_true (List.all_eq_true.mp (show (vx_atS RX8 278 (exN 3) exNm).all (fun q => decide (q ∈ lw_tbl ∧ trW q = true ∧ vx_ot q = true)) = true by decide +kernel) q hq)
theorem thwX8_4 : thrW RX8 324 4 := fun q hq => of_decide_eq_true (List.all_eq_true.mp (show (vx_atS RX8 324 (exN 4) exNm).all (fun q => decide (q ∈ lw_tbl ∧ trW q = true ∧ vx_ot q = true)) = true by decide +kernel) q hq)
theorem thwX8_5 : thrW RX8 395 5 := fun q hq => of_decide_eq_true (List.all_eq_true.mp (show (vx_atS RX8 395 (exN 5) exNm).all (fun q => decide (q ∈ lw_tbl ∧ trW q = true ∧ vx_ot q = true)) = true by decide +kernel) q hq)
def thPX8 (q : Nat × (Nat ⊕ Nat)) : Prop := match q.2 with
  | .inl _ => True
  | .inr x => Jvm.Cond.classLink RX8 q.1 (exN x) ∈ lw_tbl ∧ Jvm.Cond.initialized (exN x) ∈ lw_tbl ∧ thrW RX8 (icX8 x) x
theorem thpX8 : ∀ q ∈ clX8, thPX8 q := (fa_cons trivial (fa_cons trivial (fa_cons trivial (fa_cons trivial (fa_cons trivial (fa_cons trivial (fa_cons trivial (fa_cons ⟨(List.mem_append_right _ (List.mem_of_getElem? (i := 422) (by decide +kernel))), (List.mem_append_right _ (List.mem_of_getElem? (i := 18) (by decide +kernel))), thwX8_0⟩ (fa_cons ⟨(List.mem_append_right _ (List.mem_of_getElem? (i := 523) (by decide +kernel))), (List.mem_append_right _ (List.mem_of_getElem? (i := 19) (by decide +kernel))), thwX8_1⟩ (fa_cons ⟨(List.mem_append_right _ (List.mem_of_getElem? (i := 606) (by decide +kernel))), (List.mem_append_right _ (List.mem_of_getElem? (i := 20) (by decide +kernel))), thwX8_2⟩ (fa_cons ⟨(List.mem_append_right _ (List.mem_of_getElem? (i := 868) (by decide +kernel))), (List.mem_append_right _ (List.mem_of_getElem? (i := 22) (by decide +kernel))), thwX8_3⟩ (fa_cons ⟨(List.mem_append_right _ (List.mem_of_getElem? (i := 1247) (by decide +kernel))), (List.mem_append_right _ (List.mem_of_getElem? (i := 31) (by decide +kernel))), thwX8_4⟩ (fa_cons ⟨(List.mem_append_right _ (List.mem_of_getElem? (i := 1395) (by decide +kernel))), (List.mem_append_right _ (List.mem_of_getElem? (i := 34) (by decide +kernel))), thwX8_5⟩ fa_nil)))))))))))))
def flX0 : List (Nat × (Nat × Nat × FieldType × Bool)) := [(14, (4, 0, .object "BellCores$Table", true)), (20, (4, 1, .object "BellCores$Table", true)), (23, (4, 2, .object "BellCores$Table", true)), (26, (4, 3, .int, false)), (30, (4, 4, .int, false)), (33, (4, 5, .int, false)), (36, (4, 6, .int, false)), (39, (4, 7, .int, false)), (42, (4, 8, .int, false)), (45, (4, 9, .int, false))]
def slX0 : List (Nat × Value) := [(143, .retAddr 0)]
def mlX0 : List (Nat × (Nat × m0T × Nat)) := [(3, (5, mNone, 0)), (11, (2, m_X6_init, 0)), (48, (0, m_X6_copyFrom, 9)), (52, (7, mNone, 0)), (58, (0, m_X5_keep, 8)), (64, (0, m_X6_size, 9)), (68, (0, m_X6_add, 9)), (71, (0, m_X6_put, 9)), (75, (0, m_X0_bellsOn, 4)), (79, (0, m_X6_drop, 9)), (83, (0, m_X6_get, 9)), (86, (0, m_X6_raise, 9)), (89, (0, m_X6_countOf, 9)), (92, (0, m_X6_has, 9)), (96, (3, m_X8_poundsFor, 0)), (99, (3, m_X8_heatFor, 0)), (102, (3, m_X8_firstNote, 0)), (105, (3, m_X8_heatAfterPouring, 0)), (108, (6, mNone, 0)), (111, (0, m_X0_lossOf, 4)), (114, (0, m_X0_cracksToCome, 4)), (118, (0, m_X0_addCracks, 4)), (121, (0, m_X0_lossOn, 4)), (124, (1, m_X0_warmHours, 0)), (127, (0, m_X0_noteOf, 4)), (130, (0, m_X0_refusesOutsideHall, 4)), (134, (0, m_X0_backByRecast, 4)), (137, (0, m_X0_refusesPounds, 4)), (140, (0, m_X0_bellsAheadOf, 4)), (147, (0, m_X0_isHeard, 4)), (150, (0, m_X6_sumOf, 9)), (153, (0, m_X0_soundInHall, 4))]
def clX0 : List (Nat × (Nat ⊕ Nat)) := [(9, .inl 9)]
def nlX0 : List (Nat × Int32) := []
def cpX0 : cpT := (lkp flX0, lkp slX0, lkp mlX0, lkp clX0, lkp nlX0)
theorem flpX0 : ∀ q ∈ flX0, fldOK RX0 q.1 q.2.1 q.2.2.1 q.2.2.2.1 q.2.2.2.2 := (fa_cons ⟨clOK4, RX0, TX0, 10, rfl, by decide, rfl, by decide +kernel, (List.mem_append_right _ (List.mem_of_getElem? (i := 72) (by decide +kernel))), fun _ => rfl⟩ (fa_cons ⟨clOK4, RX0, TX0, 10, rfl, by decide, rfl, by decide +kernel, (List.mem_append_right _ (List.mem_of_getElem? (i := 75) (by decide +kernel))), fun _ => rfl⟩ (fa_cons ⟨clOK4, RX0, TX0, 10, rfl, by decide, rfl, by decide +kernel, (List.mem_append_right _ (List.mem_of_getElem? (i := 77) (by decide +kernel))), fun _ => rfl⟩ (fa_cons ⟨clOK4, RX0, TX0, 10, rfl, by decide, rfl, by decide +kernel, (List.mem_append_right _ (List.mem_of_getElem? (i := 80) (by decide +kernel))), fun h => nomatch h⟩ (fa_cons ⟨clOK4, RX0, TX0, 10, rfl, by decide, rfl, by decide +kernel, (List.mem_append_right _ (List.mem_of_getElem? (i := 83) (by decide +kernel))), fun h => nomatch h⟩ (fa_cons ⟨clOK4, RX0, TX0, 10, rfl, by decide, rfl, by decide +kernel, (List.mem_append_right _ (List.mem_of_getElem? (i := 86) (by decide +kernel))), fun h => nomatch h⟩ (fa_cons ⟨clOK4, RX0, TX0, 10, rfl, by decide, rfl, by decide +kernel, (List.mem_append_right _ (List.mem_of_getElem? (i := 87) (by decide +kernel))), fun h => nomatch h⟩ (fa_cons ⟨clOK4, RX0, TX0, 10, rfl, by decide, rfl, by decide +kernel, (List.mem_append_right _ (List.mem_of_getElem? (i := 88) (by decide +kernel))), fun h => nomatch h⟩ (fa_cons ⟨clOK4, RX0, TX0, 10, rfl, by decide, rfl, by decide +kernel, (List.mem_append_right _ (List.mem_of_getElem? (i := 89) (by decide +kernel))), fun h => nomatch h⟩ (fa_cons ⟨clOK4, RX0, TX0, 10, rfl, by decide, rfl, by decide +kernel, (List.mem_append_right _ (List.mem_of_getElem? (i := 90) (by decide +kernel))), fun h => nomatch h⟩ fa_nil))))))))))
theorem slpX0 : ∀ q ∈ slX0, stcOK RX0 q.1 q.2 := (fa_cons ⟨_, List.mem_of_getElem? (i := 0) rfl, rfl, Or.inr ⟨_, (List.mem_append_right _ (List.mem_of_getElem? (i := 371) (by decide +kernel)))⟩⟩ fa_nil)
theorem mpX0_3 : oiOK RX0 3 := ⟨(List.mem_append_right _ (List.mem_of_getElem? (i := 48) (by decide +kernel))), (List.mem_append_right _ (List.mem_of_getElem? (i := 41) (by decide +kernel))), (List.mem_append_right _ (List.mem_of_getElem? (i := 42) (by decide +kernel)))⟩
theorem mpX0_11 : iOK RX0 11 m_X6_init := ⟨mo_X6_init, rfl, rfl, (List.mem_append_right _ (List.mem_of_getElem? (i := 51) (by decide +kernel))), rfl, (List.mem_append_right _ (List.mem_of_getElem? (i := 52) (by decide +kernel)))⟩
theorem mpX0_48 : vOK RX0 48 m_X6_copyFrom 9 := ⟨mo_X6_copyFrom, rfl, (List.mem_append_right _ (List.mem_of_getElem? (i := 406) (by decide +kernel))), (List.mem_append_right _ (List.mem_of_getElem? (i := 407) (by decide +kernel))), (List.mem_append_right _ (List.mem_of_getElem? (i := 408) (by decide +kernel))), TX6, 4, rfl⟩
theorem mpX0_52 : mnOK RX0 52 := ⟨(List.mem_append_right _ (List.mem_of_getElem? (i := 505) (by decide +kernel))), (List.mem_append_right _ (List.mem_of_getElem? (i := 284) (by decide +kernel))), (List.mem_append_right _ (List.mem_of_getElem? (i := 4) (by decide +kernel))), (List.mem_append_right _ (List.mem_of_getElem? (i := 285) (by decide +kernel)))⟩
theorem mpX0_58 : vOK RX0 58 m_X5_keep 8 := ⟨mo_X5_keep, rfl, (List.mem_append_right _ (List.mem_of_getElem? (i := 519) (by decide +kernel))), (List.mem_append_right _ (List.mem_of_getElem? (i := 520) (by decide +kernel))), (List.mem_append_right _ (List.mem_of_getElem? (i := 521) (by decide +kernel))), TX5, 2, rfl⟩
theorem mpX0_64 : vOK RX0 64 m_X6_size 9 := ⟨mo_X6_size, rfl, (List.mem_append_right _ (List.mem_of_getElem? (i := 341) (by decide +kernel))), (List.mem_append_right _ (List.mem_of_getElem? (i := 280) (by decide +kernel))), (List.mem_append_right _ (List.mem_of_getElem? (i := 281) (by decide +kernel))), TX6, 4, rfl⟩
theorem mpX0_68 : vOK RX0 68 m_X6_add 9 := ⟨mo_X6_add, rfl, (List.mem_append_right _ (List.mem_of_getElem? (i := 563) (by decide +kernel))), (List.mem_append_right _ (List.mem_of_getElem? (i := 564) (by decide +kernel))), (List.mem_append_right _ (List.mem_of_getElem? (i := 565) (by decide +kernel))), TX6, 4, rfl⟩
theorem mpX0_71 : vOK RX0 71 m_X6_put 9 := ⟨mo_X6_put, rfl, (List.mem_append_right _ (List.mem_of_getElem? (i := 567) (by decide +kernel))), (List.mem_append_right _ (List.mem_of_getElem? (i := 568) (by decide +kernel))), (List.mem_append_right _ (List.mem_of_getElem? (i := 569) (by decide +kernel))), TX6, 4, rfl⟩
theorem mpX0_75 : vOK RX0 75 m_X0_bellsOn 4 := ⟨mo_X0_bellsOn, rfl, (List.mem_append_right _ (List.mem_of_getElem? (i := 389) (by decide +kernel))), (List.mem_append_right _ (List.mem_of_getElem? (i := 390) (by decide +kernel))), (List.mem_append_right _ (List.mem_of_getElem? (i := 391) (by decide +kernel))), TX0, 10, rfl⟩
theorem mpX0_79 : vOK RX0 79 m_X6_drop 9 := ⟨mo_X6_drop, rfl, (List.mem_append_right _ (List.mem_of_getElem? (i := 668) (by decide +kernel))), (List.mem_append_right _ (List.mem_of_getElem? (i := 620) (by decide +kernel))), (List.mem_append_right _ (List.mem_of_getElem? (i := 621) (by decide +kernel))), TX6, 4, rfl⟩
theorem mpX0_83 : vOK RX0 83 m_X6_get 9 := ⟨mo_X6_get, rfl, (List.mem_append_right _ (List.mem_of_getElem? (i := 346) (by decide +kernel))), (List.mem_append_right _ (List.mem_of_getElem? (i := 287) (by decide +kernel))), (List.mem_append_right _ (List.mem_of_getElem? (i := 288) (by decide +kernel))), TX6, 4, rfl⟩
theorem mpX0_86 : vOK RX0 86 m_X6_raise 9 := ⟨mo_X6_raise, rfl, (List.mem_append_right _ (List.mem_of_getElem? (i := 669) (by decide +kernel))), (List.mem_append_right _ (List.mem_of_getElem? (i := 670) (by decide +kernel))), (List.mem_append_right _ (List.mem_of_getElem? (i := 671) (by decide +kernel))), TX6, 4, rfl⟩
theorem mpX0_89 : vOK RX0 89 m_X6_countOf 9 := ⟨mo_X6_countOf, rfl, (List.mem_append_right _ (List.mem_of_getElem? (i := 393) (by decide +kernel))), (List.mem_append_right _ (List.mem_of_getElem? (i := 394) (by decide +kernel))), (List.mem_append_right _ (List.mem_of_getElem? (i := 395) (by decide +kernel))), TX6, 4, rfl⟩
theorem mpX0_92 : vOK RX0 92 m_X6_has 9 := ⟨mo_X6_has, rfl, (List.mem_append_right _ (List.mem_of_getElem? (i := 698) (by decide +kernel))), (List.mem_append_right _ (List.mem_of_getElem? (i := 603) (by decide +kernel))), (List.mem_append_right _ (List.mem_of_getElem? (i := 604) (by decide +kernel))), TX6, 4, rfl⟩
theorem mpX0_96 : snOK RX0 96 m_X8_poundsFor := ⟨mo_X8_poundsFor, rfl, ⟨_, (List.mem_append_right _ (List.mem_of_getElem? (i := 704) (by decide +kernel)))⟩, (List.mem_append_right _ (List.mem_of_getElem? (i := 302) (by decide +kernel)))⟩
theorem mpX0_99 : snOK RX0 99 m_X8_heatFor := ⟨mo_X8_heatFor, rfl, ⟨_, (List.mem_append_right _ (List.mem_of_getElem? (i := 705) (by decide +kernel)))⟩, (List.mem_append_right _ (List.mem_of_getElem? (i := 318) (by decide +kernel)))⟩
theorem mpX0_102 : snOK RX0 102 m_X8_firstNote := ⟨mo_X8_firstNote, rfl, ⟨_, (List.mem_append_right _ (List.mem_of_getElem? (i := 347) (by decide +kernel)))⟩, (List.mem_append_right _ (List.mem_of_getElem? (i := 348) (by decide +kernel)))⟩
theorem mpX0_105 : snOK RX0 105 m_X8_heatAfterPouring := ⟨mo_X8_heatAfterPouring, rfl, ⟨_, (List.mem_append_right _ (List.mem_of_getElem? (i := 711) (by decide +kernel)))⟩, (List.mem_append_right _ (List.mem_of_getElem? (i := 299) (by decide +kernel)))⟩
theorem mpX0_108 : mmOK RX0 108 := ⟨(List.mem_append_right _ (List.mem_of_getElem? (i := 724) (by decide +kernel))), (List.mem_append_right _ (List.mem_of_getElem? (i := 56) (by decide +kernel))), (List.mem_append_right _ (List.mem_of_getElem? (i := 4) (by decide +kernel))), (List.mem_append_right _ (List.mem_of_getElem? (i := 57) (by decide +kernel)))⟩
theorem mpX0_111 : vOK RX0 111 m_X0_lossOf 4 := ⟨mo_X0_lossOf, rfl, (List.mem_append_right _ (List.mem_of_getElem? (i := 725) (by decide +kernel))), (List.mem_append_right _ (List.mem_of_getElem? (i := 727) (by decide +kernel))), (List.mem_append_left _ (List.mem_of_getElem? (i := 7) (by decide +kernel))), TX0, 10, rfl⟩
theorem mpX0_114 : vOK RX0 114 m_X0_cracksToCome 4 := ⟨mo_X0_cracksToCome, rfl, (List.mem_append_right _ (List.mem_of_getElem? (i := 730) (by decide +kernel))), (List.mem_append_right _ (List.mem_of_getElem? (i := 732) (by decide +kernel))), (List.mem_append_left _ (List.mem_of_getElem? (i := 8) (by decide +kernel))), TX0, 10, rfl⟩
theorem mpX0_118 : vOK RX0 118 m_X0_addCracks 4 := ⟨mo_X0_addCracks, rfl, (List.mem_append_right _ (List.mem_of_getElem? (i := 737) (by decide +kernel))), (List.mem_append_right _ (List.mem_of_getElem? (i := 739) (by decide +kernel))), (List.mem_append_left _ (List.mem_of_getElem? (i := 9) (by decide +kernel))), TX0, 10, rfl⟩
theorem mpX0_121 : vOK RX0 121 m_X0_lossOn 4 := ⟨mo_X0_lossOn, rfl, (List.mem_append_right _ (List.mem_of_getElem? (i := 729) (by decide +kernel))), (List.mem_append_right _ (List.mem_of_getElem? (i := 683) (by decide +kernel))), (List.mem_append_right _ (List.mem_of_getElem? (i := 684) (by decide +kernel))), TX0, 10, rfl⟩
theorem mpX0_124 : sOK RX0 124 m_X0_warmHours := ⟨mo_X0_warmHours, rfl, (List.mem_append_right _ (List.mem_of_getElem? (i := 734) (by decide +kernel))), (List.mem_append_right _ (List.mem_of_getElem? (i := 735) (by decide +kernel)))⟩
theorem mpX0_127 : vOK RX0 127 m_X0_noteOf 4 := ⟨mo_X0_noteOf, rfl, (List.mem_append_right _ (List.mem_of_getElem? (i := 342) (by decide +kernel))), (List.mem_append_right _ (List.mem_of_getElem? (i := 343) (by decide +kernel))), (List.mem_append_right _ (List.mem_of_getElem? (i := 344) (by decide +kernel))), TX0, 10, rfl⟩
theorem mpX0_130 : vOK RX0 130 m_X0_refusesOutsideHall 4 := ⟨mo_X0_refusesOutsideHall, rfl, (List.mem_append_right _ (List.mem_of_getElem? (i := 786) (by decide +kernel))), (List.mem_append_right _ (List.mem_of_getElem? (i := 766) (by decide +kernel))), (List.mem_append_right _ (List.mem_of_getElem? (i := 767) (by decide +kernel))), TX0, 10, rfl⟩
theorem mpX0_134 : vOK RX0 134 m_X0_backByRecast 4 := ⟨mo_X0_backByRecast, rfl, (List.mem_append_right _ (List.mem_of_getElem? (i := 804) (by decide +kernel))), (List.mem_append_right _ (List.mem_of_getElem? (i := 806) (by decide +kernel))), (List.mem_append_left _ (List.mem_of_getElem? (i := 10) (by decide +kernel))), TX0, 10, rfl⟩
theorem mpX0_137 : vOK RX0 137 m_X0_refusesPounds 4 := ⟨mo_X0_refusesPounds, rfl, (List.mem_append_right _ (List.mem_of_getElem? (i := 808) (by decide +kernel))), (List.mem_append_right _ (List.mem_of_getElem? (i := 516) (by decide +kernel))), (List.mem_append_right _ (List.mem_of_getElem? (i := 517) (by decide +kernel))), TX0, 10, rfl⟩
theorem mpX0_140 : vOK RX0 140 m_X0_bellsAheadOf 4 := ⟨mo_X0_bellsAheadOf, rfl, (List.mem_append_right _ (List.mem_of_getElem? (i := 901) (by decide +kernel))), (List.mem_append_right _ (List.mem_of_getElem? (i := 903) (by decide +kernel))), (List.mem_append_left _ (List.mem_of_getElem? (i := 11) (by decide +kernel))), TX0, 10, rfl⟩
theorem mpX0_147 : vOK RX0 147 m_X0_isHeard 4 := ⟨mo_X0_isHeard, rfl, (List.mem_append_right _ (List.mem_of_getElem? (i := 372) (by decide +kernel))), (List.mem_append_right _ (List.mem_of_getElem? (i := 374) (by decide +kernel))), (List.mem_append_left _ (List.mem_of_getElem? (i := 5) (by decide +kernel))), TX0, 10, rfl⟩
theorem mpX0_150 : vOK RX0 150 m_X6_sumOf 9 := ⟨mo_X6_sumOf, rfl, (List.mem_append_right _ (List.mem_of_getElem? (i := 380) (by decide +kernel))), (List.mem_append_right _ (List.mem_of_getElem? (i := 381) (by decide +kernel))), (List.mem_append_right _ (List.mem_of_getElem? (i := 382) (by decide +kernel))), TX6, 4, rfl⟩
theorem mpX0_153 : vOK RX0 153 m_X0_soundInHall 4 := ⟨mo_X0_soundInHall, rfl, (List.mem_append_right _ (List.mem_of_getElem? (i := 1370) (by decide +kernel))), (List.mem_append_right _ (List.mem_of_getElem? (i := 1372) (by decide +kernel))), (List.mem_append_left _ (List.mem_of_getElem? (i := 25) (by decide +kernel))), TX0, 10, rfl⟩
theorem mlpX0 : ∀ q ∈ mlX0, ((match q.2.1 with
    | 0 => vOK RX0 q.1 q.2.2.1 q.2.2.2
    | 1 => sOK RX0 q.1 q.2.2.1
    | 2 => iOK RX0 q.1 q.2.2.1
    | 3 => snOK RX0 q.1 q.2.2.1
    | 4 => inOK RX0 q.1 q.2.2.1
    | 5 => oiOK RX0 q.1
    | 6 => mmOK RX0 q.1
    | 7 => mnOK RX0 q.1
    | 8 => acOK RX0 q.1
    | 9 => uOK RX0 q.1 q.2.2.1
    | 10 => suOK RX0 q.1 q.2.2.1
    | 11 => swOK RX0 q.1 q.2.2.1
    | _ => False) : Prop) := (fa_cons mpX0_3 (fa_cons mpX0_11 (fa_cons mpX0_48 (fa_cons mpX0_52 (fa_cons mpX0_58 (fa_cons mpX0_64 (fa_cons mpX0_68 (fa_cons mpX0_71 (fa_cons mpX0_75 (fa_cons mpX0_79 (fa_cons mpX0_83 (fa_cons mpX0_86 (fa_cons mpX0_89 (fa_cons mpX0_92 (fa_cons mpX0_96 (fa_cons mpX0_99 (fa_cons mpX0_102 (fa_cons mpX0_105 (fa_cons mpX0_108 (fa_cons mpX0_111 (fa_cons mpX0_114 (fa_cons mpX0_118 (fa_cons mpX0_121 (fa_cons mpX0_124 (fa_cons mpX0_127 (fa_cons mpX0_130 (fa_cons mpX0_134 (fa_cons mpX0_137 (fa_cons mpX0_140 (fa_cons mpX0_147 (fa_cons mpX0_150 (fa_cons mpX0_153 fa_nil))))))))))))))))))))))))))))))))
def clPX0 (q : Nat × (Nat ⊕ Nat)) : Prop := match q.2 with
  | .inl ci => (∀ n fs, newF ci = some (n, fs) → newOK RX0 q.1 ci n fs) ∧ (ci = 4 → Jvm.Cond.classLink RX0 q.1 RX0 ∈ lw_tbl)
  | .inr _ => True
theorem clpX0 : ∀ q ∈ clX0, clPX0 q := (fa_cons ⟨(fun n fs h => by cases h; exact ⟨clOK9, RX6, TX6, tyX6, rfl, tyX6_ok, by decide +kernel, (List.mem_append_right _ (List.mem_of_getElem? (i := 49) (by decide +kernel))), (List.mem_append_right _ (List.mem_of_getElem? (i := 50) (by decide +kernel))), (List.mem_append_right _ (List.mem_of_getElem? (i := 3) (by decide +kernel)))⟩), (fun h => nomatch h)⟩ fa_nil)
theorem nlpX0 : ∀ q ∈ nlX0, Jvm.Cond.constant RX0 q.1 q.2 ∈ lw_tbl := fa_nil
theorem cpokX0 : cpOK RX0 cpX0 := by
  refine ⟨fun k ci j ty fin h => flpX0 _ (lkp_mem h), fun k v h => slpX0 _ (lkp_mem h), fun k t y ci h => ?_, fun k ci h => clpX0 _ (lkp_mem h), fun k v h => nlpX0 _ (lkp_mem h)⟩
  exact mlpX0 _ (lkp_mem h)
def flX1 : List (Nat × (Nat × Nat × FieldType × Bool)) := [(9, (5, 0, .array .boolean, true)), (15, (4, 2, .object "BellCores$Table", true))]
def slX1 : List (Nat × Value) := [(35, .retAddr 0)]
def mlX1 : List (Nat × (Nat × m0T × Nat)) := [(3, (5, mNone, 0)), (21, (0, m_X6_size, 9)), (27, (0, m_X0_noteOf, 4)), (31, (0, m_X6_get, 9)), (39, (0, m_X1_pealFrom, 5))]
def clX1 : List (Nat × (Nat ⊕ Nat)) := []
def nlX1 : List (Nat × Int32) := []
def cpX1 : cpT := (lkp flX1, lkp slX1, lkp mlX1, lkp clX1, lkp nlX1)
theorem flpX1 : ∀ q ∈ flX1, fldOK RX1 q.1 q.2.1 q.2.2.1 q.2.2.2.1 q.2.2.2.2 := (fa_cons ⟨clOK5, RX1, TX1, 1, rfl, by decide, rfl, by decide +kernel, (List.mem_append_right _ (List.mem_of_getElem? (i := 174) (by decide +kernel))), fun _ => rfl⟩ (fa_cons ⟨clOK4, RX0, TX0, 10, rfl, by decide, rfl, by decide +kernel, (List.mem_append_right _ (List.mem_of_getElem? (i := 78) (by decide +kernel))), fun h => nomatch h⟩ fa_nil))
theorem slpX1 : ∀ q ∈ slX1, stcOK RX1 q.1 q.2 := (fa_cons ⟨_, List.mem_of_getElem? (i := 0) rfl, rfl, Or.inr ⟨_, (List.mem_append_right _ (List.mem_of_getElem? (i := 365) (by decide +kernel)))⟩⟩ fa_nil)
theorem mpX1_3 : oiOK RX1 3 := ⟨(List.mem_append_right _ (List.mem_of_getElem? (i := 173) (by decide +kernel))), (List.mem_append_right _ (List.mem_of_getElem? (i := 41) (by decide +kernel))), (List.mem_append_right _ (List.mem_of_getElem? (i := 42) (by decide +kernel)))⟩
theorem mpX1_21 : vOK RX1 21 m_X6_size 9 := ⟨mo_X6_size, rfl, (List.mem_append_right _ (List.mem_of_getElem? (i := 358) (by decide +kernel))), (List.mem_append_right _ (List.mem_of_getElem? (i := 280) (by decide +kernel))), (List.mem_append_right _ (List.mem_of_getElem? (i := 281) (by decide +kernel))), TX6, 4, rfl⟩
theorem mpX1_27 : vOK RX1 27 m_X0_noteOf 4 := ⟨mo_X0_noteOf, rfl, (List.mem_append_right _ (List.mem_of_getElem? (i := 359) (by decide +kernel))), (List.mem_append_right _ (List.mem_of_getElem? (i := 343) (by decide +kernel))), (List.mem_append_right _ (List.mem_of_getElem? (i := 344) (by decide +kernel))), TX0, 10, rfl⟩
theorem mpX1_31 : vOK RX1 31 m_X6_get 9 := ⟨mo_X6_get, rfl, (List.mem_append_right _ (List.mem_of_getElem? (i := 360) (by decide +kernel))), (List.mem_append_right _ (List.mem_of_getElem? (i := 287) (by decide +kernel))), (List.mem_append_right _ (List.mem_of_getElem? (i := 288) (by decide +kernel))), TX6, 4, rfl⟩
theorem mpX1_39 : vOK RX1 39 m_X1_pealFrom 5 := ⟨mo_X1_pealFrom, rfl, (List.mem_append_right _ (List.mem_of_getElem? (i := 888) (by decide +kernel))), (List.mem_append_right _ (List.mem_of_getElem? (i := 362) (by decide +kernel))), (List.mem_append_right _ (List.mem_of_getElem? (i := 363) (by decide +kernel))), TX1, 1, rfl⟩
theorem mlpX1 : ∀ q ∈ mlX1, ((match q.2.1 with
    | 0 => vOK RX1 q.1 q.2.2.1 q.2.2.2
    | 1 => sOK RX1 q.1 q.2.2.1
    | 2 => iOK RX1 q.1 q.2.2.1
    | 3 => snOK RX1 q.1 q.2.2.1
    | 4 => inOK RX1 q.1 q.2.2.1
    | 5 => oiOK RX1 q.1
    | 6 => mmOK RX1 q.1
    | 7 => mnOK RX1 q.1
    | 8 => acOK RX1 q.1
    | 9 => uOK RX1 q.1 q.2.2.1
    | 10 => suOK RX1 q.1 q.2.2.1
    | 11 => swOK RX1 q.1 q.2.2.1
    | _ => False) : Prop) := (fa_cons mpX1_3 (fa_cons mpX1_21 (fa_cons mpX1_27 (fa_cons mpX1_31 (fa_cons mpX1_39 fa_nil)))))
def clPX1 (q : Nat × (Nat ⊕ Nat)) : Prop := match q.2 with
  | .inl ci => (∀ n fs, newF ci = some (n, fs) → newOK RX1 q.1 ci n fs) ∧ (ci = 4 → Jvm.Cond.classLink RX1 q.1 RX0 ∈ lw_tbl)
  | .inr _ => True
theorem clpX1 : ∀ q ∈ clX1, clPX1 q := fa_nil
theorem nlpX1 : ∀ q ∈ nlX1, Jvm.Cond.constant RX1 q.1 q.2 ∈ lw_tbl := fa_nil
theorem cpokX1 : cpOK RX1 cpX1 := by
  refine ⟨fun k ci j ty fin h => flpX1 _ (lkp_mem h), fun k v h => slpX1 _ (lkp_mem h), fun k t y ci h => ?_, fun k ci h => clpX1 _ (lkp_mem h), fun k v h => nlpX1 _ (lkp_mem h)⟩
  exact mlpX1 _ (lkp_mem h)
def flX2 : List (Nat × (Nat × Nat × FieldType × Bool)) := [(11, (6, 0, .array (.object "BellCores$Foundry"), true)), (15, (6, 1, .int, false)), (19, (6, 2, .int, false))]
def slX2 : List (Nat × Value) := []
def mlX2 : List (Nat × (Nat × m0T × Nat)) := [(1, (5, mNone, 0)), (22, (4, m_X0_init, 0)), (23, (0, m_X0_copyFrom, 4)), (27, (7, mNone, 0))]
def clX2 : List (Nat × (Nat ⊕ Nat)) := [(9, .inl 4)]
def nlX2 : List (Nat × Int32) := []
def cpX2 : cpT := (lkp flX2, lkp slX2, lkp mlX2, lkp clX2, lkp nlX2)
theorem flpX2 : ∀ q ∈ flX2, fldOK RX2 q.1 q.2.1 q.2.2.1 q.2.2.2.1 q.2.2.2.2 := (fa_cons ⟨clOK6, RX2, TX2, 3, rfl, by decide, rfl, by decide +kernel, (List.mem_append_right _ (List.mem_of_getElem? (i := 120) (by decide +kernel))), fun _ => rfl⟩ (fa_cons ⟨clOK6, RX2, TX2, 3, rfl, by decide, rfl, by decide +kernel, (List.mem_append_right _ (List.mem_of_getElem? (i := 121) (by decide +kernel))), fun h => nomatch h⟩ (fa_cons ⟨clOK6, RX2, TX2, 3, rfl, by decide, rfl, by decide +kernel, (List.mem_append_right _ (List.mem_of_getElem? (i := 122) (by decide +kernel))), fun h => nomatch h⟩ fa_nil)))
theorem slpX2 : ∀ q ∈ slX2, stcOK RX2 q.1 q.2 := fa_nil
theorem mpX2_1 : oiOK RX2 1 := ⟨(List.mem_append_right _ (List.mem_of_getElem? (i := 117) (by decide +kernel))), (List.mem_append_right _ (List.mem_of_getElem? (i := 41) (by decide +kernel))), (List.mem_append_right _ (List.mem_of_getElem? (i := 42) (by decide +kernel)))⟩
theorem mpX2_22 : inOK RX2 22 m_X0_init := ⟨mo_X0_init, rfl, rfl, ⟨_, (List.mem_append_right _ (List.mem_of_getElem? (i := 498) (by decide +kernel)))⟩, rfl, (List.mem_append_right _ (List.mem_of_getElem? (i := 46) (by decide +kernel)))⟩
theorem mpX2_23 : vOK RX2 23 m_X0_copyFrom 4 := ⟨mo_X0_copyFrom, rfl, (List.mem_append_right _ (List.mem_of_getElem? (i := 499) (by decide +kernel))), (List.mem_append_right _ (List.mem_of_getElem? (i := 403) (by decide +kernel))), (List.mem_append_right _ (List.mem_of_getElem? (i := 404) (by decide +kernel))), TX0, 10, rfl⟩
theorem mpX2_27 : mnOK RX2 27 := ⟨(List.mem_append_right _ (List.mem_of_getElem? (i := 500) (by decide +kernel))), (List.mem_append_right _ (List.mem_of_getElem? (i := 284) (by decide +kernel))), (List.mem_append_right _ (List.mem_of_getElem? (i := 4) (by decide +kernel))), (List.mem_append_right _ (List.mem_of_getElem? (i := 285) (by decide +kernel)))⟩
theorem mlpX2 : ∀ q ∈ mlX2, ((match q.2.1 with
    | 0 => vOK RX2 q.1 q.2.2.1 q.2.2.2
    | 1 => sOK RX2 q.1 q.2.2.1
    | 2 => iOK RX2 q.1 q.2.2.1
    | 3 => snOK RX2 q.1 q.2.2.1
    | 4 => inOK RX2 q.1 q.2.2.1
    | 5 => oiOK RX2 q.1
    | 6 => mmOK RX2 q.1
    | 7 => mnOK RX2 q.1
    | 8 => acOK RX2 q.1
    | 9 => uOK RX2 q.1 q.2.2.1
    | 10 => suOK RX2 q.1 q.2.2.1
    | 11 => swOK RX2 q.1 q.2.2.1
    | _ => False) : Prop) := (fa_cons mpX2_1 (fa_cons mpX2_22 (fa_cons mpX2_23 (fa_cons mpX2_27 fa_nil))))
def clPX2 (q : Nat × (Nat ⊕ Nat)) : Prop := match q.2 with
  | .inl ci => (∀ n fs, newF ci = some (n, fs) → newOK RX2 q.1 ci n fs) ∧ (ci = 4 → Jvm.Cond.classLink RX2 q.1 RX0 ∈ lw_tbl)
  | .inr _ => True
theorem clpX2 : ∀ q ∈ clX2, clPX2 q := (fa_cons ⟨(fun n fs h => by cases h; exact ⟨clOK4, RX0, TX0, tyX0, rfl, tyX0_ok, by decide +kernel, (List.mem_append_right _ (List.mem_of_getElem? (i := 118) (by decide +kernel))), (List.mem_append_right _ (List.mem_of_getElem? (i := 44) (by decide +kernel))), (List.mem_append_right _ (List.mem_of_getElem? (i := 2) (by decide +kernel)))⟩), (fun _ => (List.mem_append_right _ (List.mem_of_getElem? (i := 118) (by decide +kernel))))⟩ fa_nil)
theorem nlpX2 : ∀ q ∈ nlX2, Jvm.Cond.constant RX2 q.1 q.2 ∈ lw_tbl := fa_nil
theorem cpokX2 : cpOK RX2 cpX2 := by
  refine ⟨fun k ci j ty fin h => flpX2 _ (lkp_mem h), fun k v h => slpX2 _ (lkp_mem h), fun k t y ci h => ?_, fun k ci h => clpX2 _ (lkp_mem h), fun k v h => nlpX2 _ (lkp_mem h)⟩
  exact mlpX2 _ (lkp_mem h)
def flX4 : List (Nat × (Nat × Nat × FieldType × Bool)) := [(9, (7, 0, .array .int, true)), (15, (7, 1, .int, false)), (19, (7, 2, .int, false)), (22, (7, 3, .int, false)), (25, (7, 4, .array .int, true)), (28, (7, 5, .array .int, true)), (31, (7, 6, .array .int, true)), (34, (4, 0, .object "BellCores$Table", true)), (55, (4, 3, .int, false)), (56, (4, 4, .int, false))]
def slX4 : List (Nat × Value) := []
def mlX4 : List (Nat × (Nat × m0T × Nat)) := [(3, (5, mNone, 0)), (40, (0, m_X6_size, 9)), (46, (7, mNone, 0)), (52, (0, m_X6_get, 9)), (57, (3, m_X8_heatFor, 0)), (61, (3, m_X8_poundsFor, 0)), (64, (0, m_X4_hottestBut, 7)), (67, (1, m_X4_isEnough, 0)), (71, (3, m_X8_heatAfterPouring, 0)), (74, (0, m_X4_weighWhatIsLeft, 7)), (77, (0, m_X4_countBehind, 7)), (80, (0, m_X4_best, 7)), (83, (0, m_X4_pouredWithNext, 7)), (86, (6, mNone, 0))]
def clX4 : List (Nat × (Nat ⊕ Nat)) := []
def nlX4 : List (Nat × Int32) := []
def cpX4 : cpT := (lkp flX4, lkp slX4, lkp mlX4, lkp clX4, lkp nlX4)
theorem flpX4 : ∀ q ∈ flX4, fldOK RX4 q.1 q.2.1 q.2.2.1 q.2.2.2.1 q.2.2.2.2 := (fa_cons ⟨clOK7, RX4, TX4, 7, rfl, by decide, rfl, by decide +kernel, (List.mem_append_right _ (List.mem_of_getElem? (i := 185) (by decide +kernel))), fun _ => rfl⟩ (fa_cons ⟨clOK7, RX4, TX4, 7, rfl, by decide, rfl, by decide +kernel, (List.mem_append_right _ (List.mem_of_getElem? (i := 186) (by decide +kernel))), fun h => nomatch h⟩ (fa_cons ⟨clOK7, RX4, TX4, 7, rfl, by decide, rfl, by decide +kernel, (List.mem_append_right _ (List.mem_of_getElem? (i := 187) (by decide +kernel))), fun h => nomatch h⟩ (fa_cons ⟨clOK7, RX4, TX4, 7, rfl, by decide, rfl, by decide +kernel, (List.mem_append_right _ (List.mem_of_getElem? (i := 188) (by decide +kernel))), fun h => nomatch h⟩ (fa_cons ⟨clOK7, RX4, TX4, 7, rfl, by decide, rfl, by decide +kernel, (List.mem_append_right _ (List.mem_of_getElem? (i := 189) (by decide +kernel))), fun _ => rfl⟩ (fa_cons ⟨clOK7, RX4, TX4, 7, rfl, by decide, rfl, by decide +kernel, (List.mem_append_right _ (List.mem_of_getElem? (i := 190) (by decide +kernel))), fun _ => rfl⟩ (fa_cons ⟨clOK7, RX4, TX4, 7, rfl, by decide, rfl, by decide +kernel, (List.mem_append_right _ (List.mem_of_getElem? (i := 191) (by decide +kernel))), fun _ => rfl⟩ (fa_cons ⟨clOK4, RX0, TX0, 10, rfl, by decide, rfl, by decide +kernel, (List.mem_append_right _ (List.mem_of_getElem? (i := 73) (by decide +kernel))), fun h => nomatch h⟩ (fa_cons ⟨clOK4, RX0, TX0, 10, rfl, by decide, rfl, by decide +kernel, (List.mem_append_right _ (List.mem_of_getElem? (i := 82) (by decide +kernel))), fun h => nomatch h⟩ (fa_cons ⟨clOK4, RX0, TX0, 10, rfl, by decide, rfl, by decide +kernel, (List.mem_append_right _ (List.mem_of_getElem? (i := 84) (by decide +kernel))), fun h => nomatch h⟩ fa_nil))))))))))
theorem slpX4 : ∀ q ∈ slX4, stcOK RX4 q.1 q.2 := fa_nil
theorem mpX4_3 : oiOK RX4 3 := ⟨(List.mem_append_right _ (List.mem_of_getElem? (i := 184) (by decide +kernel))), (List.mem_append_right _ (List.mem_of_getElem? (i := 41) (by decide +kernel))), (List.mem_append_right _ (List.mem_of_getElem? (i := 42) (by decide +kernel)))⟩
theorem mpX4_40 : vOK RX4 40 m_X6_size 9 := ⟨mo_X6_size, rfl, (List.mem_append_right _ (List.mem_of_getElem? (i := 279) (by decide +kernel))), (List.mem_append_right _ (List.mem_of_getElem? (i := 280) (by decide +kernel))), (List.mem_append_right _ (List.mem_of_getElem? (i := 281) (by decide +kernel))), TX6, 4, rfl⟩
theorem mpX4_46 : mnOK RX4 46 := ⟨(List.mem_append_right _ (List.mem_of_getElem? (i := 283) (by decide +kernel))), (List.mem_append_right _ (List.mem_of_getElem? (i := 284) (by decide +kernel))), (List.mem_append_right _ (List.mem_of_getElem? (i := 4) (by decide +kernel))), (List.mem_append_right _ (List.mem_of_getElem? (i := 285) (by decide +kernel)))⟩
theorem mpX4_52 : vOK RX4 52 m_X6_get 9 := ⟨mo_X6_get, rfl, (List.mem_append_right _ (List.mem_of_getElem? (i := 286) (by decide +kernel))), (List.mem_append_right _ (List.mem_of_getElem? (i := 287) (by decide +kernel))), (List.mem_append_right _ (List.mem_of_getElem? (i := 288) (by decide +kernel))), TX6, 4, rfl⟩
theorem mpX4_57 : snOK RX4 57 m_X8_heatFor := ⟨mo_X8_heatFor, rfl, ⟨_, (List.mem_append_right _ (List.mem_of_getElem? (i := 317) (by decide +kernel)))⟩, (List.mem_append_right _ (List.mem_of_getElem? (i := 318) (by decide +kernel)))⟩
theorem mpX4_61 : snOK RX4 61 m_X8_poundsFor := ⟨mo_X8_poundsFor, rfl, ⟨_, (List.mem_append_right _ (List.mem_of_getElem? (i := 305) (by decide +kernel)))⟩, (List.mem_append_right _ (List.mem_of_getElem? (i := 302) (by decide +kernel)))⟩
theorem mpX4_64 : vOK RX4 64 m_X4_hottestBut 7 := ⟨mo_X4_hottestBut, rfl, (List.mem_append_right _ (List.mem_of_getElem? (i := 325) (by decide +kernel))), (List.mem_append_right _ (List.mem_of_getElem? (i := 327) (by decide +kernel))), (List.mem_append_left _ (List.mem_of_getElem? (i := 3) (by decide +kernel))), TX4, 7, rfl⟩
theorem mpX4_67 : sOK RX4 67 m_X4_isEnough := ⟨mo_X4_isEnough, rfl, (List.mem_append_right _ (List.mem_of_getElem? (i := 314) (by decide +kernel))), (List.mem_append_right _ (List.mem_of_getElem? (i := 315) (by decide +kernel)))⟩
theorem mpX4_71 : snOK RX4 71 m_X8_heatAfterPouring := ⟨mo_X8_heatAfterPouring, rfl, ⟨_, (List.mem_append_right _ (List.mem_of_getElem? (i := 298) (by decide +kernel)))⟩, (List.mem_append_right _ (List.mem_of_getElem? (i := 299) (by decide +kernel)))⟩
theorem mpX4_74 : vOK RX4 74 m_X4_weighWhatIsLeft 7 := ⟨mo_X4_weighWhatIsLeft, rfl, (List.mem_append_right _ (List.mem_of_getElem? (i := 294) (by decide +kernel))), (List.mem_append_right _ (List.mem_of_getElem? (i := 296) (by decide +kernel))), (List.mem_append_left _ (List.mem_of_getElem? (i := 0) (by decide +kernel))), TX4, 7, rfl⟩
theorem mpX4_77 : vOK RX4 77 m_X4_countBehind 7 := ⟨mo_X4_countBehind, rfl, (List.mem_append_right _ (List.mem_of_getElem? (i := 306) (by decide +kernel))), (List.mem_append_right _ (List.mem_of_getElem? (i := 308) (by decide +kernel))), (List.mem_append_left _ (List.mem_of_getElem? (i := 1) (by decide +kernel))), TX4, 7, rfl⟩
theorem mpX4_80 : vOK RX4 80 m_X4_best 7 := ⟨mo_X4_best, rfl, (List.mem_append_right _ (List.mem_of_getElem? (i := 916) (by decide +kernel))), (List.mem_append_right _ (List.mem_of_getElem? (i := 291) (by decide +kernel))), (List.mem_append_right _ (List.mem_of_getElem? (i := 292) (by decide +kernel))), TX4, 7, rfl⟩
theorem mpX4_83 : vOK RX4 83 m_X4_pouredWithNext 7 := ⟨mo_X4_pouredWithNext, rfl, (List.mem_append_right _ (List.mem_of_getElem? (i := 310) (by decide +kernel))), (List.mem_append_right _ (List.mem_of_getElem? (i := 312) (by decide +kernel))), (List.mem_append_left _ (List.mem_of_getElem? (i := 2) (by decide +kernel))), TX4, 7, rfl⟩
theorem mpX4_86 : mmOK RX4 86 := ⟨(List.mem_append_right _ (List.mem_of_getElem? (i := 320) (by decide +kernel))), (List.mem_append_right _ (List.mem_of_getElem? (i := 56) (by decide +kernel))), (List.mem_append_right _ (List.mem_of_getElem? (i := 4) (by decide +kernel))), (List.mem_append_right _ (List.mem_of_getElem? (i := 57) (by decide +kernel)))⟩
theorem mlpX4 : ∀ q ∈ mlX4, ((match q.2.1 with
    | 0 => vOK RX4 q.1 q.2.2.1 q.2.2.2
    | 1 => sOK RX4 q.1 q.2.2.1
    | 2 => iOK RX4 q.1 q.2.2.1
    | 3 => snOK RX4 q.1 q.2.2.1
    | 4 => inOK RX4 q.1 q.2.2.1
    | 5 => oiOK RX4 q.1
    | 6 => mmOK RX4 q.1
    | 7 => mnOK RX4 q.1
    | 8 => acOK RX4 q.1
    | 9 => uOK RX4 q.1 q.2.2.1
    | 10 => suOK RX4 q.1 q.2.2.1
    | 11 => swOK RX4 q.1 q.2.2.1
    | _ => False) : Prop) := (fa_cons mpX4_3 (fa_cons mpX4_40 (fa_cons mpX4_46 (fa_cons mpX4_52 (fa_cons mpX4_57 (fa_cons mpX4_61 (fa_cons mpX4_64 (fa_cons mpX4_67 (fa_cons mpX4_71 (fa_cons mpX4_74 (fa_cons mpX4_77 (fa_cons mpX4_80 (fa_cons mpX4_83 (fa_cons mpX4_86 fa_nil))))))))))))))
def clPX4 (q : Nat × (Nat ⊕ Nat)) : Prop := match q.2 with
  | .inl ci => (∀ n fs, newF ci = some (n, fs) → newOK RX4 q.1 ci n fs) ∧ (ci = 4 → Jvm.Cond.classLink RX4 q.1 RX0 ∈ lw_tbl)
  | .inr _ => True
theorem clpX4 : ∀ q ∈ clX4, clPX4 q := fa_nil
theorem nlpX4 : ∀ q ∈ nlX4, Jvm.Cond.constant RX4 q.1 q.2 ∈ lw_tbl := fa_nil
theorem cpokX4 : cpOK RX4 cpX4 := by
  refine ⟨fun k ci j ty fin h => flpX4 _ (lkp_mem h), fun k v h => slpX4 _ (lkp_mem h), fun k t y ci h => ?_, fun k ci h => clpX4 _ (lkp_mem h), fun k v h => nlpX4 _ (lkp_mem h)⟩
  exact mlpX4 _ (lkp_mem h)
def flX5 : List (Nat × (Nat × Nat × FieldType × Bool)) := [(7, (8, 0, .int, false)), (13, (8, 1, .int, false))]
def slX5 : List (Nat × Value) := []
def mlX5 : List (Nat × (Nat × m0T × Nat)) := [(1, (5, mNone, 0))]
def clX5 : List (Nat × (Nat ⊕ Nat)) := []
def nlX5 : List (Nat × Int32) := []
def cpX5 : cpT := (lkp flX5, lkp slX5, lkp mlX5, lkp clX5, lkp nlX5)
theorem flpX5 : ∀ q ∈ flX5, fldOK RX5 q.1 q.2.1 q.2.2.1 q.2.2.2.1 q.2.2.2.2 := (fa_cons ⟨clOK8, RX5, TX5, 2, rfl, by decide, rfl, by decide +kernel, (List.mem_append_right _ (List.mem_of_getElem? (i := 136) (by decide +kernel))), fun h => nomatch h⟩ (fa_cons ⟨clOK8, RX5, TX5, 2, rfl, by decide, rfl, by decide +kernel, (List.mem_append_right _ (List.mem_of_getElem? (i := 138) (by decide +kernel))), fun h => nomatch h⟩ fa_nil))
theorem slpX5 : ∀ q ∈ slX5, stcOK RX5 q.1 q.2 := fa_nil
theorem mpX5_1 : oiOK RX5 1 := ⟨(List.mem_append_right _ (List.mem_of_getElem? (i := 135) (by decide +kernel))), (List.mem_append_right _ (List.mem_of_getElem? (i := 41) (by decide +kernel))), (List.mem_append_right _ (List.mem_of_getElem? (i := 42) (by decide +kernel)))⟩
theorem mlpX5 : ∀ q ∈ mlX5, ((match q.2.1 with
    | 0 => vOK RX5 q.1 q.2.2.1 q.2.2.2
    | 1 => sOK RX5 q.1 q.2.2.1
    | 2 => iOK RX5 q.1 q.2.2.1
    | 3 => snOK RX5 q.1 q.2.2.1
    | 4 => inOK RX5 q.1 q.2.2.1
    | 5 => oiOK RX5 q.1
    | 6 => mmOK RX5 q.1
    | 7 => mnOK RX5 q.1
    | 8 => acOK RX5 q.1
    | 9 => uOK RX5 q.1 q.2.2.1
    | 10 => suOK RX5 q.1 q.2.2.1
    | 11 => swOK RX5 q.1 q.2.2.1
    | _ => False) : Prop) := (fa_cons mpX5_1 fa_nil)
def clPX5 (q : Nat × (Nat ⊕ Nat)) : Prop := match q.2 with
  | .inl ci => (∀ n fs, newF ci = some (n, fs) → newOK RX5 q.1 ci n fs) ∧ (ci = 4 → Jvm.Cond.classLink RX5 q.1 RX0 ∈ lw_tbl)
  | .inr _ => True
theorem clpX5 : ∀ q ∈ clX5, clPX5 q := fa_nil
theorem nlpX5 : ∀ q ∈ nlX5, Jvm.Cond.constant RX5 q.1 q.2 ∈ lw_tbl := fa_nil
theorem cpokX5 : cpOK RX5 cpX5 := by
  refine ⟨fun k ci j ty fin h => flpX5 _ (lkp_mem h), fun k v h => slpX5 _ (lkp_mem h), fun k t y ci h => ?_, fun k ci h => clpX5 _ (lkp_mem h), fun k v h => nlpX5 _ (lkp_mem h)⟩
  exact mlpX5 _ (lkp_mem h)
def flX6 : List (Nat × (Nat × Nat × FieldType × Bool)) := [(7, (9, 3, .int, false)), (19, (9, 0, .int, true)), (22, (9, 1, .int, true)), (25, (9, 2, .array .int, true))]
def slX6 : List (Nat × Value) := []
def mlX6 : List (Nat × (Nat × m0T × Nat)) := [(1, (5, mNone, 0)), (13, (6, mNone, 0)), (29, (0, m_X6_get, 9)), (32, (0, m_X6_put, 9))]
def clX6 : List (Nat × (Nat ⊕ Nat)) := []
def nlX6 : List (Nat × Int32) := []
def cpX6 : cpT := (lkp flX6, lkp slX6, lkp mlX6, lkp clX6, lkp nlX6)
theorem flpX6 : ∀ q ∈ flX6, fldOK RX6 q.1 q.2.1 q.2.2.1 q.2.2.2.1 q.2.2.2.2 := (fa_cons ⟨clOK9, RX6, TX6, 4, rfl, by decide, rfl, by decide +kernel, (List.mem_append_right _ (List.mem_of_getElem? (i := 61) (by decide +kernel))), fun h => nomatch h⟩ (fa_cons ⟨clOK9, RX6, TX6, 4, rfl, by decide, rfl, by decide +kernel, (List.mem_append_right _ (List.mem_of_getElem? (i := 58) (by decide +kernel))), fun _ => rfl⟩ (fa_cons ⟨clOK9, RX6, TX6, 4, rfl, by decide, rfl, by decide +kernel, (List.mem_append_right _ (List.mem_of_getElem? (i := 59) (by decide +kernel))), fun _ => rfl⟩ (fa_cons ⟨clOK9, RX6, TX6, 4, rfl, by decide, rfl, by decide +kernel, (List.mem_append_right _ (List.mem_of_getElem? (i := 60) (by decide +kernel))), fun _ => rfl⟩ fa_nil))))
theorem slpX6 : ∀ q ∈ slX6, stcOK RX6 q.1 q.2 := fa_nil
theorem mpX6_1 : oiOK RX6 1 := ⟨(List.mem_append_right _ (List.mem_of_getElem? (i := 54) (by decide +kernel))), (List.mem_append_right _ (List.mem_of_getElem? (i := 41) (by decide +kernel))), (List.mem_append_right _ (List.mem_of_getElem? (i := 42) (by decide +kernel)))⟩
theorem mpX6_13 : mmOK RX6 13 := ⟨(List.mem_append_right _ (List.mem_of_getElem? (i := 55) (by decide +kernel))), (List.mem_append_right _ (List.mem_of_getElem? (i := 56) (by decide +kernel))), (List.mem_append_right _ (List.mem_of_getElem? (i := 4) (by decide +kernel))), (List.mem_append_right _ (List.mem_of_getElem? (i := 57) (by decide +kernel)))⟩
theorem mpX6_29 : vOK RX6 29 m_X6_get 9 := ⟨mo_X6_get, rfl, (List.mem_append_right _ (List.mem_of_getElem? (i := 384) (by decide +kernel))), (List.mem_append_right _ (List.mem_of_getElem? (i := 287) (by decide +kernel))), (List.mem_append_right _ (List.mem_of_getElem? (i := 288) (by decide +kernel))), TX6, 4, rfl⟩
theorem mpX6_32 : vOK RX6 32 m_X6_put 9 := ⟨mo_X6_put, rfl, (List.mem_append_right _ (List.mem_of_getElem? (i := 673) (by decide +kernel))), (List.mem_append_right _ (List.mem_of_getElem? (i := 568) (by decide +kernel))), (List.mem_append_right _ (List.mem_of_getElem? (i := 569) (by decide +kernel))), TX6, 4, rfl⟩
theorem mlpX6 : ∀ q ∈ mlX6, ((match q.2.1 with
    | 0 => vOK RX6 q.1 q.2.2.1 q.2.2.2
    | 1 => sOK RX6 q.1 q.2.2.1
    | 2 => iOK RX6 q.1 q.2.2.1
    | 3 => snOK RX6 q.1 q.2.2.1
    | 4 => inOK RX6 q.1 q.2.2.1
    | 5 => oiOK RX6 q.1
    | 6 => mmOK RX6 q.1
    | 7 => mnOK RX6 q.1
    | 8 => acOK RX6 q.1
    | 9 => uOK RX6 q.1 q.2.2.1
    | 10 => suOK RX6 q.1 q.2.2.1
    | 11 => swOK RX6 q.1 q.2.2.1
    | _ => False) : Prop) := (fa_cons mpX6_1 (fa_cons mpX6_13 (fa_cons mpX6_29 (fa_cons mpX6_32 fa_nil))))
def clPX6 (q : Nat × (Nat ⊕ Nat)) : Prop := match q.2 with
  | .inl ci => (∀ n fs, newF ci = some (n, fs) → newOK RX6 q.1 ci n fs) ∧ (ci = 4 → Jvm.Cond.classLink RX6 q.1 RX0 ∈ lw_tbl)
  | .inr _ => True
theorem clpX6 : ∀ q ∈ clX6, clPX6 q := fa_nil
theorem nlpX6 : ∀ q ∈ nlX6, Jvm.Cond.constant RX6 q.1 q.2 ∈ lw_tbl := fa_nil
theorem cpokX6 : cpOK RX6 cpX6 := by
  refine ⟨fun k ci j ty fin h => flpX6 _ (lkp_mem h), fun k v h => slpX6 _ (lkp_mem h), fun k t y ci h => ?_, fun k ci h => clpX6 _ (lkp_mem h), fun k v h => nlpX6 _ (lkp_mem h)⟩
  exact mlpX6 _ (lkp_mem h)
def flX7 : List (Nat × (Nat × Nat × FieldType × Bool)) := [(16, (10, 0, .object "BellCores$Table", true)), (20, (10, 1, .array .char, true)), (24, (10, 2, .int, false)), (28, (10, 3, .int, false))]
def slX7 : List (Nat × Value) := []
def mlX7 : List (Nat × (Nat × m0T × Nat)) := [(3, (5, mNone, 0)), (13, (2, m_X6_init, 0)), (31, (0, m_X7_isFull, 10)), (35, (0, m_X6_clear, 9)), (38, (0, m_X7_readOrder, 10)), (41, (0, m_X7_skip, 10)), (45, (0, m_X7_next, 10)), (49, (0, m_X7_readNumber, 10)), (53, (0, m_X7_keep, 10)), (57, (0, m_X7_readPair, 10)), (61, (0, m_X6_add, 9)), (64, (0, m_X6_put, 9))]
def clX7 : List (Nat × (Nat ⊕ Nat)) := [(9, .inl 9)]
def nlX7 : List (Nat × Int32) := []
def cpX7 : cpT := (lkp flX7, lkp slX7, lkp mlX7, lkp clX7, lkp nlX7)
theorem flpX7 : ∀ q ∈ flX7, fldOK RX7 q.1 q.2.1 q.2.2.1 q.2.2.2.1 q.2.2.2.2 := (fa_cons ⟨clOK10, RX7, TX7, 4, rfl, by decide, rfl, by decide +kernel, (List.mem_append_right _ (List.mem_of_getElem? (i := 153) (by decide +kernel))), fun _ => rfl⟩ (fa_cons ⟨clOK10, RX7, TX7, 4, rfl, by decide, rfl, by decide +kernel, (List.mem_append_right _ (List.mem_of_getElem? (i := 155) (by decide +kernel))), fun _ => rfl⟩ (fa_cons ⟨clOK10, RX7, TX7, 4, rfl, by decide, rfl, by decide +kernel, (List.mem_append_right _ (List.mem_of_getElem? (i := 156) (by decide +kernel))), fun h => nomatch h⟩ (fa_cons ⟨clOK10, RX7, TX7, 4, rfl, by decide, rfl, by decide +kernel, (List.mem_append_right _ (List.mem_of_getElem? (i := 157) (by decide +kernel))), fun h => nomatch h⟩ fa_nil))))
theorem slpX7 : ∀ q ∈ slX7, stcOK RX7 q.1 q.2 := fa_nil
theorem mpX7_3 : oiOK RX7 3 := ⟨(List.mem_append_right _ (List.mem_of_getElem? (i := 150) (by decide +kernel))), (List.mem_append_right _ (List.mem_of_getElem? (i := 41) (by decide +kernel))), (List.mem_append_right _ (List.mem_of_getElem? (i := 42) (by decide +kernel)))⟩
theorem mpX7_13 : iOK RX7 13 m_X6_init := ⟨mo_X6_init, rfl, rfl, (List.mem_append_right _ (List.mem_of_getElem? (i := 152) (by decide +kernel))), rfl, (List.mem_append_right _ (List.mem_of_getElem? (i := 52) (by decide +kernel)))⟩
theorem mpX7_31 : vOK RX7 31 m_X7_isFull 10 := ⟨mo_X7_isFull, rfl, (List.mem_append_right _ (List.mem_of_getElem? (i := 1267) (by decide +kernel))), (List.mem_append_right _ (List.mem_of_getElem? (i := 1244) (by decide +kernel))), (List.mem_append_right _ (List.mem_of_getElem? (i := 1245) (by decide +kernel))), TX7, 4, rfl⟩
theorem mpX7_35 : vOK RX7 35 m_X6_clear 9 := ⟨mo_X6_clear, rfl, (List.mem_append_right _ (List.mem_of_getElem? (i := 1283) (by decide +kernel))), (List.mem_append_right _ (List.mem_of_getElem? (i := 1284) (by decide +kernel))), (List.mem_append_right _ (List.mem_of_getElem? (i := 1285) (by decide +kernel))), TX6, 4, rfl⟩
theorem mpX7_38 : vOK RX7 38 m_X7_readOrder 10 := ⟨mo_X7_readOrder, rfl, (List.mem_append_right _ (List.mem_of_getElem? (i := 1287) (by decide +kernel))), (List.mem_append_right _ (List.mem_of_getElem? (i := 1289) (by decide +kernel))), (List.mem_append_left _ (List.mem_of_getElem? (i := 14) (by decide +kernel))), TX7, 4, rfl⟩
theorem mpX7_41 : vOK RX7 41 m_X7_skip 10 := ⟨mo_X7_skip, rfl, (List.mem_append_right _ (List.mem_of_getElem? (i := 1309) (by decide +kernel))), (List.mem_append_right _ (List.mem_of_getElem? (i := 1311) (by decide +kernel))), (List.mem_append_left _ (List.mem_of_getElem? (i := 19) (by decide +kernel))), TX7, 4, rfl⟩
theorem mpX7_45 : vOK RX7 45 m_X7_next 10 := ⟨mo_X7_next, rfl, (List.mem_append_right _ (List.mem_of_getElem? (i := 1291) (by decide +kernel))), (List.mem_append_right _ (List.mem_of_getElem? (i := 1293) (by decide +kernel))), (List.mem_append_left _ (List.mem_of_getElem? (i := 15) (by decide +kernel))), TX7, 4, rfl⟩
theorem mpX7_49 : vOK RX7 49 m_X7_readNumber 10 := ⟨mo_X7_readNumber, rfl, (List.mem_append_right _ (List.mem_of_getElem? (i := 1295) (by decide +kernel))), (List.mem_append_right _ (List.mem_of_getElem? (i := 1297) (by decide +kernel))), (List.mem_append_left _ (List.mem_of_getElem? (i := 16) (by decide +kernel))), TX7, 4, rfl⟩
theorem mpX7_53 : vOK RX7 53 m_X7_keep 10 := ⟨mo_X7_keep, rfl, (List.mem_append_right _ (List.mem_of_getElem? (i := 1299) (by decide +kernel))), (List.mem_append_right _ (List.mem_of_getElem? (i := 1301) (by decide +kernel))), (List.mem_append_left _ (List.mem_of_getElem? (i := 17) (by decide +kernel))), TX7, 4, rfl⟩
theorem mpX7_57 : vOK RX7 57 m_X7_readPair 10 := ⟨mo_X7_readPair, rfl, (List.mem_append_right _ (List.mem_of_getElem? (i := 1305) (by decide +kernel))), (List.mem_append_right _ (List.mem_of_getElem? (i := 1307) (by decide +kernel))), (List.mem_append_left _ (List.mem_of_getElem? (i := 18) (by decide +kernel))), TX7, 4, rfl⟩
theorem mpX7_61 : vOK RX7 61 m_X6_add 9 := ⟨mo_X6_add, rfl, (List.mem_append_right _ (List.mem_of_getElem? (i := 1303) (by decide +kernel))), (List.mem_append_right _ (List.mem_of_getElem? (i := 564) (by decide +kernel))), (List.mem_append_right _ (List.mem_of_getElem? (i := 565) (by decide +kernel))), TX6, 4, rfl⟩
theorem mpX7_64 : vOK RX7 64 m_X6_put 9 := ⟨mo_X6_put, rfl, (List.mem_append_right _ (List.mem_of_getElem? (i := 1304) (by decide +kernel))), (List.mem_append_right _ (List.mem_of_getElem? (i := 568) (by decide +kernel))), (List.mem_append_right _ (List.mem_of_getElem? (i := 569) (by decide +kernel))), TX6, 4, rfl⟩
theorem mlpX7 : ∀ q ∈ mlX7, ((match q.2.1 with
    | 0 => vOK RX7 q.1 q.2.2.1 q.2.2.2
    | 1 => sOK RX7 q.1 q.2.2.1
    | 2 => iOK RX7 q.1 q.2.2.1
    | 3 => snOK RX7 q.1 q.2.2.1
    | 4 => inOK RX7 q.1 q.2.2.1
    | 5 => oiOK RX7 q.1
    | 6 => mmOK RX7 q.1
    | 7 => mnOK RX7 q.1
    | 8 => acOK RX7 q.1
    | 9 => uOK RX7 q.1 q.2.2.1
    | 10 => suOK RX7 q.1 q.2.2.1
    | 11 => swOK RX7 q.1 q.2.2.1
    | _ => False) : Prop) := (fa_cons mpX7_3 (fa_cons mpX7_13 (fa_cons mpX7_31 (fa_cons mpX7_35 (fa_cons mpX7_38 (fa_cons mpX7_41 (fa_cons mpX7_45 (fa_cons mpX7_49 (fa_cons mpX7_53 (fa_cons mpX7_57 (fa_cons mpX7_61 (fa_cons mpX7_64 fa_nil))))))))))))
def clPX7 (q : Nat × (Nat ⊕ Nat)) : Prop := match q.2 with
  | .inl ci => (∀ n fs, newF ci = some (n, fs) → newOK RX7 q.1 ci n fs) ∧ (ci = 4 → Jvm.Cond.classLink RX7 q.1 RX0 ∈ lw_tbl)
  | .inr _ => True
theorem clpX7 : ∀ q ∈ clX7, clPX7 q := (fa_cons ⟨(fun n fs h => by cases h; exact ⟨clOK9, RX6, TX6, tyX6, rfl, tyX6_ok, by decide +kernel, (List.mem_append_right _ (List.mem_of_getElem? (i := 151) (by decide +kernel))), (List.mem_append_right _ (List.mem_of_getElem? (i := 50) (by decide +kernel))), (List.mem_append_right _ (List.mem_of_getElem? (i := 3) (by decide +kernel)))⟩), (fun h => nomatch h)⟩ fa_nil)
theorem nlpX7 : ∀ q ∈ nlX7, Jvm.Cond.constant RX7 q.1 q.2 ∈ lw_tbl := fa_nil
theorem cpokX7 : cpOK RX7 cpX7 := by
  refine ⟨fun k ci j ty fin h => flpX7 _ (lkp_mem h), fun k v h => slpX7 _ (lkp_mem h), fun k t y ci h => ?_, fun k ci h => clpX7 _ (lkp_mem h), fun k v h => nlpX7 _ (lkp_mem h)⟩
  exact mlpX7 _ (lkp_mem h)
def flL : List (Nat × (Nat × Nat × FieldType × Bool)) := []
def slL : List (Nat × Value) := []
def mlL : List (Nat × (Nat × m0T × Nat)) := [(7, (0, m_X8_coal, 11)), (15, (0, m_X8_bronze, 11)), (20, (0, m_X8_mould, 11)), (24, (0, m_X8_smash, 11)), (29, (0, m_X8_mouldOf, 11)), (32, (0, m_X8_rack, 11)), (35, (0, m_X8_strike, 11)), (38, (0, m_X8_rackOf, 11)), (41, (0, m_X8_pour, 11)), (44, (0, m_X8_pass, 11)), (47, (0, m_X8_take, 11)), (50, (0, m_X8_ring, 11)), (53, (0, m_X8_file, 11)), (56, (0, m_X8_recast, 11)), (59, (0, m_X8_bellOf, 11)), (62, (0, m_X8_note, 11)), (66, (0, m_X8_wouldCrack, 11)), (69, (0, m_X8_coldIn, 11)), (72, (0, m_X8_peal, 11)), (75, (0, m_X8_longest, 11)), (81, (0, m_X8_ranked, 11)), (84, (0, m_X8_first, 11)), (87, (0, m_X8_line, 11)), (90, (0, m_X8_rackLine, 11)), (93, (0, m_X8_character, 11)), (97, (0, m_X8_append, 11)), (103, (0, m_X8_run, 11)), (106, (0, m_X8_refusal, 11)), (110, (0, m_X8_account, 11)), (113, (0, m_X8_meanNote, 11)), (119, (0, m_X8_soundShare, 11)), (123, (0, m_X8_undo, 11)), (126, (0, m_X8_restore, 11)), (129, (2, m_X8_init, 0)), (132, (2, m_X9_init, 0)), (133, (11, m_L_coal, 0)), (138, (0, m_X9_coal, 12)), (139, (0, m_X9_thrown, 12)), (142, (11, m_L_bronze, 0)), (144, (0, m_X9_bronze, 12)), (145, (11, m_L_mould, 0)), (148, (0, m_X9_mould, 12)), (149, (11, m_L_smash, 0)), (151, (0, m_X9_smash, 12)), (152, (11, m_L_mouldOf, 0)), (154, (0, m_X9_mouldOf, 12)), (155, (11, m_L_rack, 0)), (157, (0, m_X9_rack, 12)), (158, (11, m_L_strike, 0)), (160, (0, m_X9_strike, 12)), (161, (11, m_L_rackOf, 0)), (163, (0, m_X9_rackOf, 12)), (164, (11, m_L_pour, 0)), (166, (0, m_X9_pour, 12)), (167, (11, m_L_pass, 0)), (169, (0, m_X9_pass, 12)), (170, (11, m_L_take, 0)), (172, (0, m_X9_take, 12)), (173, (11, m_L_ring, 0)), (175, (0, m_X9_ring, 12)), (176, (11, m_L_file, 0)), (178, (0, m_X9_file, 12)), (179, (11, m_L_recast, 0)), (181, (0, m_X9_recast, 12)), (182, (11, m_L_bellOf, 0)), (184, (0, m_X9_bellOf, 12)), (185, (11, m_L_note, 0)), (188, (0, m_X9_note, 12)), (189, (11, m_L_wouldCrack, 0)), (191, (0, m_X9_wouldCrack, 12)), (192, (11, m_L_coldIn, 0)), (194, (0, m_X9_coldIn, 12)), (195, (11, m_L_peal, 0)), (197, (0, m_X9_peal, 12)), (198, (11, m_L_longest, 0)), (201, (0, m_X9_longest, 12)), (202, (11, m_L_ranked, 0)), (204, (0, m_X9_ranked, 12)), (205, (0, m_X8_pourable, 11)), (208, (0, m_X9_pourable, 12)), (209, (11, m_L_first, 0)), (211, (0, m_X9_first, 12)), (212, (11, m_L_line, 0)), (214, (0, m_X9_line, 12)), (215, (11, m_L_rackLine, 0)), (217, (0, m_X9_rackLine, 12)), (218, (11, m_L_character, 0)), (220, (0, m_X9_character, 12)), (221, (11, m_L_append, 0)), (224, (0, m_X9_append, 12)), (225, (11, m_L_run, 0)), (227, (0, m_X9_run, 12)), (228, (0, m_X8_errorPosition, 11)), (231, (0, m_X9_errorPosition, 12)), (232, (11, m_L_refusal, 0)), (235, (0, m_X9_refusal, 12)), (236, (11, m_L_account, 0)), (238, (0, m_X9_account, 12)), (239, (0, m_X8_isWell, 11)), (243, (0, m_X9_isWell, 12)), (244, (11, m_L_meanNote, 0)), (247, (0, m_X9_meanNote, 12)), (248, (11, m_L_soundShare, 0)), (250, (0, m_X9_soundShare, 12)), (251, (11, m_L_undo, 0)), (253, (0, m_X9_undo, 12)), (254, (0, m_X8_save, 11)), (257, (0, m_X9_save, 12)), (258, (11, m_L_restore, 0)), (260, (0, m_X9_restore, 12))]
def clL : List (Nat × (Nat ⊕ Nat)) := [(8, .inl 11), (130, .inl 12)]
def nlL : List (Nat × Int32) := []
def cpL : cpT := (lkp flL, lkp slL, lkp mlL, lkp clL, lkp nlL)
theorem flpL : ∀ q ∈ flL, fldOK RL q.1 q.2.1 q.2.2.1 q.2.2.2.1 q.2.2.2.2 := fa_nil
theorem slpL : ∀ q ∈ slL, stcOK RL q.1 q.2 := fa_nil
theorem mpL_7 : vOK RL 7 m_X8_coal 11 := ⟨mo_X8_coal, rfl, (List.mem_append_right _ (List.mem_of_getElem? (i := 415) (by decide +kernel))), (List.mem_append_right _ (List.mem_of_getElem? (i := 416) (by decide +kernel))), (List.mem_append_right _ (List.mem_of_getElem? (i := 417) (by decide +kernel))), TX8, 10, rfl⟩
theorem mpL_15 : vOK RL 15 m_X8_bronze 11 := ⟨mo_X8_bronze, rfl, (List.mem_append_right _ (List.mem_of_getElem? (i := 510) (by decide +kernel))), (List.mem_append_right _ (List.mem_of_getElem? (i := 511) (by decide +kernel))), (List.mem_append_right _ (List.mem_of_getElem? (i := 512) (by decide +kernel))), TX8, 10, rfl⟩
theorem mpL_20 : vOK RL 20 m_X8_mould 11 := ⟨mo_X8_mould, rfl, (List.mem_append_right _ (List.mem_of_getElem? (i := 546) (by decide +kernel))), (List.mem_append_right _ (List.mem_of_getElem? (i := 547) (by decide +kernel))), (List.mem_append_right _ (List.mem_of_getElem? (i := 548) (by decide +kernel))), TX8, 10, rfl⟩
theorem mpL_24 : vOK RL 24 m_X8_smash 11 := ⟨mo_X8_smash, rfl, (List.mem_append_right _ (List.mem_of_getElem? (i := 598) (by decide +kernel))), (List.mem_append_right _ (List.mem_of_getElem? (i := 599) (by decide +kernel))), (List.mem_append_right _ (List.mem_of_getElem? (i := 600) (by decide +kernel))), TX8, 10, rfl⟩
theorem mpL_29 : vOK RL 29 m_X8_mouldOf 11 := ⟨mo_X8_mouldOf, rfl, (List.mem_append_right _ (List.mem_of_getElem? (i := 626) (by decide +kernel))), (List.mem_append_right _ (List.mem_of_getElem? (i := 627) (by decide +kernel))), (List.mem_append_right _ (List.mem_of_getElem? (i := 628) (by decide +kernel))), TX8, 10, rfl⟩
theorem mpL_32 : vOK RL 32 m_X8_rack 11 := ⟨mo_X8_rack, rfl, (List.mem_append_right _ (List.mem_of_getElem? (i := 637) (by decide +kernel))), (List.mem_append_right _ (List.mem_of_getElem? (i := 638) (by decide +kernel))), (List.mem_append_right _ (List.mem_of_getElem? (i := 639) (by decide +kernel))), TX8, 10, rfl⟩
theorem mpL_35 : vOK RL 35 m_X8_strike 11 := ⟨mo_X8_strike, rfl, (List.mem_append_right _ (List.mem_of_getElem? (i := 654) (by decide +kernel))), (List.mem_append_right _ (List.mem_of_getElem? (i := 655) (by decide +kernel))), (List.mem_append_right _ (List.mem_of_getElem? (i := 656) (by decide +kernel))), TX8, 10, rfl⟩
theorem mpL_38 : vOK RL 38 m_X8_rackOf 11 := ⟨mo_X8_rackOf, rfl, (List.mem_append_right _ (List.mem_of_getElem? (i := 677) (by decide +kernel))), (List.mem_append_right _ (List.mem_of_getElem? (i := 678) (by decide +kernel))), (List.mem_append_right _ (List.mem_of_getElem? (i := 679) (by decide +kernel))), TX8, 10, rfl⟩
theorem mpL_41 : vOK RL 41 m_X8_pour 11 := ⟨mo_X8_pour, rfl, (List.mem_append_right _ (List.mem_of_getElem? (i := 690) (by decide +kernel))), (List.mem_append_right _ (List.mem_of_getElem? (i := 691) (by decide +kernel))), (List.mem_append_right _ (List.mem_of_getElem? (i := 692) (by decide +kernel))), TX8, 10, rfl⟩
theorem mpL_44 : vOK RL 44 m_X8_pass 11 := ⟨mo_X8_pass, rfl, (List.mem_append_right _ (List.mem_of_getElem? (i := 715) (by decide +kernel))), (List.mem_append_right _ (List.mem_of_getElem? (i := 716) (by decide +kernel))), (List.mem_append_right _ (List.mem_of_getElem? (i := 717) (by decide +kernel))), TX8, 10, rfl⟩
theorem mpL_47 : vOK RL 47 m_X8_take 11 := ⟨mo_X8_take, rfl, (List.mem_append_right _ (List.mem_of_getElem? (i := 744) (by decide +kernel))), (List.mem_append_right _ (List.mem_of_getElem? (i := 745) (by decide +kernel))), (List.mem_append_right _ (List.mem_of_getElem? (i := 746) (by decide +kernel))), TX8, 10, rfl⟩
theorem mpL_50 : vOK RL 50 m_X8_ring 11 := ⟨mo_X8_ring, rfl, (List.mem_append_right _ (List.mem_of_getElem? (i := 761) (by decide +kernel))), (List.mem_append_right _ (List.mem_of_getElem? (i := 762) (by decide +kernel))), (List.mem_append_right _ (List.mem_of_getElem? (i := 763) (by decide +kernel))), TX8, 10, rfl⟩
theorem mpL_53 : vOK RL 53 m_X8_file 11 := ⟨mo_X8_file, rfl, (List.mem_append_right _ (List.mem_of_getElem? (i := 777) (by decide +kernel))), (List.mem_append_right _ (List.mem_of_getElem? (i := 778) (by decide +kernel))), (List.mem_append_right _ (List.mem_of_getElem? (i := 779) (by decide +kernel))), TX8, 10, rfl⟩
theorem mpL_56 : vOK RL 56 m_X8_recast 11 := ⟨mo_X8_recast, rfl, (List.mem_append_right _ (List.mem_of_getElem? (i := 796) (by decide +kernel))), (List.mem_append_right _ (List.mem_of_getElem? (i := 797) (by decide +kernel))), (List.mem_append_right _ (List.mem_of_getElem? (i := 798) (by decide +kernel))), TX8, 10, rfl⟩
theorem mpL_59 : vOK RL 59 m_X8_bellOf 11 := ⟨mo_X8_bellOf, rfl, (List.mem_append_right _ (List.mem_of_getElem? (i := 817) (by decide +kernel))), (List.mem_append_right _ (List.mem_of_getElem? (i := 818) (by decide +kernel))), (List.mem_append_right _ (List.mem_of_getElem? (i := 819) (by decide +kernel))), TX8, 10, rfl⟩
theorem mpL_62 : vOK RL 62 m_X8_note 11 := ⟨mo_X8_note, rfl, (List.mem_append_right _ (List.mem_of_getElem? (i := 825) (by decide +kernel))), (List.mem_append_right _ (List.mem_of_getElem? (i := 826) (by decide +kernel))), (List.mem_append_right _ (List.mem_of_getElem? (i := 827) (by decide +kernel))), TX8, 10, rfl⟩
theorem mpL_66 : vOK RL 66 m_X8_wouldCrack 11 := ⟨mo_X8_wouldCrack, rfl, (List.mem_append_right _ (List.mem_of_getElem? (i := 832) (by decide +kernel))), (List.mem_append_right _ (List.mem_of_getElem? (i := 833) (by decide +kernel))), (List.mem_append_right _ (List.mem_of_getElem? (i := 834) (by decide +kernel))), TX8, 10, rfl⟩
theorem mpL_69 : vOK RL 69 m_X8_coldIn 11 := ⟨mo_X8_coldIn, rfl, (List.mem_append_right _ (List.mem_of_getElem? (i := 844) (by decide +kernel))), (List.mem_append_right _ (List.mem_of_getElem? (i := 845) (by decide +kernel))), (List.mem_append_right _ (List.mem_of_getElem? (i := 846) (by decide +kernel))), TX8, 10, rfl⟩
theorem mpL_72 : vOK RL 72 m_X8_peal 11 := ⟨mo_X8_peal, rfl, (List.mem_append_right _ (List.mem_of_getElem? (i := 855) (by decide +kernel))), (List.mem_append_right _ (List.mem_of_getElem? (i := 856) (by decide +kernel))), (List.mem_append_right _ (List.mem_of_getElem? (i := 857) (by decide +kernel))), TX8, 10, rfl⟩
theorem mpL_75 : vOK RL 75 m_X8_longest 11 := ⟨mo_X8_longest, rfl, (List.mem_append_right _ (List.mem_of_getElem? (i := 864) (by decide +kernel))), (List.mem_append_right _ (List.mem_of_getElem? (i := 865) (by decide +kernel))), (List.mem_append_right _ (List.mem_of_getElem? (i := 866) (by decide +kernel))), TX8, 10, rfl⟩
theorem mpL_81 : vOK RL 81 m_X8_ranked 11 := ⟨mo_X8_ranked, rfl, (List.mem_append_right _ (List.mem_of_getElem? (i := 892) (by decide +kernel))), (List.mem_append_right _ (List.mem_of_getElem? (i := 893) (by decide +kernel))), (List.mem_append_right _ (List.mem_of_getElem? (i := 894) (by decide +kernel))), TX8, 10, rfl⟩
theorem mpL_84 : vOK RL 84 m_X8_first 11 := ⟨mo_X8_first, rfl, (List.mem_append_right _ (List.mem_of_getElem? (i := 908) (by decide +kernel))), (List.mem_append_right _ (List.mem_of_getElem? (i := 909) (by decide +kernel))), (List.mem_append_right _ (List.mem_of_getElem? (i := 910) (by decide +kernel))), TX8, 10, rfl⟩
theorem mpL_87 : vOK RL 87 m_X8_line 11 := ⟨mo_X8_line, rfl, (List.mem_append_right _ (List.mem_of_getElem? (i := 921) (by decide +kernel))), (List.mem_append_right _ (List.mem_of_getElem? (i := 922) (by decide +kernel))), (List.mem_append_right _ (List.mem_of_getElem? (i := 923) (by decide +kernel))), TX8, 10, rfl⟩
theorem mpL_90 : vOK RL 90 m_X8_rackLine 11 := ⟨mo_X8_rackLine, rfl, (List.mem_append_right _ (List.mem_of_getElem? (i := 1209) (by decide +kernel))), (List.mem_append_right _ (List.mem_of_getElem? (i := 1210) (by decide +kernel))), (List.mem_append_right _ (List.mem_of_getElem? (i := 1211) (by decide +kernel))), TX8, 10, rfl⟩
theorem mpL_93 : vOK RL 93 m_X8_character 11 := ⟨mo_X8_character, rfl, (List.mem_append_right _ (List.mem_of_getElem? (i := 1220) (by decide +kernel))), (List.mem_append_right _ (List.mem_of_getElem? (i := 1221) (by decide +kernel))), (List.mem_append_right _ (List.mem_of_getElem? (i := 1222) (by decide +kernel))), TX8, 10, rfl⟩
theorem mpL_97 : vOK RL 97 m_X8_append 11 := ⟨mo_X8_append, rfl, (List.mem_append_right _ (List.mem_of_getElem? (i := 1239) (by decide +kernel))), (List.mem_append_right _ (List.mem_of_getElem? (i := 1240) (by decide +kernel))), (List.mem_append_right _ (List.mem_of_getElem? (i := 1241) (by decide +kernel))), TX8, 10, rfl⟩
theorem mpL_103 : vOK RL 103 m_X8_run 11 := ⟨mo_X8_run, rfl, (List.mem_append_right _ (List.mem_of_getElem? (i := 1275) (by decide +kernel))), (List.mem_append_right _ (List.mem_of_getElem? (i := 1276) (by decide +kernel))), (List.mem_append_right _ (List.mem_of_getElem? (i := 1277) (by decide +kernel))), TX8, 10, rfl⟩
theorem mpL_106 : vOK RL 106 m_X8_refusal 11 := ⟨mo_X8_refusal, rfl, (List.mem_append_right _ (List.mem_of_getElem? (i := 1349) (by decide +kernel))), (List.mem_append_right _ (List.mem_of_getElem? (i := 1350) (by decide +kernel))), (List.mem_append_right _ (List.mem_of_getElem? (i := 1351) (by decide +kernel))), TX8, 10, rfl⟩
theorem mpL_110 : vOK RL 110 m_X8_account 11 := ⟨mo_X8_account, rfl, (List.mem_append_right _ (List.mem_of_getElem? (i := 1357) (by decide +kernel))), (List.mem_append_right _ (List.mem_of_getElem? (i := 1358) (by decide +kernel))), (List.mem_append_right _ (List.mem_of_getElem? (i := 1359) (by decide +kernel))), TX8, 10, rfl⟩
theorem mpL_113 : vOK RL 113 m_X8_meanNote 11 := ⟨mo_X8_meanNote, rfl, (List.mem_append_right _ (List.mem_of_getElem? (i := 1391) (by decide +kernel))), (List.mem_append_right _ (List.mem_of_getElem? (i := 1392) (by decide +kernel))), (List.mem_append_right _ (List.mem_of_getElem? (i := 1393) (by decide +kernel))), TX8, 10, rfl⟩
theorem mpL_119 : vOK RL 119 m_X8_soundShare 11 := ⟨mo_X8_soundShare, rfl, (List.mem_append_right _ (List.mem_of_getElem? (i := 1405) (by decide +kernel))), (List.mem_append_right _ (List.mem_of_getElem? (i := 1406) (by decide +kernel))), (List.mem_append_right _ (List.mem_of_getElem? (i := 1407) (by decide +kernel))), TX8, 10, rfl⟩
theorem mpL_123 : vOK RL 123 m_X8_undo 11 := ⟨mo_X8_undo, rfl, (List.mem_append_right _ (List.mem_of_getElem? (i := 1413) (by decide +kernel))), (List.mem_append_right _ (List.mem_of_getElem? (i := 1414) (by decide +kernel))), (List.mem_append_right _ (List.mem_of_getElem? (i := 1415) (by decide +kernel))), TX8, 10, rfl⟩
theorem mpL_126 : vOK RL 126 m_X8_restore 11 := ⟨mo_X8_restore, rfl, (List.mem_append_right _ (List.mem_of_getElem? (i := 1425) (by decide +kernel))), (List.mem_append_right _ (List.mem_of_getElem? (i := 1426) (by decide +kernel))), (List.mem_append_right _ (List.mem_of_getElem? (i := 1427) (by decide +kernel))), TX8, 10, rfl⟩
theorem mpL_129 : iOK RL 129 m_X8_init := ⟨mo_X8_init, rfl, rfl, (List.mem_append_right _ (List.mem_of_getElem? (i := 37) (by decide +kernel))), rfl, (List.mem_append_right _ (List.mem_of_getElem? (i := 38) (by decide +kernel)))⟩
theorem mpL_132 : iOK RL 132 m_X9_init := ⟨mo_X9_init, rfl, rfl, (List.mem_append_right _ (List.mem_of_getElem? (i := 1436) (by decide +kernel))), rfl, (List.mem_append_right _ (List.mem_of_getElem? (i := 1437) (by decide +kernel)))⟩
theorem mpL_133 : swOK RL 133 m_L_coal := ⟨mo_L_coal, (fun h => nomatch h), (List.mem_append_right _ (List.mem_of_getElem? (i := 411) (by decide +kernel))), (List.mem_append_right _ (List.mem_of_getElem? (i := 412) (by decide +kernel)))⟩
theorem mpL_138 : vOK RL 138 m_X9_coal 12 := ⟨mo_X9_coal, rfl, (List.mem_append_right _ (List.mem_of_getElem? (i := 1502) (by decide +kernel))), (List.mem_append_right _ (List.mem_of_getElem? (i := 1503) (by decide +kernel))), (List.mem_append_right _ (List.mem_of_getElem? (i := 1504) (by decide +kernel))), TX9, 19, rfl⟩
theorem mpL_139 : vOK RL 139 m_X9_thrown 12 := ⟨mo_X9_thrown, rfl, (List.mem_append_right _ (List.mem_of_getElem? (i := 1498) (by decide +kernel))), (List.mem_append_right _ (List.mem_of_getElem? (i := 1499) (by decide +kernel))), (List.mem_append_right _ (List.mem_of_getElem? (i := 1500) (by decide +kernel))), TX9, 19, rfl⟩
theorem mpL_142 : swOK RL 142 m_L_bronze := ⟨mo_L_bronze, (fun h => nomatch h), (List.mem_append_right _ (List.mem_of_getElem? (i := 506) (by decide +kernel))), (List.mem_append_right _ (List.mem_of_getElem? (i := 507) (by decide +kernel)))⟩
theorem mpL_144 : vOK RL 144 m_X9_bronze 12 := ⟨mo_X9_bronze, rfl, (List.mem_append_right _ (List.mem_of_getElem? (i := 1520) (by decide +kernel))), (List.mem_append_right _ (List.mem_of_getElem? (i := 1521) (by decide +kernel))), (List.mem_append_right _ (List.mem_of_getElem? (i := 1522) (by decide +kernel))), TX9, 19, rfl⟩
theorem mpL_145 : swOK RL 145 m_L_mould := ⟨mo_L_mould, (fun h => nomatch h), (List.mem_append_right _ (List.mem_of_getElem? (i := 543) (by decide +kernel))), (List.mem_append_right _ (List.mem_of_getElem? (i := 544) (by decide +kernel)))⟩
theorem mpL_148 : vOK RL 148 m_X9_mould 12 := ⟨mo_X9_mould, rfl, (List.mem_append_right _ (List.mem_of_getElem? (i := 1528) (by decide +kernel))), (List.mem_append_right _ (List.mem_of_getElem? (i := 1529) (by decide +kernel))), (List.mem_append_right _ (List.mem_of_getElem? (i := 1530) (by decide +kernel))), TX9, 19, rfl⟩
theorem mpL_149 : swOK RL 149 m_L_smash := ⟨mo_L_smash, (fun h => nomatch h), (List.mem_append_right _ (List.mem_of_getElem? (i := 571) (by decide +kernel))), (List.mem_append_right _ (List.mem_of_getElem? (i := 572) (by decide +kernel)))⟩
theorem mpL_151 : vOK RL 151 m_X9_smash 12 := ⟨mo_X9_smash, rfl, (List.mem_append_right _ (List.mem_of_getElem? (i := 1532) (by decide +kernel))), (List.mem_append_right _ (List.mem_of_getElem? (i := 1533) (by decide +kernel))), (List.mem_append_right _ (List.mem_of_getElem? (i := 1534) (by decide +kernel))), TX9, 19, rfl⟩
theorem mpL_152 : swOK RL 152 m_L_mouldOf := ⟨mo_L_mouldOf, (fun h => nomatch h), (List.mem_append_right _ (List.mem_of_getElem? (i := 623) (by decide +kernel))), (List.mem_append_right _ (List.mem_of_getElem? (i := 624) (by decide +kernel)))⟩
theorem mpL_154 : vOK RL 154 m_X9_mouldOf 12 := ⟨mo_X9_mouldOf, rfl, (List.mem_append_right _ (List.mem_of_getElem? (i := 1548) (by decide +kernel))), (List.mem_append_right _ (List.mem_of_getElem? (i := 1549) (by decide +kernel))), (List.mem_append_right _ (List.mem_of_getElem? (i := 1550) (by decide +kernel))), TX9, 19, rfl⟩
theorem mpL_155 : swOK RL 155 m_L_rack := ⟨mo_L_rack, (fun h => nomatch h), (List.mem_append_right _ (List.mem_of_getElem? (i := 634) (by decide +kernel))), (List.mem_append_right _ (List.mem_of_getElem? (i := 635) (by decide +kernel)))⟩
theorem mpL_157 : vOK RL 157 m_X9_rack 12 := ⟨mo_X9_rack, rfl, (List.mem_append_right _ (List.mem_of_getElem? (i := 1564) (by decide +kernel))), (List.mem_append_right _ (List.mem_of_getElem? (i := 1565) (by decide +kernel))), (List.mem_append_right _ (List.mem_of_getElem? (i := 1566) (by decide +kernel))), TX9, 19, rfl⟩
theorem mpL_158 : swOK RL 158 m_L_strike := ⟨mo_L_strike, (fun h => nomatch h), (List.mem_append_right _ (List.mem_of_getElem? (i := 651) (by decide +kernel))), (List.mem_append_right _ (List.mem_of_getElem? (i := 652) (by decide +kernel)))⟩
theorem mpL_160 : vOK RL 160 m_X9_strike 12 := ⟨mo_X9_strike, rfl, (List.mem_append_right _ (List.mem_of_getElem? (i := 1568) (by decide +kernel))), (List.mem_append_right _ (List.mem_of_getElem? (i := 1569) (by decide +kernel))), (List.mem_append_right _ (List.mem_of_getElem? (i := 1570) (by decide +kernel))), TX9, 19, rfl⟩
theorem mpL_161 : swOK RL 161 m_L_rackOf := ⟨mo_L_rackOf, (fun h => nomatch h), (List.mem_append_right _ (List.mem_of_getElem? (i := 674) (by decide +kernel))), (List.mem_append_right _ (List.mem_of_getElem? (i := 675) (by decide +kernel)))⟩
theorem mpL_163 : vOK RL 163 m_X9_rackOf 12 := ⟨mo_X9_rackOf, rfl, (List.mem_append_right _ (List.mem_of_getElem? (i := 1588) (by decide +kernel))), (List.mem_append_right _ (List.mem_of_getElem? (i := 1589) (by decide +kernel))), (List.mem_append_right _ (List.mem_of_getElem? (i := 1590) (by decide +kernel))), TX9, 19, rfl⟩
theorem mpL_164 : swOK RL 164 m_L_pour := ⟨mo_L_pour, (fun h => nomatch h), (List.mem_append_right _ (List.mem_of_getElem? (i := 687) (by decide +kernel))), (List.mem_append_right _ (List.mem_of_getElem? (i := 688) (by decide +kernel)))⟩
theorem mpL_166 : vOK RL 166 m_X9_pour 12 := ⟨mo_X9_pour, rfl, (List.mem_append_right _ (List.mem_of_getElem? (i := 1596) (by decide +kernel))), (List.mem_append_right _ (List.mem_of_getElem? (i := 1597) (by decide +kernel))), (List.mem_append_right _ (List.mem_of_getElem? (i := 1598) (by decide +kernel))), TX9, 19, rfl⟩
theorem mpL_167 : swOK RL 167 m_L_pass := ⟨mo_L_pass, (fun h => nomatch h), (List.mem_append_right _ (List.mem_of_getElem? (i := 712) (by decide +kernel))), (List.mem_append_right _ (List.mem_of_getElem? (i := 713) (by decide +kernel)))⟩
theorem mpL_169 : vOK RL 169 m_X9_pass 12 := ⟨mo_X9_pass, rfl, (List.mem_append_right _ (List.mem_of_getElem? (i := 1603) (by decide +kernel))), (List.mem_append_right _ (List.mem_of_getElem? (i := 1604) (by decide +kernel))), (List.mem_append_right _ (List.mem_of_getElem? (i := 1605) (by decide +kernel))), TX9, 19, rfl⟩
theorem mpL_170 : swOK RL 170 m_L_take := ⟨mo_L_take, (fun h => nomatch h), (List.mem_append_right _ (List.mem_of_getElem? (i := 741) (by decide +kernel))), (List.mem_append_right _ (List.mem_of_getElem? (i := 742) (by decide +kernel)))⟩
theorem mpL_172 : vOK RL 172 m_X9_take 12 := ⟨mo_X9_take, rfl, (List.mem_append_right _ (List.mem_of_getElem? (i := 1615) (by decide +kernel))), (List.mem_append_right _ (List.mem_of_getElem? (i := 1616) (by decide +kernel))), (List.mem_append_right _ (List.mem_of_getElem? (i := 1617) (by decide +kernel))), TX9, 19, rfl⟩
theorem mpL_173 : swOK RL 173 m_L_ring := ⟨mo_L_ring, (fun h => nomatch h), (List.mem_append_right _ (List.mem_of_getElem? (i := 758) (by decide +kernel))), (List.mem_append_right _ (List.mem_of_getElem? (i := 759) (by decide +kernel)))⟩
theorem mpL_175 : vOK RL 175 m_X9_ring 12 := ⟨mo_X9_ring, rfl, (List.mem_append_right _ (List.mem_of_getElem? (i := 1623) (by decide +kernel))), (List.mem_append_right _ (List.mem_of_getElem? (i := 1624) (by decide +kernel))), (List.mem_append_right _ (List.mem_of_getElem? (i := 1625) (by decide +kernel))), TX9, 19, rfl⟩
theorem mpL_176 : swOK RL 176 m_L_file := ⟨mo_L_file, (fun h => nomatch h), (List.mem_append_right _ (List.mem_of_getElem? (i := 774) (by decide +kernel))), (List.mem_append_right _ (List.mem_of_getElem? (i := 775) (by decide +kernel)))⟩
theorem mpL_178 : vOK RL 178 m_X9_file 12 := ⟨mo_X9_file, rfl, (List.mem_append_right _ (List.mem_of_getElem? (i := 1631) (by decide +kernel))), (List.mem_append_right _ (List.mem_of_getElem? (i := 1632) (by decide +kernel))), (List.mem_append_right _ (List.mem_of_getElem? (i := 1633) (by decide +kernel))), TX9, 19, rfl⟩
theorem mpL_179 : swOK RL 179 m_L_recast := ⟨mo_L_recast, (fun h => nomatch h), (List.mem_append_right _ (List.mem_of_getElem? (i := 793) (by decide +kernel))), (List.mem_append_right _ (List.mem_of_getElem? (i := 794) (by decide +kernel)))⟩
theorem mpL_181 : vOK RL 181 m_X9_recast 12 := ⟨mo_X9_recast, rfl, (List.mem_append_right _ (List.mem_of_getElem? (i := 1639) (by decide +kernel))), (List.mem_append_right _ (List.mem_of_getElem? (i := 1640) (by decide +kernel))), (List.mem_append_right _ (List.mem_of_getElem? (i := 1641) (by decide +kernel))), TX9, 19, rfl⟩
theorem mpL_182 : swOK RL 182 m_L_bellOf := ⟨mo_L_bellOf, (fun h => nomatch h), (List.mem_append_right _ (List.mem_of_getElem? (i := 814) (by decide +kernel))), (List.mem_append_right _ (List.mem_of_getElem? (i := 815) (by decide +kernel)))⟩
theorem mpL_184 : vOK RL 184 m_X9_bellOf 12 := ⟨mo_X9_bellOf, rfl, (List.mem_append_right _ (List.mem_of_getElem? (i := 1643) (by decide +kernel))), (List.mem_append_right _ (List.mem_of_getElem? (i := 1644) (by decide +kernel))), (List.mem_append_right _ (List.mem_of_getElem? (i := 1645) (by decide +kernel))), TX9, 19, rfl⟩
theorem mpL_185 : swOK RL 185 m_L_note := ⟨mo_L_note, (fun h => nomatch h), (List.mem_append_right _ (List.mem_of_getElem? (i := 822) (by decide +kernel))), (List.mem_append_right _ (List.mem_of_getElem? (i := 823) (by decide +kernel)))⟩
theorem mpL_188 : vOK RL 188 m_X9_note 12 := ⟨mo_X9_note, rfl, (List.mem_append_right _ (List.mem_of_getElem? (i := 1647) (by decide +kernel))), (List.mem_append_right _ (List.mem_of_getElem? (i := 1648) (by decide +kernel))), (List.mem_append_right _ (List.mem_of_getElem? (i := 1649) (by decide +kernel))), TX9, 19, rfl⟩
theorem mpL_189 : swOK RL 189 m_L_wouldCrack := ⟨mo_L_wouldCrack, (fun h => nomatch h), (List.mem_append_right _ (List.mem_of_getElem? (i := 829) (by decide +kernel))), (List.mem_append_right _ (List.mem_of_getElem? (i := 830) (by decide +kernel)))⟩
theorem mpL_191 : vOK RL 191 m_X9_wouldCrack 12 := ⟨mo_X9_wouldCrack, rfl, (List.mem_append_right _ (List.mem_of_getElem? (i := 1651) (by decide +kernel))), (List.mem_append_right _ (List.mem_of_getElem? (i := 1652) (by decide +kernel))), (List.mem_append_right _ (List.mem_of_getElem? (i := 1653) (by decide +kernel))), TX9, 19, rfl⟩
theorem mpL_192 : swOK RL 192 m_L_coldIn := ⟨mo_L_coldIn, (fun h => nomatch h), (List.mem_append_right _ (List.mem_of_getElem? (i := 841) (by decide +kernel))), (List.mem_append_right _ (List.mem_of_getElem? (i := 842) (by decide +kernel)))⟩
theorem mpL_194 : vOK RL 194 m_X9_coldIn 12 := ⟨mo_X9_coldIn, rfl, (List.mem_append_right _ (List.mem_of_getElem? (i := 1659) (by decide +kernel))), (List.mem_append_right _ (List.mem_of_getElem? (i := 1660) (by decide +kernel))), (List.mem_append_right _ (List.mem_of_getElem? (i := 1661) (by decide +kernel))), TX9, 19, rfl⟩
theorem mpL_195 : swOK RL 195 m_L_peal := ⟨mo_L_peal, (fun h => nomatch h), (List.mem_append_right _ (List.mem_of_getElem? (i := 852) (by decide +kernel))), (List.mem_append_right _ (List.mem_of_getElem? (i := 853) (by decide +kernel)))⟩
theorem mpL_197 : vOK RL 197 m_X9_peal 12 := ⟨mo_X9_peal, rfl, (List.mem_append_right _ (List.mem_of_getElem? (i := 1663) (by decide +kernel))), (List.mem_append_right _ (List.mem_of_getElem? (i := 1664) (by decide +kernel))), (List.mem_append_right _ (List.mem_of_getElem? (i := 1665) (by decide +kernel))), TX9, 19, rfl⟩
theorem mpL_198 : swOK RL 198 m_L_longest := ⟨mo_L_longest, (fun h => nomatch h), (List.mem_append_right _ (List.mem_of_getElem? (i := 860) (by decide +kernel))), (List.mem_append_right _ (List.mem_of_getElem? (i := 861) (by decide +kernel)))⟩
theorem mpL_201 : vOK RL 201 m_X9_longest 12 := ⟨mo_X9_longest, rfl, (List.mem_append_right _ (List.mem_of_getElem? (i := 1678) (by decide +kernel))), (List.mem_append_right _ (List.mem_of_getElem? (i := 1679) (by decide +kernel))), (List.mem_append_right _ (List.mem_of_getElem? (i := 1680) (by decide +kernel))), TX9, 19, rfl⟩
theorem mpL_202 : swOK RL 202 m_L_ranked := ⟨mo_L_ranked, (fun h => nomatch h), (List.mem_append_right _ (List.mem_of_getElem? (i := 889) (by decide +kernel))), (List.mem_append_right _ (List.mem_of_getElem? (i := 890) (by decide +kernel)))⟩
theorem mpL_204 : vOK RL 204 m_X9_ranked 12 := ⟨mo_X9_ranked, rfl, (List.mem_append_right _ (List.mem_of_getElem? (i := 1686) (by decide +kernel))), (List.mem_append_right _ (List.mem_of_getElem? (i := 1687) (by decide +kernel))), (List.mem_append_right _ (List.mem_of_getElem? (i := 1688) (by decide +kernel))), TX9, 19, rfl⟩
theorem mpL_205 : vOK RL 205 m_X8_pourable 11 := ⟨mo_X8_pourable, rfl, (List.mem_append_right _ (List.mem_of_getElem? (i := 271) (by decide +kernel))), (List.mem_append_right _ (List.mem_of_getElem? (i := 272) (by decide +kernel))), (List.mem_append_right _ (List.mem_of_getElem? (i := 273) (by decide +kernel))), TX8, 10, rfl⟩
theorem mpL_208 : vOK RL 208 m_X9_pourable 12 := ⟨mo_X9_pourable, rfl, (List.mem_append_right _ (List.mem_of_getElem? (i := 1690) (by decide +kernel))), (List.mem_append_right _ (List.mem_of_getElem? (i := 1691) (by decide +kernel))), (List.mem_append_right _ (List.mem_of_getElem? (i := 1692) (by decide +kernel))), TX9, 19, rfl⟩
theorem mpL_209 : swOK RL 209 m_L_first := ⟨mo_L_first, (fun h => nomatch h), (List.mem_append_right _ (List.mem_of_getElem? (i := 905) (by decide +kernel))), (List.mem_append_right _ (List.mem_of_getElem? (i := 906) (by decide +kernel)))⟩
theorem mpL_211 : vOK RL 211 m_X9_first 12 := ⟨mo_X9_first, rfl, (List.mem_append_right _ (List.mem_of_getElem? (i := 1713) (by decide +kernel))), (List.mem_append_right _ (List.mem_of_getElem? (i := 1714) (by decide +kernel))), (List.mem_append_right _ (List.mem_of_getElem? (i := 1715) (by decide +kernel))), TX9, 19, rfl⟩
theorem mpL_212 : swOK RL 212 m_L_line := ⟨mo_L_line, (fun h => nomatch h), (List.mem_append_right _ (List.mem_of_getElem? (i := 918) (by decide +kernel))), (List.mem_append_right _ (List.mem_of_getElem? (i := 919) (by decide +kernel)))⟩
theorem mpL_214 : vOK RL 214 m_X9_line 12 := ⟨mo_X9_line, rfl, (List.mem_append_right _ (List.mem_of_getElem? (i := 1717) (by decide +kernel))), (List.mem_append_right _ (List.mem_of_getElem? (i := 1718) (by decide +kernel))), (List.mem_append_right _ (List.mem_of_getElem? (i := 1719) (by decide +kernel))), TX9, 19, rfl⟩
theorem mpL_215 : swOK RL 215 m_L_rackLine := ⟨mo_L_rackLine, (fun h => nomatch h), (List.mem_append_right _ (List.mem_of_getElem? (i := 1206) (by decide +kernel))), (List.mem_append_right _ (List.mem_of_getElem? (i := 1207) (by decide +kernel)))⟩
theorem mpL_217 : vOK RL 217 m_X9_rackLine 12 := ⟨mo_X9_rackLine, rfl, (List.mem_append_right _ (List.mem_of_getElem? (i := 1729) (by decide +kernel))), (List.mem_append_right _ (List.mem_of_getElem? (i := 1730) (by decide +kernel))), (List.mem_append_right _ (List.mem_of_getElem? (i := 1731) (by decide +kernel))), TX9, 19, rfl⟩
theorem mpL_218 : swOK RL 218 m_L_character := ⟨mo_L_character, (fun h => nomatch h), (List.mem_append_right _ (List.mem_of_getElem? (i := 1217) (by decide +kernel))), (List.mem_append_right _ (List.mem_of_getElem? (i := 1218) (by decide +kernel)))⟩
theorem mpL_220 : vOK RL 220 m_X9_character 12 := ⟨mo_X9_character, rfl, (List.mem_append_right _ (List.mem_of_getElem? (i := 1733) (by decide +kernel))), (List.mem_append_right _ (List.mem_of_getElem? (i := 1734) (by decide +kernel))), (List.mem_append_right _ (List.mem_of_getElem? (i := 1735) (by decide +kernel))), TX9, 19, rfl⟩
theorem mpL_221 : swOK RL 221 m_L_append := ⟨mo_L_append, (fun h => nomatch h), (List.mem_append_right _ (List.mem_of_getElem? (i := 1235) (by decide +kernel))), (List.mem_append_right _ (List.mem_of_getElem? (i := 1236) (by decide +kernel)))⟩
theorem mpL_224 : vOK RL 224 m_X9_append 12 := ⟨mo_X9_append, rfl, (List.mem_append_right _ (List.mem_of_getElem? (i := 1737) (by decide +kernel))), (List.mem_append_right _ (List.mem_of_getElem? (i := 1738) (by decide +kernel))), (List.mem_append_right _ (List.mem_of_getElem? (i := 1739) (by decide +kernel))), TX9, 19, rfl⟩
theorem mpL_225 : swOK RL 225 m_L_run := ⟨mo_L_run, (fun h => nomatch h), (List.mem_append_right _ (List.mem_of_getElem? (i := 1272) (by decide +kernel))), (List.mem_append_right _ (List.mem_of_getElem? (i := 1273) (by decide +kernel)))⟩
theorem mpL_227 : vOK RL 227 m_X9_run 12 := ⟨mo_X9_run, rfl, (List.mem_append_right _ (List.mem_of_getElem? (i := 1741) (by decide +kernel))), (List.mem_append_right _ (List.mem_of_getElem? (i := 1742) (by decide +kernel))), (List.mem_append_right _ (List.mem_of_getElem? (i := 1743) (by decide +kernel))), TX9, 19, rfl⟩
theorem mpL_228 : vOK RL 228 m_X8_errorPosition 11 := ⟨mo_X8_errorPosition, rfl, (List.mem_append_right _ (List.mem_of_getElem? (i := 329) (by decide +kernel))), (List.mem_append_right _ (List.mem_of_getElem? (i := 330) (by decide +kernel))), (List.mem_append_right _ (List.mem_of_getElem? (i := 331) (by decide +kernel))), TX8, 10, rfl⟩
theorem mpL_231 : vOK RL 231 m_X9_errorPosition 12 := ⟨mo_X9_errorPosition, rfl, (List.mem_append_right _ (List.mem_of_getElem? (i := 1777) (by decide +kernel))), (List.mem_append_right _ (List.mem_of_getElem? (i := 1778) (by decide +kernel))), (List.mem_append_right _ (List.mem_of_getElem? (i := 1779) (by decide +kernel))), TX9, 19, rfl⟩
theorem mpL_232 : swOK RL 232 m_L_refusal := ⟨mo_L_refusal, (fun h => nomatch h), (List.mem_append_right _ (List.mem_of_getElem? (i := 1346) (by decide +kernel))), (List.mem_append_right _ (List.mem_of_getElem? (i := 1347) (by decide +kernel)))⟩
theorem mpL_235 : vOK RL 235 m_X9_refusal 12 := ⟨mo_X9_refusal, rfl, (List.mem_append_right _ (List.mem_of_getElem? (i := 1781) (by decide +kernel))), (List.mem_append_right _ (List.mem_of_getElem? (i := 1782) (by decide +kernel))), (List.mem_append_right _ (List.mem_of_getElem? (i := 1783) (by decide +kernel))), TX9, 19, rfl⟩
theorem mpL_236 : swOK RL 236 m_L_account := ⟨mo_L_account, (fun h => nomatch h), (List.mem_append_right _ (List.mem_of_getElem? (i := 1354) (by decide +kernel))), (List.mem_append_right _ (List.mem_of_getElem? (i := 1355) (by decide +kernel)))⟩
theorem mpL_238 : vOK RL 238 m_X9_account 12 := ⟨mo_X9_account, rfl, (List.mem_append_right _ (List.mem_of_getElem? (i := 1785) (by decide +kernel))), (List.mem_append_right _ (List.mem_of_getElem? (i := 1786) (by decide +kernel))), (List.mem_append_right _ (List.mem_of_getElem? (i := 1787) (by decide +kernel))), TX9, 19, rfl⟩
theorem mpL_239 : vOK RL 239 m_X8_isWell 11 := ⟨mo_X8_isWell, rfl, (List.mem_append_right _ (List.mem_of_getElem? (i := 333) (by decide +kernel))), (List.mem_append_right _ (List.mem_of_getElem? (i := 334) (by decide +kernel))), (List.mem_append_right _ (List.mem_of_getElem? (i := 335) (by decide +kernel))), TX8, 10, rfl⟩
theorem mpL_243 : vOK RL 243 m_X9_isWell 12 := ⟨mo_X9_isWell, rfl, (List.mem_append_right _ (List.mem_of_getElem? (i := 1797) (by decide +kernel))), (List.mem_append_right _ (List.mem_of_getElem? (i := 1798) (by decide +kernel))), (List.mem_append_right _ (List.mem_of_getElem? (i := 1799) (by decide +kernel))), TX9, 19, rfl⟩
theorem mpL_244 : swOK RL 244 m_L_meanNote := ⟨mo_L_meanNote, (fun h => nomatch h), (List.mem_append_right _ (List.mem_of_getElem? (i := 1374) (by decide +kernel))), (List.mem_append_right _ (List.mem_of_getElem? (i := 1375) (by decide +kernel)))⟩
theorem mpL_247 : vOK RL 247 m_X9_meanNote 12 := ⟨mo_X9_meanNote, rfl, (List.mem_append_right _ (List.mem_of_getElem? (i := 1801) (by decide +kernel))), (List.mem_append_right _ (List.mem_of_getElem? (i := 1802) (by decide +kernel))), (List.mem_append_right _ (List.mem_of_getElem? (i := 1803) (by decide +kernel))), TX9, 19, rfl⟩
theorem mpL_248 : swOK RL 248 m_L_soundShare := ⟨mo_L_soundShare, (fun h => nomatch h), (List.mem_append_right _ (List.mem_of_getElem? (i := 1402) (by decide +kernel))), (List.mem_append_right _ (List.mem_of_getElem? (i := 1403) (by decide +kernel)))⟩
theorem mpL_250 : vOK RL 250 m_X9_soundShare 12 := ⟨mo_X9_soundShare, rfl, (List.mem_append_right _ (List.mem_of_getElem? (i := 1805) (by decide +kernel))), (List.mem_append_right _ (List.mem_of_getElem? (i := 1806) (by decide +kernel))), (List.mem_append_right _ (List.mem_of_getElem? (i := 1807) (by decide +kernel))), TX9, 19, rfl⟩
theorem mpL_251 : swOK RL 251 m_L_undo := ⟨mo_L_undo, (fun h => nomatch h), (List.mem_append_right _ (List.mem_of_getElem? (i := 1410) (by decide +kernel))), (List.mem_append_right _ (List.mem_of_getElem? (i := 1411) (by decide +kernel)))⟩
theorem mpL_253 : vOK RL 253 m_X9_undo 12 := ⟨mo_X9_undo, rfl, (List.mem_append_right _ (List.mem_of_getElem? (i := 1809) (by decide +kernel))), (List.mem_append_right _ (List.mem_of_getElem? (i := 1810) (by decide +kernel))), (List.mem_append_right _ (List.mem_of_getElem? (i := 1811) (by decide +kernel))), TX9, 19, rfl⟩
theorem mpL_254 : vOK RL 254 m_X8_save 11 := ⟨mo_X8_save, rfl, (List.mem_append_right _ (List.mem_of_getElem? (i := 398) (by decide +kernel))), (List.mem_append_right _ (List.mem_of_getElem? (i := 399) (by decide +kernel))), (List.mem_append_right _ (List.mem_of_getElem? (i := 400) (by decide +kernel))), TX8, 10, rfl⟩
theorem mpL_257 : vOK RL 257 m_X9_save 12 := ⟨mo_X9_save, rfl, (List.mem_append_right _ (List.mem_of_getElem? (i := 1813) (by decide +kernel))), (List.mem_append_right _ (List.mem_of_getElem? (i := 1814) (by decide +kernel))), (List.mem_append_right _ (List.mem_of_getElem? (i := 1815) (by decide +kernel))), TX9, 19, rfl⟩
theorem mpL_258 : swOK RL 258 m_L_restore := ⟨mo_L_restore, (fun h => nomatch h), (List.mem_append_right _ (List.mem_of_getElem? (i := 1422) (by decide +kernel))), (List.mem_append_right _ (List.mem_of_getElem? (i := 1423) (by decide +kernel)))⟩
theorem mpL_260 : vOK RL 260 m_X9_restore 12 := ⟨mo_X9_restore, rfl, (List.mem_append_right _ (List.mem_of_getElem? (i := 1817) (by decide +kernel))), (List.mem_append_right _ (List.mem_of_getElem? (i := 1818) (by decide +kernel))), (List.mem_append_right _ (List.mem_of_getElem? (i := 1819) (by decide +kernel))), TX9, 19, rfl⟩
theorem mlpL : ∀ q ∈ mlL, ((match q.2.1 with
    | 0 => vOK RL q.1 q.2.2.1 q.2.2.2
    | 1 => sOK RL q.1 q.2.2.1
    | 2 => iOK RL q.1 q.2.2.1
    | 3 => snOK RL q.1 q.2.2.1
    | 4 => inOK RL q.1 q.2.2.1
    | 5 => oiOK RL q.1
    | 6 => mmOK RL q.1
    | 7 => mnOK RL q.1
    | 8 => acOK RL q.1
    | 9 => uOK RL q.1 q.2.2.1
    | 10 => suOK RL q.1 q.2.2.1
    | 11 => swOK RL q.1 q.2.2.1
    | _ => False) : Prop) := (fa_cons mpL_7 (fa_cons mpL_15 (fa_cons mpL_20 (fa_cons mpL_24 (fa_cons mpL_29 (fa_cons mpL_32 (fa_cons mpL_35 (fa_cons mpL_38 (fa_cons mpL_41 (fa_cons mpL_44 (fa_cons mpL_47 (fa_cons mpL_50 (fa_cons mpL_53 (fa_cons mpL_56 (fa_cons mpL_59 (fa_cons mpL_62 (fa_cons mpL_66 (fa_cons mpL_69 (fa_cons mpL_72 (fa_cons mpL_75 (fa_cons mpL_81 (fa_cons mpL_84 (fa_cons mpL_87 (fa_cons mpL_90 (fa_cons mpL_93 (fa_cons mpL_97 (fa_cons mpL_103 (fa_cons mpL_106 (fa_cons mpL_110 (fa_cons mpL_113 (fa_cons mpL_119 (fa_cons mpL_123 (fa_cons mpL_126 (fa_cons mpL_129 (fa_cons mpL_132 (fa_cons mpL_133 (fa_cons mpL_138 (fa_cons mpL_139 (fa_cons mpL_142 (fa_cons mpL_144 (fa_cons mpL_145 (fa_cons mpL_148 (fa_cons mpL_149 (fa_cons mpL_151 (fa_cons mpL_152 (fa_cons mpL_154 (fa_cons mpL_155 (fa_cons mpL_157 (fa_cons mpL_158 (fa_cons mpL_160 (fa_cons mpL_161 (fa_cons mpL_163 (fa_cons mpL_164 (fa_cons mpL_166 (fa_cons mpL_167 (fa_cons mpL_169 (fa_cons mpL_170 (fa_cons mpL_172 (fa_cons mpL_173 (fa_cons mpL_175 (fa_cons mpL_176 (fa_cons mpL_178 (fa_cons mpL_179 (fa_cons mpL_181 (fa_cons mpL_182 (fa_cons mpL_184 (fa_cons mpL_185 (fa_cons mpL_188 (fa_cons mpL_189 (fa_cons mpL_191 (fa_cons mpL_192 (fa_cons mpL_194 (fa_cons mpL_195 (fa_cons mpL_197 (fa_cons mpL_198 (fa_cons mpL_201 (fa_cons mpL_202 (fa_cons mpL_204 (fa_cons mpL_205 (fa_cons mpL_208 (fa_cons mpL_209 (fa_cons mpL_211 (fa_cons mpL_212 (fa_cons mpL_214 (fa_cons mpL_215 (fa_cons mpL_217 (fa_cons mpL_218 (fa_cons mpL_220 (fa_cons mpL_221 (fa_cons mpL_224 (fa_cons mpL_225 (fa_cons mpL_227 (fa_cons mpL_228 (fa_cons mpL_231 (fa_cons mpL_232 (fa_cons mpL_235 (fa_cons mpL_236 (fa_cons mpL_238 (fa_cons mpL_239 (fa_cons mpL_243 (fa_cons mpL_244 (fa_cons mpL_247 (fa_cons mpL_248 (fa_cons mpL_250 (fa_cons mpL_251 (fa_cons mpL_253 (fa_cons mpL_254 (fa_cons mpL_257 (fa_cons mpL_258 (fa_cons mpL_260 fa_nil))))))))))))))))))))))))))))))))))))))))))))))))))))))))))))))))))))))))))))))))))))))))))))))))))))))))))))))
def clPL (q : Nat × (Nat ⊕ Nat)) : Prop := match q.2 with
  | .inl ci => (∀ n fs, newF ci = some (n, fs) → newOK RL q.1 ci n fs) ∧ (ci = 4 → Jvm.Cond.classLink RL q.1 RX0 ∈ lw_tbl)
  | .inr _ => True
theorem clpL : ∀ q ∈ clL, clPL q := (fa_cons ⟨(fun n fs h => by cases h; exact ⟨clOK11, RX8, TX8, tyX8, rfl, tyX8_ok, by decide +kernel, (List.mem_append_right _ (List.mem_of_getElem? (i := 35) (by decide +kernel))), (List.mem_append_right _ (List.mem_of_getElem? (i := 36) (by decide +kernel))), (List.mem_append_right _ (List.mem_of_getElem? (i := 1) (by decide +kernel)))⟩), (fun h => nomatch h)⟩ (fa_cons ⟨(fun n fs h => by cases h; exact ⟨clOK12, RX9, TX9, tyX9, rfl, tyX9_ok, by decide +kernel, (List.mem_append_right _ (List.mem_of_getElem? (i := 1434) (by decide +kernel))), (List.mem_append_right _ (List.mem_of_getElem? (i := 1435) (by decide +kernel))), (List.mem_append_right _ (List.mem_of_getElem? (i := 14) (by decide +kernel)))⟩), (fun h => nomatch h)⟩ fa_nil))
theorem nlpL : ∀ q ∈ nlL, Jvm.Cond.constant RL q.1 q.2 ∈ lw_tbl := fa_nil
theorem cpokL : cpOK RL cpL := by
  refine ⟨fun k ci j ty fin h => flpL _ (lkp_mem h), fun k v h => slpL _ (lkp_mem h), fun k t y ci h => ?_, fun k ci h => clpL _ (lkp_mem h), fun k v h => nlpL _ (lkp_mem h)⟩
  exact mlpL _ (lkp_mem h)
def flX9 : List (Nat × (Nat × Nat × FieldType × Bool)) := [(7, (12, 0, .array .int, true)), (13, (12, 1, .array .int, true)), (16, (12, 2, .array .int, true)), (19, (12, 3, .array .int, true)), (22, (12, 10, .array .int, true)), (25, (12, 12, .int, false)), (29, (12, 13, .array .char, true)), (33, (12, 15, .array .boolean, true)), (37, (12, 17, .array .int, true)), (40, (12, 7, .int, false)), (43, (12, 8, .int, false)), (46, (12, 9, .int, false)), (49, (12, 6, .boolean, false)), (53, (12, 5, .int, false)), (163, (12, 14, .int, false)), (172, (12, 11, .int, false)), (175, (12, 16, .int, false)), (181, (12, 18, .int, false)), (231, (12, 4, .boolean, false))]
def slX9 : List (Nat × Value) := []
def mlX9 : List (Nat × (Nat × m0T × Nat)) := [(1, (5, mNone, 0)), (56, (1, m_X9_copies, 0)), (60, (1, m_X9_in, 0)), (64, (0, m_X9_fails, 12)), (68, (0, m_X9_keeps, 12)), (72, (0, m_X9_refuses, 12)), (76, (0, m_X9_goes, 12)), (80, (0, m_X9_isMould, 12)), (83, (0, m_X9_breaks, 12)), (87, (0, m_X9_core, 12)), (91, (0, m_X9_takes, 12)), (94, (0, m_X9_needs, 12)), (97, (0, m_X9_of, 12)), (100, (0, m_X9_isRack, 12)), (103, (0, m_X9_bellsOn, 12)), (106, (0, m_X9_lays, 12)), (110, (0, m_X9_losing, 12)), (113, (1, m_X9_most, 0)), (116, (0, m_X9_cools, 12)), (119, (0, m_X9_hour, 12)), (123, (0, m_X9_isBell, 12)), (126, (0, m_X9_noteOf, 12)), (129, (0, m_X9_refuses3, 12)), (132, (0, m_X9_hoursOf, 12)), (135, (1, m_X9_step, 0)), (138, (0, m_X9_isHeard, 12)), (141, (0, m_X9_pealFrom, 12)), (144, (0, m_X9_inHall, 12)), (147, (0, m_X9_pours, 12)), (151, (1, m_X9_many, 0)), (154, (0, m_X9_hottest, 12)), (157, (0, m_X9_mostPoured, 12)), (160, (0, m_X9_byHottest, 12)), (166, (0, m_X9_writes, 12)), (169, (0, m_X9_writesNumber, 12)), (178, (0, m_X9_here, 12)), (184, (0, m_X9_skips, 12)), (187, (0, m_X9_figures, 12)), (190, (0, m_X9_orderHere, 12)), (194, (0, m_X9_coal, 12)), (197, (0, m_X9_bronze, 12)), (200, (0, m_X9_mould, 12)), (203, (0, m_X9_rack, 12)), (206, (0, m_X9_pour, 12)), (209, (0, m_X9_pass, 12)), (212, (0, m_X9_take, 12)), (215, (0, m_X9_recast, 12)), (218, (0, m_X9_isText, 12)), (221, (0, m_X9_carries, 12)), (224, (0, m_X9_allOf, 12)), (227, (0, m_X9_sound, 12))]
def clX9 : List (Nat × (Nat ⊕ Nat)) := []
def nlX9 : List (Nat × Int32) := []
def cpX9 : cpT := (lkp flX9, lkp slX9, lkp mlX9, lkp clX9, lkp nlX9)
theorem flpX9 : ∀ q ∈ flX9, fldOK RX9 q.1 q.2.1 q.2.2.1 q.2.2.2.1 q.2.2.2.2 := (fa_cons ⟨clOK12, RX9, TX9, 19, rfl, by decide, rfl, by decide +kernel, (List.mem_append_right _ (List.mem_of_getElem? (i := 1440) (by decide +kernel))), fun _ => rfl⟩ (fa_cons ⟨clOK12, RX9, TX9, 19, rfl, by decide, rfl, by decide +kernel, (List.mem_append_right _ (List.mem_of_getElem? (i := 1441) (by decide +kernel))), fun _ => rfl⟩ (fa_cons ⟨clOK12, RX9, TX9, 19, rfl, by decide, rfl, by decide +kernel, (List.mem_append_right _ (List.mem_of_getElem? (i := 1442) (by decide +kernel))), fun _ => rfl⟩ (fa_cons ⟨clOK12, RX9, TX9, 19, rfl, by decide, rfl, by decide +kernel, (List.mem_append_right _ (List.mem_of_getElem? (i := 1443) (by decide +kernel))), fun _ => rfl⟩ (fa_cons ⟨clOK12, RX9, TX9, 19, rfl, by decide, rfl, by decide +kernel, (List.mem_append_right _ (List.mem_of_getElem? (i := 1450) (by decide +kernel))), fun _ => rfl⟩ (fa_cons ⟨clOK12, RX9, TX9, 19, rfl, by decide, rfl, by decide +kernel, (List.mem_append_right _ (List.mem_of_getElem? (i := 1452) (by decide +kernel))), fun h => nomatch h⟩ (fa_cons ⟨clOK12, RX9, TX9, 19, rfl, by decide, rfl, by decide +kernel, (List.mem_append_right _ (List.mem_of_getElem? (i := 1453) (by decide +kernel))), fun _ => rfl⟩ (fa_cons ⟨clOK12, RX9, TX9, 19, rfl, by decide, rfl, by decide +kernel, (List.mem_append_right _ (List.mem_of_getElem? (i := 1455) (by decide +kernel))), fun _ => rfl⟩ (fa_cons ⟨clOK12, RX9, TX9, 19, rfl, by decide, rfl, by decide +kernel, (List.mem_append_right _ (List.mem_of_getElem? (i := 1457) (by decide +kernel))), fun _ => rfl⟩ (fa_cons ⟨clOK12, RX9, TX9, 19, rfl, by decide, rfl, by decide +kernel, (List.mem_append_right _ (List.mem_of_getElem? (i := 1447) (by decide +kernel))), fun h => nomatch h⟩ (fa_cons ⟨clOK12, RX9, TX9, 19, rfl, by decide, rfl, by decide +kernel, (List.mem_append_right _ (List.mem_of_getElem? (i := 1448) (by decide +kernel))), fun h => nomatch h⟩ (fa_cons ⟨clOK12, RX9, TX9, 19, rfl, by decide, rfl, by decide +kernel, (List.mem_append_right _ (List.mem_of_getElem? (i := 1449) (by decide +kernel))), fun h => nomatch h⟩ (fa_cons ⟨clOK12, RX9, TX9, 19, rfl, by decide, rfl, by decide +kernel, (List.mem_append_right _ (List.mem_of_getElem? (i := 1446) (by decide +kernel))), fun h => nomatch h⟩ (fa_cons ⟨clOK12, RX9, TX9, 19, rfl, by decide, rfl, by decide +kernel, (List.mem_append_right _ (List.mem_of_getElem? (i := 1445) (by decide +kernel))), fun h => nomatch h⟩ (fa_cons ⟨clOK12, RX9, TX9, 19, rfl, by decide, rfl, by decide +kernel, (List.mem_append_right _ (List.mem_of_getElem? (i := 1454) (by decide +kernel))), fun h => nomatch h⟩ (fa_cons ⟨clOK12, RX9, TX9, 19, rfl, by decide, rfl, by decide +kernel, (List.mem_append_right _ (List.mem_of_getElem? (i := 1451) (by decide +kernel))), fun h => nomatch h⟩ (fa_cons ⟨clOK12, RX9, TX9, 19, rfl, by decide, rfl, by decide +kernel, (List.mem_append_right _ (List.mem_of_getElem? (i := 1456) (by decide +kernel))), fun h => nomatch h⟩ (fa_cons ⟨clOK12, RX9, TX9, 19, rfl, by decide, rfl, by decide +kernel, (List.mem_append_right _ (List.mem_of_getElem? (i := 1458) (by decide +kernel))), fun h => nomatch h⟩ (fa_cons ⟨clOK12, RX9, TX9, 19, rfl, by decide, rfl, by decide +kernel, (List.mem_append_right _ (List.mem_of_getElem? (i := 1444) (by decide +kernel))), fun h => nomatch h⟩ fa_nil)))))))))))))))))))
theorem slpX9 : ∀ q ∈ slX9, stcOK RX9 q.1 q.2 := fa_nil
theorem mpX9_1 : oiOK RX9 1 := ⟨(List.mem_append_right _ (List.mem_of_getElem? (i := 1439) (by decide +kernel))), (List.mem_append_right _ (List.mem_of_getElem? (i := 41) (by decide +kernel))), (List.mem_append_right _ (List.mem_of_getElem? (i := 42) (by decide +kernel)))⟩
theorem mpX9_56 : sOK RX9 56 m_X9_copies := ⟨mo_X9_copies, rfl, (List.mem_append_right _ (List.mem_of_getElem? (i := 1517) (by decide +kernel))), (List.mem_append_right _ (List.mem_of_getElem? (i := 1518) (by decide +kernel)))⟩
theorem mpX9_60 : sOK RX9 60 m_X9_in := ⟨mo_X9_in, rfl, (List.mem_append_right _ (List.mem_of_getElem? (i := 1506) (by decide +kernel))), (List.mem_append_right _ (List.mem_of_getElem? (i := 1507) (by decide +kernel)))⟩
theorem mpX9_64 : vOK RX9 64 m_X9_fails 12 := ⟨mo_X9_fails, rfl, (List.mem_append_right _ (List.mem_of_getElem? (i := 1509) (by decide +kernel))), (List.mem_append_right _ (List.mem_of_getElem? (i := 1511) (by decide +kernel))), (List.mem_append_left _ (List.mem_of_getElem? (i := 26) (by decide +kernel))), TX9, 19, rfl⟩
theorem mpX9_68 : vOK RX9 68 m_X9_keeps 12 := ⟨mo_X9_keeps, rfl, (List.mem_append_right _ (List.mem_of_getElem? (i := 1513) (by decide +kernel))), (List.mem_append_right _ (List.mem_of_getElem? (i := 1515) (by decide +kernel))), (List.mem_append_left _ (List.mem_of_getElem? (i := 27) (by decide +kernel))), TX9, 19, rfl⟩
theorem mpX9_72 : vOK RX9 72 m_X9_refuses 12 := ⟨mo_X9_refuses, rfl, (List.mem_append_right _ (List.mem_of_getElem? (i := 1524) (by decide +kernel))), (List.mem_append_right _ (List.mem_of_getElem? (i := 1526) (by decide +kernel))), (List.mem_append_left _ (List.mem_of_getElem? (i := 28) (by decide +kernel))), TX9, 19, rfl⟩
theorem mpX9_76 : vOK RX9 76 m_X9_goes 12 := ⟨mo_X9_goes, rfl, (List.mem_append_right _ (List.mem_of_getElem? (i := 1544) (by decide +kernel))), (List.mem_append_right _ (List.mem_of_getElem? (i := 1546) (by decide +kernel))), (List.mem_append_left _ (List.mem_of_getElem? (i := 31) (by decide +kernel))), TX9, 19, rfl⟩
theorem mpX9_80 : vOK RX9 80 m_X9_isMould 12 := ⟨mo_X9_isMould, rfl, (List.mem_append_right _ (List.mem_of_getElem? (i := 1536) (by decide +kernel))), (List.mem_append_right _ (List.mem_of_getElem? (i := 1538) (by decide +kernel))), (List.mem_append_left _ (List.mem_of_getElem? (i := 29) (by decide +kernel))), TX9, 19, rfl⟩
theorem mpX9_83 : vOK RX9 83 m_X9_breaks 12 := ⟨mo_X9_breaks, rfl, (List.mem_append_right _ (List.mem_of_getElem? (i := 1540) (by decide +kernel))), (List.mem_append_right _ (List.mem_of_getElem? (i := 1542) (by decide +kernel))), (List.mem_append_left _ (List.mem_of_getElem? (i := 30) (by decide +kernel))), TX9, 19, rfl⟩
theorem mpX9_87 : vOK RX9 87 m_X9_core 12 := ⟨mo_X9_core, rfl, (List.mem_append_right _ (List.mem_of_getElem? (i := 1552) (by decide +kernel))), (List.mem_append_right _ (List.mem_of_getElem? (i := 1554) (by decide +kernel))), (List.mem_append_left _ (List.mem_of_getElem? (i := 32) (by decide +kernel))), TX9, 19, rfl⟩
theorem mpX9_91 : vOK RX9 91 m_X9_takes 12 := ⟨mo_X9_takes, rfl, (List.mem_append_right _ (List.mem_of_getElem? (i := 1556) (by decide +kernel))), (List.mem_append_right _ (List.mem_of_getElem? (i := 1558) (by decide +kernel))), (List.mem_append_left _ (List.mem_of_getElem? (i := 33) (by decide +kernel))), TX9, 19, rfl⟩
theorem mpX9_94 : vOK RX9 94 m_X9_needs 12 := ⟨mo_X9_needs, rfl, (List.mem_append_right _ (List.mem_of_getElem? (i := 1560) (by decide +kernel))), (List.mem_append_right _ (List.mem_of_getElem? (i := 1562) (by decide +kernel))), (List.mem_append_left _ (List.mem_of_getElem? (i := 34) (by decide +kernel))), TX9, 19, rfl⟩
theorem mpX9_97 : vOK RX9 97 m_X9_of 12 := ⟨mo_X9_of, rfl, (List.mem_append_right _ (List.mem_of_getElem? (i := 1580) (by decide +kernel))), (List.mem_append_right _ (List.mem_of_getElem? (i := 1582) (by decide +kernel))), (List.mem_append_left _ (List.mem_of_getElem? (i := 37) (by decide +kernel))), TX9, 19, rfl⟩
theorem mpX9_100 : vOK RX9 100 m_X9_isRack 12 := ⟨mo_X9_isRack, rfl, (List.mem_append_right _ (List.mem_of_getElem? (i := 1572) (by decide +kernel))), (List.mem_append_right _ (List.mem_of_getElem? (i := 1574) (by decide +kernel))), (List.mem_append_left _ (List.mem_of_getElem? (i := 35) (by decide +kernel))), TX9, 19, rfl⟩
theorem mpX9_103 : vOK RX9 103 m_X9_bellsOn 12 := ⟨mo_X9_bellsOn, rfl, (List.mem_append_right _ (List.mem_of_getElem? (i := 1576) (by decide +kernel))), (List.mem_append_right _ (List.mem_of_getElem? (i := 1578) (by decide +kernel))), (List.mem_append_left _ (List.mem_of_getElem? (i := 36) (by decide +kernel))), TX9, 19, rfl⟩
theorem mpX9_106 : vOK RX9 106 m_X9_lays 12 := ⟨mo_X9_lays, rfl, (List.mem_append_right _ (List.mem_of_getElem? (i := 1584) (by decide +kernel))), (List.mem_append_right _ (List.mem_of_getElem? (i := 1586) (by decide +kernel))), (List.mem_append_left _ (List.mem_of_getElem? (i := 38) (by decide +kernel))), TX9, 19, rfl⟩
theorem mpX9_110 : vOK RX9 110 m_X9_losing 12 := ⟨mo_X9_losing, rfl, (List.mem_append_right _ (List.mem_of_getElem? (i := 1592) (by decide +kernel))), (List.mem_append_right _ (List.mem_of_getElem? (i := 1594) (by decide +kernel))), (List.mem_append_left _ (List.mem_of_getElem? (i := 39) (by decide +kernel))), TX9, 19, rfl⟩
theorem mpX9_113 : sOK RX9 113 m_X9_most := ⟨mo_X9_most, rfl, (List.mem_append_right _ (List.mem_of_getElem? (i := 1600) (by decide +kernel))), (List.mem_append_right _ (List.mem_of_getElem? (i := 1601) (by decide +kernel)))⟩
theorem mpX9_116 : vOK RX9 116 m_X9_cools 12 := ⟨mo_X9_cools, rfl, (List.mem_append_right _ (List.mem_of_getElem? (i := 1611) (by decide +kernel))), (List.mem_append_right _ (List.mem_of_getElem? (i := 1613) (by decide +kernel))), (List.mem_append_left _ (List.mem_of_getElem? (i := 41) (by decide +kernel))), TX9, 19, rfl⟩
theorem mpX9_119 : vOK RX9 119 m_X9_hour 12 := ⟨mo_X9_hour, rfl, (List.mem_append_right _ (List.mem_of_getElem? (i := 1607) (by decide +kernel))), (List.mem_append_right _ (List.mem_of_getElem? (i := 1609) (by decide +kernel))), (List.mem_append_left _ (List.mem_of_getElem? (i := 40) (by decide +kernel))), TX9, 19, rfl⟩
theorem mpX9_123 : vOK RX9 123 m_X9_isBell 12 := ⟨mo_X9_isBell, rfl, (List.mem_append_right _ (List.mem_of_getElem? (i := 1619) (by decide +kernel))), (List.mem_append_right _ (List.mem_of_getElem? (i := 1621) (by decide +kernel))), (List.mem_append_left _ (List.mem_of_getElem? (i := 42) (by decide +kernel))), TX9, 19, rfl⟩
theorem mpX9_126 : vOK RX9 126 m_X9_noteOf 12 := ⟨mo_X9_noteOf, rfl, (List.mem_append_right _ (List.mem_of_getElem? (i := 1627) (by decide +kernel))), (List.mem_append_right _ (List.mem_of_getElem? (i := 1629) (by decide +kernel))), (List.mem_append_left _ (List.mem_of_getElem? (i := 43) (by decide +kernel))), TX9, 19, rfl⟩
theorem mpX9_129 : vOK RX9 129 m_X9_refuses3 12 := ⟨mo_X9_refuses3, rfl, (List.mem_append_right _ (List.mem_of_getElem? (i := 1635) (by decide +kernel))), (List.mem_append_right _ (List.mem_of_getElem? (i := 1637) (by decide +kernel))), (List.mem_append_left _ (List.mem_of_getElem? (i := 44) (by decide +kernel))), TX9, 19, rfl⟩
theorem mpX9_132 : vOK RX9 132 m_X9_hoursOf 12 := ⟨mo_X9_hoursOf, rfl, (List.mem_append_right _ (List.mem_of_getElem? (i := 1655) (by decide +kernel))), (List.mem_append_right _ (List.mem_of_getElem? (i := 1657) (by decide +kernel))), (List.mem_append_left _ (List.mem_of_getElem? (i := 45) (by decide +kernel))), TX9, 19, rfl⟩
theorem mpX9_135 : sOK RX9 135 m_X9_step := ⟨mo_X9_step, rfl, (List.mem_append_right _ (List.mem_of_getElem? (i := 1671) (by decide +kernel))), (List.mem_append_right _ (List.mem_of_getElem? (i := 1672) (by decide +kernel)))⟩
theorem mpX9_138 : vOK RX9 138 m_X9_isHeard 12 := ⟨mo_X9_isHeard, rfl, (List.mem_append_right _ (List.mem_of_getElem? (i := 1674) (by decide +kernel))), (List.mem_append_right _ (List.mem_of_getElem? (i := 1676) (by decide +kernel))), (List.mem_append_left _ (List.mem_of_getElem? (i := 47) (by decide +kernel))), TX9, 19, rfl⟩
theorem mpX9_141 : vOK RX9 141 m_X9_pealFrom 12 := ⟨mo_X9_pealFrom, rfl, (List.mem_append_right _ (List.mem_of_getElem? (i := 1667) (by decide +kernel))), (List.mem_append_right _ (List.mem_of_getElem? (i := 1669) (by decide +kernel))), (List.mem_append_left _ (List.mem_of_getElem? (i := 46) (by decide +kernel))), TX9, 19, rfl⟩
theorem mpX9_144 : vOK RX9 144 m_X9_inHall 12 := ⟨mo_X9_inHall, rfl, (List.mem_append_right _ (List.mem_of_getElem? (i := 1682) (by decide +kernel))), (List.mem_append_right _ (List.mem_of_getElem? (i := 1684) (by decide +kernel))), (List.mem_append_left _ (List.mem_of_getElem? (i := 48) (by decide +kernel))), TX9, 19, rfl⟩
theorem mpX9_147 : vOK RX9 147 m_X9_pours 12 := ⟨mo_X9_pours, rfl, (List.mem_append_right _ (List.mem_of_getElem? (i := 1698) (by decide +kernel))), (List.mem_append_right _ (List.mem_of_getElem? (i := 1700) (by decide +kernel))), (List.mem_append_left _ (List.mem_of_getElem? (i := 50) (by decide +kernel))), TX9, 19, rfl⟩
theorem mpX9_151 : sOK RX9 151 m_X9_many := ⟨mo_X9_many, rfl, (List.mem_append_right _ (List.mem_of_getElem? (i := 1702) (by decide +kernel))), (List.mem_append_right _ (List.mem_of_getElem? (i := 1703) (by decide +kernel)))⟩
theorem mpX9_154 : vOK RX9 154 m_X9_hottest 12 := ⟨mo_X9_hottest, rfl, (List.mem_append_right _ (List.mem_of_getElem? (i := 1709) (by decide +kernel))), (List.mem_append_right _ (List.mem_of_getElem? (i := 1711) (by decide +kernel))), (List.mem_append_left _ (List.mem_of_getElem? (i := 52) (by decide +kernel))), TX9, 19, rfl⟩
theorem mpX9_157 : vOK RX9 157 m_X9_mostPoured 12 := ⟨mo_X9_mostPoured, rfl, (List.mem_append_right _ (List.mem_of_getElem? (i := 1694) (by decide +kernel))), (List.mem_append_right _ (List.mem_of_getElem? (i := 1696) (by decide +kernel))), (List.mem_append_left _ (List.mem_of_getElem? (i := 49) (by decide +kernel))), TX9, 19, rfl⟩
theorem mpX9_160 : vOK RX9 160 m_X9_byHottest 12 := ⟨mo_X9_byHottest, rfl, (List.mem_append_right _ (List.mem_of_getElem? (i := 1705) (by decide +kernel))), (List.mem_append_right _ (List.mem_of_getElem? (i := 1707) (by decide +kernel))), (List.mem_append_left _ (List.mem_of_getElem? (i := 51) (by decide +kernel))), TX9, 19, rfl⟩
theorem mpX9_166 : vOK RX9 166 m_X9_writes 12 := ⟨mo_X9_writes, rfl, (List.mem_append_right _ (List.mem_of_getElem? (i := 1725) (by decide +kernel))), (List.mem_append_right _ (List.mem_of_getElem? (i := 1727) (by decide +kernel))), (List.mem_append_left _ (List.mem_of_getElem? (i := 54) (by decide +kernel))), TX9, 19, rfl⟩
theorem mpX9_169 : vOK RX9 169 m_X9_writesNumber 12 := ⟨mo_X9_writesNumber, rfl, (List.mem_append_right _ (List.mem_of_getElem? (i := 1721) (by decide +kernel))), (List.mem_append_right _ (List.mem_of_getElem? (i := 1723) (by decide +kernel))), (List.mem_append_left _ (List.mem_of_getElem? (i := 53) (by decide +kernel))), TX9, 19, rfl⟩
theorem mpX9_178 : vOK RX9 178 m_X9_here 12 := ⟨mo_X9_here, rfl, (List.mem_append_right _ (List.mem_of_getElem? (i := 1753) (by decide +kernel))), (List.mem_append_right _ (List.mem_of_getElem? (i := 1755) (by decide +kernel))), (List.mem_append_left _ (List.mem_of_getElem? (i := 57) (by decide +kernel))), TX9, 19, rfl⟩
theorem mpX9_184 : vOK RX9 184 m_X9_skips 12 := ⟨mo_X9_skips, rfl, (List.mem_append_right _ (List.mem_of_getElem? (i := 1757) (by decide +kernel))), (List.mem_append_right _ (List.mem_of_getElem? (i := 1759) (by decide +kernel))), (List.mem_append_left _ (List.mem_of_getElem? (i := 58) (by decide +kernel))), TX9, 19, rfl⟩
theorem mpX9_187 : vOK RX9 187 m_X9_figures 12 := ⟨mo_X9_figures, rfl, (List.mem_append_right _ (List.mem_of_getElem? (i := 1761) (by decide +kernel))), (List.mem_append_right _ (List.mem_of_getElem? (i := 1763) (by decide +kernel))), (List.mem_append_left _ (List.mem_of_getElem? (i := 59) (by decide +kernel))), TX9, 19, rfl⟩
theorem mpX9_190 : vOK RX9 190 m_X9_orderHere 12 := ⟨mo_X9_orderHere, rfl, (List.mem_append_right _ (List.mem_of_getElem? (i := 1749) (by decide +kernel))), (List.mem_append_right _ (List.mem_of_getElem? (i := 1751) (by decide +kernel))), (List.mem_append_left _ (List.mem_of_getElem? (i := 56) (by decide +kernel))), TX9, 19, rfl⟩
theorem mpX9_194 : vOK RX9 194 m_X9_coal 12 := ⟨mo_X9_coal, rfl, (List.mem_append_right _ (List.mem_of_getElem? (i := 1769) (by decide +kernel))), (List.mem_append_right _ (List.mem_of_getElem? (i := 1503) (by decide +kernel))), (List.mem_append_right _ (List.mem_of_getElem? (i := 1504) (by decide +kernel))), TX9, 19, rfl⟩
theorem mpX9_197 : vOK RX9 197 m_X9_bronze 12 := ⟨mo_X9_bronze, rfl, (List.mem_append_right _ (List.mem_of_getElem? (i := 1770) (by decide +kernel))), (List.mem_append_right _ (List.mem_of_getElem? (i := 1521) (by decide +kernel))), (List.mem_append_right _ (List.mem_of_getElem? (i := 1522) (by decide +kernel))), TX9, 19, rfl⟩
theorem mpX9_200 : vOK RX9 200 m_X9_mould 12 := ⟨mo_X9_mould, rfl, (List.mem_append_right _ (List.mem_of_getElem? (i := 1771) (by decide +kernel))), (List.mem_append_right _ (List.mem_of_getElem? (i := 1529) (by decide +kernel))), (List.mem_append_right _ (List.mem_of_getElem? (i := 1530) (by decide +kernel))), TX9, 19, rfl⟩
theorem mpX9_203 : vOK RX9 203 m_X9_rack 12 := ⟨mo_X9_rack, rfl, (List.mem_append_right _ (List.mem_of_getElem? (i := 1772) (by decide +kernel))), (List.mem_append_right _ (List.mem_of_getElem? (i := 1565) (by decide +kernel))), (List.mem_append_right _ (List.mem_of_getElem? (i := 1566) (by decide +kernel))), TX9, 19, rfl⟩
theorem mpX9_206 : vOK RX9 206 m_X9_pour 12 := ⟨mo_X9_pour, rfl, (List.mem_append_right _ (List.mem_of_getElem? (i := 1773) (by decide +kernel))), (List.mem_append_right _ (List.mem_of_getElem? (i := 1597) (by decide +kernel))), (List.mem_append_right _ (List.mem_of_getElem? (i := 1598) (by decide +kernel))), TX9, 19, rfl⟩
theorem mpX9_209 : vOK RX9 209 m_X9_pass 12 := ⟨mo_X9_pass, rfl, (List.mem_append_right _ (List.mem_of_getElem? (i := 1774) (by decide +kernel))), (List.mem_append_right _ (List.mem_of_getElem? (i := 1604) (by decide +kernel))), (List.mem_append_right _ (List.mem_of_getElem? (i := 1605) (by decide +kernel))), TX9, 19, rfl⟩
theorem mpX9_212 : vOK RX9 212 m_X9_take 12 := ⟨mo_X9_take, rfl, (List.mem_append_right _ (List.mem_of_getElem? (i := 1775) (by decide +kernel))), (List.mem_append_right _ (List.mem_of_getElem? (i := 1616) (by decide +kernel))), (List.mem_append_right _ (List.mem_of_getElem? (i := 1617) (by decide +kernel))), TX9, 19, rfl⟩
theorem mpX9_215 : vOK RX9 215 m_X9_recast 12 := ⟨mo_X9_recast, rfl, (List.mem_append_right _ (List.mem_of_getElem? (i := 1776) (by decide +kernel))), (List.mem_append_right _ (List.mem_of_getElem? (i := 1640) (by decide +kernel))), (List.mem_append_right _ (List.mem_of_getElem? (i := 1641) (by decide +kernel))), TX9, 19, rfl⟩
theorem mpX9_218 : vOK RX9 218 m_X9_isText 12 := ⟨mo_X9_isText, rfl, (List.mem_append_right _ (List.mem_of_getElem? (i := 1745) (by decide +kernel))), (List.mem_append_right _ (List.mem_of_getElem? (i := 1747) (by decide +kernel))), (List.mem_append_left _ (List.mem_of_getElem? (i := 55) (by decide +kernel))), TX9, 19, rfl⟩
theorem mpX9_221 : vOK RX9 221 m_X9_carries 12 := ⟨mo_X9_carries, rfl, (List.mem_append_right _ (List.mem_of_getElem? (i := 1765) (by decide +kernel))), (List.mem_append_right _ (List.mem_of_getElem? (i := 1767) (by decide +kernel))), (List.mem_append_left _ (List.mem_of_getElem? (i := 60) (by decide +kernel))), TX9, 19, rfl⟩
theorem mpX9_224 : vOK RX9 224 m_X9_allOf 12 := ⟨mo_X9_allOf, rfl, (List.mem_append_right _ (List.mem_of_getElem? (i := 1789) (by decide +kernel))), (List.mem_append_right _ (List.mem_of_getElem? (i := 1791) (by decide +kernel))), (List.mem_append_left _ (List.mem_of_getElem? (i := 61) (by decide +kernel))), TX9, 19, rfl⟩
theorem mpX9_227 : vOK RX9 227 m_X9_sound 12 := ⟨mo_X9_sound, rfl, (List.mem_append_right _ (List.mem_of_getElem? (i := 1793) (by decide +kernel))), (List.mem_append_right _ (List.mem_of_getElem? (i := 1795) (by decide +kernel))), (List.mem_append_left _ (List.mem_of_getElem? (i := 62) (by decide +kernel))), TX9, 19, rfl⟩
theorem mlpX9 : ∀ q ∈ mlX9, ((match q.2.1 with
    | 0 => vOK RX9 q.1 q.2.2.1 q.2.2.2
    | 1 => sOK RX9 q.1 q.2.2.1
    | 2 => iOK RX9 q.1 q.2.2.1
    | 3 => snOK RX9 q.1 q.2.2.1
    | 4 => inOK RX9 q.1 q.2.2.1
    | 5 => oiOK RX9 q.1
    | 6 => mmOK RX9 q.1
    | 7 => mnOK RX9 q.1
    | 8 => acOK RX9 q.1
    | 9 => uOK RX9 q.1 q.2.2.1
    | 10 => suOK RX9 q.1 q.2.2.1
    | 11 => swOK RX9 q.1 q.2.2.1
    | _ => False) : Prop) := (fa_cons mpX9_1 (fa_cons mpX9_56 (fa_cons mpX9_60 (fa_cons mpX9_64 (fa_cons mpX9_68 (fa_cons mpX9_72 (fa_cons mpX9_76 (fa_cons mpX9_80 (fa_cons mpX9_83 (fa_cons mpX9_87 (fa_cons mpX9_91 (fa_cons mpX9_94 (fa_cons mpX9_97 (fa_cons mpX9_100 (fa_cons mpX9_103 (fa_cons mpX9_106 (fa_cons mpX9_110 (fa_cons mpX9_113 (fa_cons mpX9_116 (fa_cons mpX9_119 (fa_cons mpX9_123 (fa_cons mpX9_126 (fa_cons mpX9_129 (fa_cons mpX9_132 (fa_cons mpX9_135 (fa_cons mpX9_138 (fa_cons mpX9_141 (fa_cons mpX9_144 (fa_cons mpX9_147 (fa_cons mpX9_151 (fa_cons mpX9_154 (fa_cons mpX9_157 (fa_cons mpX9_160 (fa_cons mpX9_166 (fa_cons mpX9_169 (fa_cons mpX9_178 (fa_cons mpX9_184 (fa_cons mpX9_187 (fa_cons mpX9_190 (fa_cons mpX9_194 (fa_cons mpX9_197 (fa_cons mpX9_200 (fa_cons mpX9_203 (fa_cons mpX9_206 (fa_cons mpX9_209 (fa_cons mpX9_212 (fa_cons mpX9_215 (fa_cons mpX9_218 (fa_cons mpX9_221 (fa_cons mpX9_224 (fa_cons mpX9_227 fa_nil)))))))))))))))))))))))))))))))))))))))))))))))))))
def clPX9 (q : Nat × (Nat ⊕ Nat)) : Prop := match q.2 with
  | .inl ci => (∀ n fs, newF ci = some (n, fs) → newOK RX9 q.1 ci n fs) ∧ (ci = 4 → Jvm.Cond.classLink RX9 q.1 RX0 ∈ lw_tbl)
  | .inr _ => True
theorem clpX9 : ∀ q ∈ clX9, clPX9 q := fa_nil
theorem nlpX9 : ∀ q ∈ nlX9, Jvm.Cond.constant RX9 q.1 q.2 ∈ lw_tbl := fa_nil
theorem cpokX9 : cpOK RX9 cpX9 := by
  refine ⟨fun k ci j ty fin h => flpX9 _ (lkp_mem h), fun k v h => slpX9 _ (lkp_mem h), fun k t y ci h => ?_, fun k ci h => clpX9 _ (lkp_mem h), fun k v h => nlpX9 _ (lkp_mem h)⟩
  exact mlpX9 _ (lkp_mem h)
def flJ5 : List (Nat × (Nat × Nat × FieldType × Bool)) := [(15, (1, 0, .array .byte, false)), (22, (1, 1, .byte, false)), (73, (1, 2, .boolean, false)), (79, (1, 3, .int, false))]
def slJ5 : List (Nat × Value) := [(18, .int 1)]
def mlJ5 : List (Nat × (Nat × m0T × Nat)) := [(3, (5, mNone, 0)), (83, (9, m_J5_isLatin1_aae02, 1)), (100, (9, m_J5_ensureCapacityInternal_d00df, 1)), (104, (9, m_J5_newCapacity_0f7a4, 1)), (108, (1, m_J7_copyOf_9075b, 0)), (114, (1, m_J8_newLength_cabcc, 0)), (138, (7, mNone, 0)), (144, (1, m_J0_checkIndex_df160, 0)), (191, (1, m_J1_canEncode_fc78d, 0)), (245, (1, m_J6_stringSize_0f7a4, 0)), (248, (1, m_J6_getChars_ba4f3, 0))]
def clJ5 : List (Nat × (Nat ⊕ Nat)) := []
def nlJ5 : List (Nat × Int32) := [(39, 2147483647)]
def cpJ5 : cpT := (lkp flJ5, lkp slJ5, lkp mlJ5, lkp clJ5, lkp nlJ5)
theorem flpJ5 : ∀ q ∈ flJ5, fldOK RJ5 q.1 q.2.1 q.2.2.1 q.2.2.2.1 q.2.2.2.2 := (fa_cons ⟨clOK1, RJ4, TJ4, 4, rfl, by decide, rfl, by decide +kernel, (List.mem_append_right _ (List.mem_of_getElem? (i := 225) (by decide +kernel))), fun h => nomatch h⟩ (fa_cons ⟨clOK1, RJ4, TJ4, 4, rfl, by decide, rfl, by decide +kernel, (List.mem_append_right _ (List.mem_of_getElem? (i := 226) (by decide +kernel))), fun h => nomatch h⟩ (fa_cons ⟨clOK1, RJ4, TJ4, 4, rfl, by decide, rfl, by decide +kernel, (List.mem_append_right _ (List.mem_of_getElem? (i := 227) (by decide +kernel))), fun h => nomatch h⟩ (fa_cons ⟨clOK1, RJ4, TJ4, 4, rfl, by decide, rfl, by decide +kernel, (List.mem_append_right _ (List.mem_of_getElem? (i := 229) (by decide +kernel))), fun h => nomatch h⟩ fa_nil))))
theorem slpJ5 : ∀ q ∈ slJ5, stcOK RJ5 q.1 q.2 := (fa_cons ⟨_, List.mem_of_getElem? (i := 6) rfl, rfl, Or.inl (List.mem_append_right _ (List.mem_of_getElem? (i := 216) (by decide +kernel)))⟩ fa_nil)
theorem mpJ5_3 : oiOK RJ5 3 := ⟨(List.mem_append_right _ (List.mem_of_getElem? (i := 215) (by decide +kernel))), (List.mem_append_right _ (List.mem_of_getElem? (i := 41) (by decide +kernel))), (List.mem_append_right _ (List.mem_of_getElem? (i := 42) (by decide +kernel)))⟩
theorem mpJ5_83 : uOK RJ5 83 m_J5_isLatin1_aae02 := ⟨mo_J5_isLatin1_aae02, rfl, (List.mem_append_right _ (List.mem_of_getElem? (i := 986) (by decide +kernel))), (List.mem_append_right _ (List.mem_of_getElem? (i := 987) (by decide +kernel))), (List.mem_append_right _ (List.mem_of_getElem? (i := 988) (by decide +kernel))), Or.inl (List.mem_append_right _ (List.mem_of_getElem? (i := 989) (by decide +kernel)))⟩
theorem mpJ5_100 : uOK RJ5 100 m_J5_ensureCapacityInternal_d00df := ⟨mo_J5_ensureCapacityInternal_d00df, rfl, (List.mem_append_right _ (List.mem_of_getElem? (i := 955) (by decide +kernel))), (List.mem_append_right _ (List.mem_of_getElem? (i := 957) (by decide +kernel))), (List.mem_append_right _ (List.mem_of_getElem? (i := 1827) (by decide +kernel))), Or.inr (List.mem_append_right _ (List.mem_of_getElem? (i := 956) (by decide +kernel)))⟩
theorem mpJ5_104 : uOK RJ5 104 m_J5_newCapacity_0f7a4 := ⟨mo_J5_newCapacity_0f7a4, rfl, (List.mem_append_right _ (List.mem_of_getElem? (i := 959) (by decide +kernel))), (List.mem_append_right _ (List.mem_of_getElem? (i := 961) (by decide +kernel))), (List.mem_append_right _ (List.mem_of_getElem? (i := 1828) (by decide +kernel))), Or.inr (List.mem_append_right _ (List.mem_of_getElem? (i := 960) (by decide +kernel)))⟩
theorem mpJ5_108 : sOK RJ5 108 m_J7_copyOf_9075b := ⟨mo_J7_copyOf_9075b, rfl, (List.mem_append_right _ (List.mem_of_getElem? (i := 972) (by decide +kernel))), (List.mem_append_right _ (List.mem_of_getElem? (i := 973) (by decide +kernel)))⟩
theorem mpJ5_114 : sOK RJ5 114 m_J8_newLength_cabcc := ⟨mo_J8_newLength_cabcc, rfl, (List.mem_append_right _ (List.mem_of_getElem? (i := 963) (by decide +kernel))), (List.mem_append_right _ (List.mem_of_getElem? (i := 964) (by decide +kernel)))⟩
theorem mpJ5_138 : mnOK RJ5 138 := ⟨(List.mem_append_right _ (List.mem_of_getElem? (i := 1232) (by decide +kernel))), (List.mem_append_right _ (List.mem_of_getElem? (i := 284) (by decide +kernel))), (List.mem_append_right _ (List.mem_of_getElem? (i := 4) (by decide +kernel))), (List.mem_append_right _ (List.mem_of_getElem? (i := 285) (by decide +kernel)))⟩
theorem mpJ5_144 : sOK RJ5 144 m_J0_checkIndex_df160 := ⟨mo_J0_checkIndex_df160, rfl, (List.mem_append_right _ (List.mem_of_getElem? (i := 1233) (by decide +kernel))), (List.mem_append_right _ (List.mem_of_getElem? (i := 1200) (by decide +kernel)))⟩
theorem mpJ5_191 : sOK RJ5 191 m_J1_canEncode_fc78d := ⟨mo_J1_canEncode_fc78d, rfl, (List.mem_append_right _ (List.mem_of_getElem? (i := 1190) (by decide +kernel))), (List.mem_append_right _ (List.mem_of_getElem? (i := 1191) (by decide +kernel)))⟩
theorem mpJ5_245 : sOK RJ5 245 m_J6_stringSize_0f7a4 := ⟨mo_J6_stringSize_0f7a4, rfl, (List.mem_append_right _ (List.mem_of_getElem? (i := 1067) (by decide +kernel))), (List.mem_append_right _ (List.mem_of_getElem? (i := 1068) (by decide +kernel)))⟩
theorem mpJ5_248 : sOK RJ5 248 m_J6_getChars_ba4f3 := ⟨mo_J6_getChars_ba4f3, rfl, (List.mem_append_right _ (List.mem_of_getElem? (i := 1070) (by decide +kernel))), (List.mem_append_right _ (List.mem_of_getElem? (i := 1071) (by decide +kernel)))⟩
theorem mlpJ5 : ∀ q ∈ mlJ5, ((match q.2.1 with
    | 0 => vOK RJ5 q.1 q.2.2.1 q.2.2.2
    | 1 => sOK RJ5 q.1 q.2.2.1
    | 2 => iOK RJ5 q.1 q.2.2.1
    | 3 => snOK RJ5 q.1 q.2.2.1
    | 4 => inOK RJ5 q.1 q.2.2.1
    | 5 => oiOK RJ5 q.1
    | 6 => mmOK RJ5 q.1
    | 7 => mnOK RJ5 q.1
    | 8 => acOK RJ5 q.1
    | 9 => uOK RJ5 q.1 q.2.2.1
    | 10 => suOK RJ5 q.1 q.2.2.1
    | 11 => swOK RJ5 q.1 q.2.2.1
    | _ => False) : Prop) := (fa_cons mpJ5_3 (fa_cons mpJ5_83 (fa_cons mpJ5_100 (fa_cons mpJ5_104 (fa_cons mpJ5_108 (fa_cons mpJ5_114 (fa_cons mpJ5_138 (fa_cons mpJ5_144 (fa_cons mpJ5_191 (fa_cons mpJ5_245 (fa_cons mpJ5_248 fa_nil)))))))))))
def clPJ5 (q : Nat × (Nat ⊕ Nat)) : Prop := match q.2 with
  | .inl ci => (∀ n fs, newF ci = some (n, fs) → newOK RJ5 q.1 ci n fs) ∧ (ci = 4 → Jvm.Cond.classLink RJ5 q.1 RX0 ∈ lw_tbl)
  | .inr _ => True
theorem clpJ5 : ∀ q ∈ clJ5, clPJ5 q := fa_nil
theorem nlpJ5 : ∀ q ∈ nlJ5, Jvm.Cond.constant RJ5 q.1 q.2 ∈ lw_tbl := (fa_cons ((List.mem_append_right _ (List.mem_of_getElem? (i := 971) (by decide +kernel)))) fa_nil)
theorem cpokJ5 : cpOK RJ5 cpJ5 := by
  refine ⟨fun k ci j ty fin h => flpJ5 _ (lkp_mem h), fun k v h => slpJ5 _ (lkp_mem h), fun k t y ci h => ?_, fun k ci h => clpJ5 _ (lkp_mem h), fun k v h => nlpJ5 _ (lkp_mem h)⟩
  exact mlpJ5 _ (lkp_mem h)
def flJ6 : List (Nat × (Nat × Nat × FieldType × Bool)) := []
def slJ6 : List (Nat × Value) := [(83, .retAddr 1), (87, .retAddr 2)]
def mlJ6 : List (Nat × (Nat × m0T × Nat)) := []
def clJ6 : List (Nat × (Nat ⊕ Nat)) := []
def nlJ6 : List (Nat × Int32) := []
def cpJ6 : cpT := (lkp flJ6, lkp slJ6, lkp mlJ6, lkp clJ6, lkp nlJ6)
theorem flpJ6 : ∀ q ∈ flJ6, fldOK RJ6 q.1 q.2.1 q.2.2.1 q.2.2.2.1 q.2.2.2.2 := fa_nil
theorem slpJ6 : ∀ q ∈ slJ6, stcOK RJ6 q.1 q.2 := (fa_cons ⟨_, List.mem_of_getElem? (i := 1) rfl, rfl, Or.inl (List.mem_append_right _ (List.mem_of_getElem? (i := 1073) (by decide +kernel)))⟩ (fa_cons ⟨_, List.mem_of_getElem? (i := 2) rfl, rfl, Or.inl (List.mem_append_right _ (List.mem_of_getElem? (i := 1075) (by decide +kernel)))⟩ fa_nil))
theorem mlpJ6 : ∀ q ∈ mlJ6, ((match q.2.1 with
    | 0 => vOK RJ6 q.1 q.2.2.1 q.2.2.2
    | 1 => sOK RJ6 q.1 q.2.2.1
    | 2 => iOK RJ6 q.1 q.2.2.1
    | 3 => snOK RJ6 q.1 q.2.2.1
    | 4 => inOK RJ6 q.1 q.2.2.1
    | 5 => oiOK RJ6 q.1
    | 6 => mmOK RJ6 q.1
    | 7 => mnOK RJ6 q.1
    | 8 => acOK RJ6 q.1
    | 9 => uOK RJ6 q.1 q.2.2.1
    | 10 => suOK RJ6 q.1 q.2.2.1
    | 11 => swOK RJ6 q.1 q.2.2.1
    | _ => False) : Prop) := fa_nil
def clPJ6 (q : Nat × (Nat ⊕ Nat)) : Prop := match q.2 with
  | .inl ci => (∀ n fs, newF ci = some (n, fs) → newOK RJ6 q.1 ci n fs) ∧ (ci = 4 → Jvm.Cond.classLink RJ6 q.1 RX0 ∈ lw_tbl)
  | .inr _ => True
theorem clpJ6 : ∀ q ∈ clJ6, clPJ6 q := fa_nil
theorem nlpJ6 : ∀ q ∈ nlJ6, Jvm.Cond.constant RJ6 q.1 q.2 ∈ lw_tbl := fa_nil
theorem cpokJ6 : cpOK RJ6 cpJ6 := by
  refine ⟨fun k ci j ty fin h => flpJ6 _ (lkp_mem h), fun k v h => slpJ6 _ (lkp_mem h), fun k t y ci h => ?_, fun k ci h => clpJ6 _ (lkp_mem h), fun k v h => nlpJ6 _ (lkp_mem h)⟩
  exact mlpJ6 _ (lkp_mem h)
def flJ0 : List (Nat × (Nat × Nat × FieldType × Bool)) := []
def slJ0 : List (Nat × Value) := [(1053, .retAddr 7)]
def mlJ0 : List (Nat × (Nat × m0T × Nat)) := [(1059, (1, m_J3_checkIndex_8e157, 0))]
def clJ0 : List (Nat × (Nat ⊕ Nat)) := []
def nlJ0 : List (Nat × Int32) := []
def cpJ0 : cpT := (lkp flJ0, lkp slJ0, lkp mlJ0, lkp clJ0, lkp nlJ0)
theorem flpJ0 : ∀ q ∈ flJ0, fldOK RJ0 q.1 q.2.1 q.2.2.1 q.2.2.2.1 q.2.2.2.2 := fa_nil
theorem slpJ0 : ∀ q ∈ slJ0, stcOK RJ0 q.1 q.2 := (fa_cons ⟨_, List.mem_of_getElem? (i := 7) rfl, rfl, Or.inl (List.mem_append_right _ (List.mem_of_getElem? (i := 1003) (by decide +kernel)))⟩ fa_nil)
theorem mpJ0_1059 : sOK RJ0 1059 m_J3_checkIndex_8e157 := ⟨mo_J3_checkIndex_8e157, rfl, (List.mem_append_right _ (List.mem_of_getElem? (i := 1202) (by decide +kernel))), (List.mem_append_right _ (List.mem_of_getElem? (i := 1203) (by decide +kernel)))⟩
theorem mlpJ0 : ∀ q ∈ mlJ0, ((match q.2.1 with
    | 0 => vOK RJ0 q.1 q.2.2.1 q.2.2.2
    | 1 => sOK RJ0 q.1 q.2.2.1
    | 2 => iOK RJ0 q.1 q.2.2.1
    | 3 => snOK RJ0 q.1 q.2.2.1
    | 4 => inOK RJ0 q.1 q.2.2.1
    | 5 => oiOK RJ0 q.1
    | 6 => mmOK RJ0 q.1
    | 7 => mnOK RJ0 q.1
    | 8 => acOK RJ0 q.1
    | 9 => uOK RJ0 q.1 q.2.2.1
    | 10 => suOK RJ0 q.1 q.2.2.1
    | 11 => swOK RJ0 q.1 q.2.2.1
    | _ => False) : Prop) := (fa_cons mpJ0_1059 fa_nil)
def clPJ0 (q : Nat × (Nat ⊕ Nat)) : Prop := match q.2 with
  | .inl ci => (∀ n fs, newF ci = some (n, fs) → newOK RJ0 q.1 ci n fs) ∧ (ci = 4 → Jvm.Cond.classLink RJ0 q.1 RX0 ∈ lw_tbl)
  | .inr _ => True
theorem clpJ0 : ∀ q ∈ clJ0, clPJ0 q := fa_nil
theorem nlpJ0 : ∀ q ∈ nlJ0, Jvm.Cond.constant RJ0 q.1 q.2 ∈ lw_tbl := fa_nil
theorem cpokJ0 : cpOK RJ0 cpJ0 := by
  refine ⟨fun k ci j ty fin h => flpJ0 _ (lkp_mem h), fun k v h => slpJ0 _ (lkp_mem h), fun k t y ci h => ?_, fun k ci h => clpJ0 _ (lkp_mem h), fun k v h => nlpJ0 _ (lkp_mem h)⟩
  exact mlpJ0 _ (lkp_mem h)
def flJ4 : List (Nat × (Nat × Nat × FieldType × Bool)) := []
def slJ4 : List (Nat × Value) := []
def mlJ4 : List (Nat × (Nat × m0T × Nat)) := [(1, (2, m_J5_init_d00df, 0)), (50, (10, m_J5_append_3fe6f, 1)), (53, (10, m_J5_append_c97b9, 1)), (329, (10, m_J5_charAt_5068e, 1)), (333, (10, m_J5_setLength_d00df, 1)), (343, (10, m_J5_length_8abf5, 1))]
def clJ4 : List (Nat × (Nat ⊕ Nat)) := []
def nlJ4 : List (Nat × Int32) := []
def cpJ4 : cpT := (lkp flJ4, lkp slJ4, lkp mlJ4, lkp clJ4, lkp nlJ4)
theorem flpJ4 : ∀ q ∈ flJ4, fldOK RJ4 q.1 q.2.1 q.2.2.1 q.2.2.2.1 q.2.2.2.2 := fa_nil
theorem slpJ4 : ∀ q ∈ slJ4, stcOK RJ4 q.1 q.2 := fa_nil
theorem mpJ4_1 : iOK RJ4 1 m_J5_init_d00df := ⟨mo_J5_init_d00df, rfl, rfl, (List.mem_append_right _ (List.mem_of_getElem? (i := 212) (by decide +kernel))), rfl, (List.mem_append_right _ (List.mem_of_getElem? (i := 213) (by decide +kernel)))⟩
theorem mpJ4_50 : suOK RJ4 50 m_J5_append_3fe6f := ⟨mo_J5_append_3fe6f, rfl, (List.mem_append_right _ (List.mem_of_getElem? (i := 1187) (by decide +kernel))), (List.mem_append_right _ (List.mem_of_getElem? (i := 1188) (by decide +kernel))), (List.mem_append_right _ (List.mem_of_getElem? (i := 1833) (by decide +kernel))), (List.mem_append_right _ (List.mem_of_getElem? (i := 238) (by decide +kernel))), by decide +kernel⟩
theorem mpJ4_53 : suOK RJ4 53 m_J5_append_c97b9 := ⟨mo_J5_append_c97b9, rfl, (List.mem_append_right _ (List.mem_of_getElem? (i := 1064) (by decide +kernel))), (List.mem_append_right _ (List.mem_of_getElem? (i := 1065) (by decide +kernel))), (List.mem_append_right _ (List.mem_of_getElem? (i := 1832) (by decide +kernel))), (List.mem_append_right _ (List.mem_of_getElem? (i := 238) (by decide +kernel))), by decide +kernel⟩
theorem mpJ4_329 : suOK RJ4 329 m_J5_charAt_5068e := ⟨mo_J5_charAt_5068e, rfl, (List.mem_append_right _ (List.mem_of_getElem? (i := 1229) (by decide +kernel))), (List.mem_append_right _ (List.mem_of_getElem? (i := 1230) (by decide +kernel))), (List.mem_append_right _ (List.mem_of_getElem? (i := 1835) (by decide +kernel))), (List.mem_append_right _ (List.mem_of_getElem? (i := 238) (by decide +kernel))), by decide +kernel⟩
theorem mpJ4_333 : suOK RJ4 333 m_J5_setLength_d00df := ⟨mo_J5_setLength_d00df, rfl, (List.mem_append_right _ (List.mem_of_getElem? (i := 933) (by decide +kernel))), (List.mem_append_right _ (List.mem_of_getElem? (i := 934) (by decide +kernel))), (List.mem_append_right _ (List.mem_of_getElem? (i := 1824) (by decide +kernel))), (List.mem_append_right _ (List.mem_of_getElem? (i := 238) (by decide +kernel))), by decide +kernel⟩
theorem mpJ4_343 : suOK RJ4 343 m_J5_length_8abf5 := ⟨mo_J5_length_8abf5, rfl, (List.mem_append_right _ (List.mem_of_getElem? (i := 1108) (by decide +kernel))), (List.mem_append_right _ (List.mem_of_getElem? (i := 1103) (by decide +kernel))), (List.mem_append_right _ (List.mem_of_getElem? (i := 1104) (by decide +kernel))), (List.mem_append_right _ (List.mem_of_getElem? (i := 238) (by decide +kernel))), by decide +kernel⟩
theorem mlpJ4 : ∀ q ∈ mlJ4, ((match q.2.1 with
    | 0 => vOK RJ4 q.1 q.2.2.1 q.2.2.2
    | 1 => sOK RJ4 q.1 q.2.2.1
    | 2 => iOK RJ4 q.1 q.2.2.1
    | 3 => snOK RJ4 q.1 q.2.2.1
    | 4 => inOK RJ4 q.1 q.2.2.1
    | 5 => oiOK RJ4 q.1
    | 6 => mmOK RJ4 q.1
    | 7 => mnOK RJ4 q.1
    | 8 => acOK RJ4 q.1
    | 9 => uOK RJ4 q.1 q.2.2.1
    | 10 => suOK RJ4 q.1 q.2.2.1
    | 11 => swOK RJ4 q.1 q.2.2.1
    | _ => False) : Prop) := (fa_cons mpJ4_1 (fa_cons mpJ4_50 (fa_cons mpJ4_53 (fa_cons mpJ4_329 (fa_cons mpJ4_333 (fa_cons mpJ4_343 fa_nil))))))
def clPJ4 (q : Nat × (Nat ⊕ Nat)) : Prop := match q.2 with
  | .inl ci => (∀ n fs, newF ci = some (n, fs) → newOK RJ4 q.1 ci n fs) ∧ (ci = 4 → Jvm.Cond.classLink RJ4 q.1 RX0 ∈ lw_tbl)
  | .inr _ => True
theorem clpJ4 : ∀ q ∈ clJ4, clPJ4 q := fa_nil
theorem nlpJ4 : ∀ q ∈ nlJ4, Jvm.Cond.constant RJ4 q.1 q.2 ∈ lw_tbl := fa_nil
theorem cpokJ4 : cpOK RJ4 cpJ4 := by
  refine ⟨fun k ci j ty fin h => flpJ4 _ (lkp_mem h), fun k v h => slpJ4 _ (lkp_mem h), fun k t y ci h => ?_, fun k ci h => clpJ4 _ (lkp_mem h), fun k v h => nlpJ4 _ (lkp_mem h)⟩
  exact mlpJ4 _ (lkp_mem h)
def flJ1 : List (Nat × (Nat × Nat × FieldType × Bool)) := []
def slJ1 : List (Nat × Value) := []
def mlJ1 : List (Nat × (Nat × m0T × Nat)) := []
def clJ1 : List (Nat × (Nat ⊕ Nat)) := []
def nlJ1 : List (Nat × Int32) := []
def cpJ1 : cpT := (lkp flJ1, lkp slJ1, lkp mlJ1, lkp clJ1, lkp nlJ1)
theorem flpJ1 : ∀ q ∈ flJ1, fldOK RJ1 q.1 q.2.1 q.2.2.1 q.2.2.2.1 q.2.2.2.2 := fa_nil
theorem slpJ1 : ∀ q ∈ slJ1, stcOK RJ1 q.1 q.2 := fa_nil
theorem mlpJ1 : ∀ q ∈ mlJ1, ((match q.2.1 with
    | 0 => vOK RJ1 q.1 q.2.2.1 q.2.2.2
    | 1 => sOK RJ1 q.1 q.2.2.1
    | 2 => iOK RJ1 q.1 q.2.2.1
    | 3 => snOK RJ1 q.1 q.2.2.1
    | 4 => inOK RJ1 q.1 q.2.2.1
    | 5 => oiOK RJ1 q.1
    | 6 => mmOK RJ1 q.1
    | 7 => mnOK RJ1 q.1
    | 8 => acOK RJ1 q.1
    | 9 => uOK RJ1 q.1 q.2.2.1
    | 10 => suOK RJ1 q.1 q.2.2.1
    | 11 => swOK RJ1 q.1 q.2.2.1
    | _ => False) : Prop) := fa_nil
def clPJ1 (q : Nat × (Nat ⊕ Nat)) : Prop := match q.2 with
  | .inl ci => (∀ n fs, newF ci = some (n, fs) → newOK RJ1 q.1 ci n fs) ∧ (ci = 4 → Jvm.Cond.classLink RJ1 q.1 RX0 ∈ lw_tbl)
  | .inr _ => True
theorem clpJ1 : ∀ q ∈ clJ1, clPJ1 q := fa_nil
theorem nlpJ1 : ∀ q ∈ nlJ1, Jvm.Cond.constant RJ1 q.1 q.2 ∈ lw_tbl := fa_nil
theorem cpokJ1 : cpOK RJ1 cpJ1 := by
  refine ⟨fun k ci j ty fin h => flpJ1 _ (lkp_mem h), fun k v h => slpJ1 _ (lkp_mem h), fun k t y ci h => ?_, fun k ci h => clpJ1 _ (lkp_mem h), fun k v h => nlpJ1 _ (lkp_mem h)⟩
  exact mlpJ1 _ (lkp_mem h)
def flJ7 : List (Nat × (Nat × Nat × FieldType × Bool)) := []
def slJ7 : List (Nat × Value) := []
def mlJ7 : List (Nat × (Nat × m0T × Nat)) := [(150, (8, mNone, 0)), (304, (7, mNone, 0))]
def clJ7 : List (Nat × (Nat ⊕ Nat)) := []
def nlJ7 : List (Nat × Int32) := []
def cpJ7 : cpT := (lkp flJ7, lkp slJ7, lkp mlJ7, lkp clJ7, lkp nlJ7)
theorem flpJ7 : ∀ q ∈ flJ7, fldOK RJ7 q.1 q.2.1 q.2.2.1 q.2.2.2.1 q.2.2.2.2 := fa_nil
theorem slpJ7 : ∀ q ∈ slJ7, stcOK RJ7 q.1 q.2 := fa_nil
theorem mpJ7_150 : acOK RJ7 150 := ⟨(List.mem_append_right _ (List.mem_of_getElem? (i := 983) (by decide +kernel))), (List.mem_append_right _ (List.mem_of_getElem? (i := 985) (by decide +kernel))), (List.mem_append_right _ (List.mem_of_getElem? (i := 984) (by decide +kernel))), (List.mem_append_right _ (List.mem_of_getElem? (i := 26) (by decide +kernel)))⟩
theorem mpJ7_304 : mnOK RJ7 304 := ⟨(List.mem_append_right _ (List.mem_of_getElem? (i := 982) (by decide +kernel))), (List.mem_append_right _ (List.mem_of_getElem? (i := 284) (by decide +kernel))), (List.mem_append_right _ (List.mem_of_getElem? (i := 4) (by decide +kernel))), (List.mem_append_right _ (List.mem_of_getElem? (i := 285) (by decide +kernel)))⟩
theorem mlpJ7 : ∀ q ∈ mlJ7, ((match q.2.1 with
    | 0 => vOK RJ7 q.1 q.2.2.1 q.2.2.2
    | 1 => sOK RJ7 q.1 q.2.2.1
    | 2 => iOK RJ7 q.1 q.2.2.1
    | 3 => snOK RJ7 q.1 q.2.2.1
    | 4 => inOK RJ7 q.1 q.2.2.1
    | 5 => oiOK RJ7 q.1
    | 6 => mmOK RJ7 q.1
    | 7 => mnOK RJ7 q.1
    | 8 => acOK RJ7 q.1
    | 9 => uOK RJ7 q.1 q.2.2.1
    | 10 => suOK RJ7 q.1 q.2.2.1
    | 11 => swOK RJ7 q.1 q.2.2.1
    | _ => False) : Prop) := (fa_cons mpJ7_150 (fa_cons mpJ7_304 fa_nil))
def clPJ7 (q : Nat × (Nat ⊕ Nat)) : Prop := match q.2 with
  | .inl ci => (∀ n fs, newF ci = some (n, fs) → newOK RJ7 q.1 ci n fs) ∧ (ci = 4 → Jvm.Cond.classLink RJ7 q.1 RX0 ∈ lw_tbl)
  | .inr _ => True
theorem clpJ7 : ∀ q ∈ clJ7, clPJ7 q := fa_nil
theorem nlpJ7 : ∀ q ∈ nlJ7, Jvm.Cond.constant RJ7 q.1 q.2 ∈ lw_tbl := fa_nil
theorem cpokJ7 : cpOK RJ7 cpJ7 := by
  refine ⟨fun k ci j ty fin h => flpJ7 _ (lkp_mem h), fun k v h => slpJ7 _ (lkp_mem h), fun k t y ci h => ?_, fun k ci h => clpJ7 _ (lkp_mem h), fun k v h => nlpJ7 _ (lkp_mem h)⟩
  exact mlpJ7 _ (lkp_mem h)
def flJ8 : List (Nat × (Nat × Nat × FieldType × Bool)) := []
def slJ8 : List (Nat × Value) := []
def mlJ8 : List (Nat × (Nat × m0T × Nat)) := [(194, (6, mNone, 0))]
def clJ8 : List (Nat × (Nat ⊕ Nat)) := []
def nlJ8 : List (Nat × Int32) := [(200, 2147483639)]
def cpJ8 : cpT := (lkp flJ8, lkp slJ8, lkp mlJ8, lkp clJ8, lkp nlJ8)
theorem flpJ8 : ∀ q ∈ flJ8, fldOK RJ8 q.1 q.2.1 q.2.2.1 q.2.2.2.1 q.2.2.2.2 := fa_nil
theorem slpJ8 : ∀ q ∈ slJ8, stcOK RJ8 q.1 q.2 := fa_nil
theorem mpJ8_194 : mmOK RJ8 194 := ⟨(List.mem_append_right _ (List.mem_of_getElem? (i := 966) (by decide +kernel))), (List.mem_append_right _ (List.mem_of_getElem? (i := 56) (by decide +kernel))), (List.mem_append_right _ (List.mem_of_getElem? (i := 4) (by decide +kernel))), (List.mem_append_right _ (List.mem_of_getElem? (i := 57) (by decide +kernel)))⟩
theorem mlpJ8 : ∀ q ∈ mlJ8, ((match q.2.1 with
    | 0 => vOK RJ8 q.1 q.2.2.1 q.2.2.2
    | 1 => sOK RJ8 q.1 q.2.2.1
    | 2 => iOK RJ8 q.1 q.2.2.1
    | 3 => snOK RJ8 q.1 q.2.2.1
    | 4 => inOK RJ8 q.1 q.2.2.1
    | 5 => oiOK RJ8 q.1
    | 6 => mmOK RJ8 q.1
    | 7 => mnOK RJ8 q.1
    | 8 => acOK RJ8 q.1
    | 9 => uOK RJ8 q.1 q.2.2.1
    | 10 => suOK RJ8 q.1 q.2.2.1
    | 11 => swOK RJ8 q.1 q.2.2.1
    | _ => False) : Prop) := (fa_cons mpJ8_194 fa_nil)
def clPJ8 (q : Nat × (Nat ⊕ Nat)) : Prop := match q.2 with
  | .inl ci => (∀ n fs, newF ci = some (n, fs) → newOK RJ8 q.1 ci n fs) ∧ (ci = 4 → Jvm.Cond.classLink RJ8 q.1 RX0 ∈ lw_tbl)
  | .inr _ => True
theorem clpJ8 : ∀ q ∈ clJ8, clPJ8 q := fa_nil
theorem nlpJ8 : ∀ q ∈ nlJ8, Jvm.Cond.constant RJ8 q.1 q.2 ∈ lw_tbl := (fa_cons ((List.mem_append_right _ (List.mem_of_getElem? (i := 967) (by decide +kernel)))) fa_nil)
theorem cpokJ8 : cpOK RJ8 cpJ8 := by
  refine ⟨fun k ci j ty fin h => flpJ8 _ (lkp_mem h), fun k v h => slpJ8 _ (lkp_mem h), fun k t y ci h => ?_, fun k ci h => clpJ8 _ (lkp_mem h), fun k v h => nlpJ8 _ (lkp_mem h)⟩
  exact mlpJ8 _ (lkp_mem h)
def flJ3 : List (Nat × (Nat × Nat × FieldType × Bool)) := []
def slJ3 : List (Nat × Value) := []
def mlJ3 : List (Nat × (Nat × m0T × Nat)) := []
def clJ3 : List (Nat × (Nat ⊕ Nat)) := []
def nlJ3 : List (Nat × Int32) := []
def cpJ3 : cpT := (lkp flJ3, lkp slJ3, lkp mlJ3, lkp clJ3, lkp nlJ3)
theorem flpJ3 : ∀ q ∈ flJ3, fldOK RJ3 q.1 q.2.1 q.2.2.1 q.2.2.2.1 q.2.2.2.2 := fa_nil
theorem slpJ3 : ∀ q ∈ slJ3, stcOK RJ3 q.1 q.2 := fa_nil
theorem mlpJ3 : ∀ q ∈ mlJ3, ((match q.2.1 with
    | 0 => vOK RJ3 q.1 q.2.2.1 q.2.2.2
    | 1 => sOK RJ3 q.1 q.2.2.1
    | 2 => iOK RJ3 q.1 q.2.2.1
    | 3 => snOK RJ3 q.1 q.2.2.1
    | 4 => inOK RJ3 q.1 q.2.2.1
    | 5 => oiOK RJ3 q.1
    | 6 => mmOK RJ3 q.1
    | 7 => mnOK RJ3 q.1
    | 8 => acOK RJ3 q.1
    | 9 => uOK RJ3 q.1 q.2.2.1
    | 10 => suOK RJ3 q.1 q.2.2.1
    | 11 => swOK RJ3 q.1 q.2.2.1
    | _ => False) : Prop) := fa_nil
def clPJ3 (q : Nat × (Nat ⊕ Nat)) : Prop := match q.2 with
  | .inl ci => (∀ n fs, newF ci = some (n, fs) → newOK RJ3 q.1 ci n fs) ∧ (ci = 4 → Jvm.Cond.classLink RJ3 q.1 RX0 ∈ lw_tbl)
  | .inr _ => True
theorem clpJ3 : ∀ q ∈ clJ3, clPJ3 q := fa_nil
theorem nlpJ3 : ∀ q ∈ nlJ3, Jvm.Cond.constant RJ3 q.1 q.2 ∈ lw_tbl := fa_nil
theorem cpokJ3 : cpOK RJ3 cpJ3 := by
  refine ⟨fun k ci j ty fin h => flpJ3 _ (lkp_mem h), fun k v h => slpJ3 _ (lkp_mem h), fun k t y ci h => ?_, fun k ci h => clpJ3 _ (lkp_mem h), fun k v h => nlpJ3 _ (lkp_mem h)⟩
  exact mlpJ3 _ (lkp_mem h)
end
