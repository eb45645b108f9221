section
-- ===== PART A: goes FIRST, ahead of the names: the tables' words, and 'selects' of the private methods out of them =====
/-- a private method of a class that the tables say can be made, by its rows of tables_1 -/
def lw_okq (q : MethodName × Nat) : Prop := (q.1.cls ≠ "java/lang/invoke/MethodHandle" ∧ q.1.cls ≠ "java/lang/invoke/VarHandle") ∧ Cond.instantiable q.1.cls q.2 ∈ tables_1 ∧ Cond.privateMethod q.1 ∈ tables_1 ∧ Cond.instanceMethod q.1 ∈ tables_1
theorem lw_p0 : lw_okq (⟨"BenchTimes", "finding", "(I)I"⟩, 14) := ⟨⟨by decide +kernel, by decide +kernel⟩, List.mem_of_getElem? (i := 20) (by decide +kernel), List.mem_of_getElem? (i := 357) (by decide +kernel), List.mem_of_getElem? (i := 358) (by decide +kernel)⟩
theorem lw_p1 : lw_okq (⟨"BenchTimes$Watch", "gatherNormals", "(I)V"⟩, 16) := ⟨⟨by decide +kernel, by decide +kernel⟩, List.mem_of_getElem? (i := 48) (by decide +kernel), List.mem_of_getElem? (i := 463) (by decide +kernel), List.mem_of_getElem? (i := 464) (by decide +kernel)⟩
theorem lw_p2 : lw_okq (⟨"BenchTimes$Watch", "putInOrder", "(I)V"⟩, 16) := ⟨⟨by decide +kernel, by decide +kernel⟩, List.mem_of_getElem? (i := 48) (by decide +kernel), List.mem_of_getElem? (i := 468) (by decide +kernel), List.mem_of_getElem? (i := 469) (by decide +kernel)⟩
theorem lw_p3 : lw_okq (⟨"BenchTimes$Watch", "keepNormals", "()V"⟩, 16) := ⟨⟨by decide +kernel, by decide +kernel⟩, List.mem_of_getElem? (i := 48) (by decide +kernel), List.mem_of_getElem? (i := 472) (by decide +kernel), List.mem_of_getElem? (i := 473) (by decide +kernel)⟩
theorem lw_p4 : lw_okq (⟨"BenchTimes", "newRate", "(II)I"⟩, 14) := ⟨⟨by decide +kernel, by decide +kernel⟩, List.mem_of_getElem? (i := 20) (by decide +kernel), List.mem_of_getElem? (i := 529) (by decide +kernel), List.mem_of_getElem? (i := 530) (by decide +kernel)⟩
theorem lw_p5 : lw_okq (⟨"BenchTimes$Rules", "readClauses", "()Z"⟩, 5) := ⟨⟨by decide +kernel, by decide +kernel⟩, List.mem_of_getElem? (i := 154) (by decide +kernel), List.mem_of_getElem? (i := 646) (by decide +kernel), List.mem_of_getElem? (i := 647) (by decide +kernel)⟩
theorem lw_p6 : lw_okq (⟨"BenchTimes$Rules", "readClause", "()Z"⟩, 5) := ⟨⟨by decide +kernel, by decide +kernel⟩, List.mem_of_getElem? (i := 154) (by decide +kernel), List.mem_of_getElem? (i := 651) (by decide +kernel), List.mem_of_getElem? (i := 652) (by decide +kernel)⟩
theorem lw_p7 : lw_okq (⟨"BenchTimes$Rules", "readWord", "()I"⟩, 5) := ⟨⟨by decide +kernel, by decide +kernel⟩, List.mem_of_getElem? (i := 154) (by decide +kernel), List.mem_of_getElem? (i := 655) (by decide +kernel), List.mem_of_getElem? (i := 656) (by decide +kernel)⟩
theorem lw_p8 : lw_okq (⟨"BenchTimes$Rules", "alikeWith", "(Ljava/lang/String;)I"⟩, 5) := ⟨⟨by decide +kernel, by decide +kernel⟩, List.mem_of_getElem? (i := 154) (by decide +kernel), List.mem_of_getElem? (i := 667) (by decide +kernel), List.mem_of_getElem? (i := 668) (by decide +kernel)⟩
theorem lw_p9 : lw_okq (⟨"BenchTimes$Rules", "readSign", "(C)Z"⟩, 5) := ⟨⟨by decide +kernel, by decide +kernel⟩, List.mem_of_getElem? (i := 154) (by decide +kernel), List.mem_of_getElem? (i := 720) (by decide +kernel), List.mem_of_getElem? (i := 721) (by decide +kernel)⟩
theorem lw_p10 : lw_okq (⟨"BenchTimes$Rules", "readNumber", "()I"⟩, 5) := ⟨⟨by decide +kernel, by decide +kernel⟩, List.mem_of_getElem? (i := 154) (by decide +kernel), List.mem_of_getElem? (i := 724) (by decide +kernel), List.mem_of_getElem? (i := 725) (by decide +kernel)⟩
theorem lw_p11 : lw_okq (⟨"BenchTimes$Rules", "takeNewValues", "()I"⟩, 5) := ⟨⟨by decide +kernel, by decide +kernel⟩, List.mem_of_getElem? (i := 154) (by decide +kernel), List.mem_of_getElem? (i := 731) (by decide +kernel), List.mem_of_getElem? (i := 732) (by decide +kernel)⟩
theorem lw_p12 : lw_okq (⟨"BenchTimes", "isOn", "(I)Z"⟩, 14) := ⟨⟨by decide +kernel, by decide +kernel⟩, List.mem_of_getElem? (i := 20) (by decide +kernel), List.mem_of_getElem? (i := 744) (by decide +kernel), List.mem_of_getElem? (i := 745) (by decide +kernel)⟩
theorem lw_p13 : lw_okq (⟨"BenchTimes$WorkRows", "learnersMore", "(II)I"⟩, 11) := ⟨⟨by decide +kernel, by decide +kernel⟩, List.mem_of_getElem? (i := 176) (by decide +kernel), List.mem_of_getElem? (i := 802) (by decide +kernel), List.mem_of_getElem? (i := 803) (by decide +kernel)⟩
theorem lw_p14 : lw_okq (⟨"BenchTimes$Pays", "forWaiting", "(II)I"⟩, 3) := ⟨⟨by decide +kernel, by decide +kernel⟩, List.mem_of_getElem? (i := 241) (by decide +kernel), List.mem_of_getElem? (i := 820) (by decide +kernel), List.mem_of_getElem? (i := 821) (by decide +kernel)⟩
theorem lw_p15 : lw_okq (⟨"BenchTimes", "orNone", "(I)I"⟩, 14) := ⟨⟨by decide +kernel, by decide +kernel⟩, List.mem_of_getElem? (i := 20) (by decide +kernel), List.mem_of_getElem? (i := 858) (by decide +kernel), List.mem_of_getElem? (i := 859) (by decide +kernel)⟩
def lw_privs_1 : List (MethodName × Nat) := [(⟨"BenchTimes", "finding", "(I)I"⟩, 14), (⟨"BenchTimes$Watch", "gatherNormals", "(I)V"⟩, 16), (⟨"BenchTimes$Watch", "putInOrder", "(I)V"⟩, 16), (⟨"BenchTimes$Watch", "keepNormals", "()V"⟩, 16), (⟨"BenchTimes", "newRate", "(II)I"⟩, 14), (⟨"BenchTimes$Rules", "readClauses", "()Z"⟩, 5), (⟨"BenchTimes$Rules", "readClause", "()Z"⟩, 5), (⟨"BenchTimes$Rules", "readWord", "()I"⟩, 5), (⟨"BenchTimes$Rules", "alikeWith", "(Ljava/lang/String;)I"⟩, 5), (⟨"BenchTimes$Rules", "readSign", "(C)Z"⟩, 5), (⟨"BenchTimes$Rules", "readNumber", "()I"⟩, 5), (⟨"BenchTimes$Rules", "takeNewValues", "()I"⟩, 5), (⟨"BenchTimes", "isOn", "(I)Z"⟩, 14), (⟨"BenchTimes$WorkRows", "learnersMore", "(II)I"⟩, 11), (⟨"BenchTimes$Pays", "forWaiting", "(II)I"⟩, 3), (⟨"BenchTimes", "orNone", "(I)I"⟩, 14)]
theorem lw_r1 : ∀ q ∈ lw_privs_1, lw_okq q := List.forall_mem_cons.mpr ⟨lw_p0, List.forall_mem_cons.mpr ⟨lw_p1, List.forall_mem_cons.mpr ⟨lw_p2, List.forall_mem_cons.mpr ⟨lw_p3, List.forall_mem_cons.mpr ⟨lw_p4, List.forall_mem_cons.mpr ⟨lw_p5, List.forall_mem_cons.mpr ⟨lw_p6, List.forall_mem_cons.mpr ⟨lw_p7, List.forall_mem_cons.mpr ⟨lw_p8, List.forall_mem_cons.mpr ⟨lw_p9, List.forall_mem_cons.mpr ⟨lw_p10, List.forall_mem_cons.mpr ⟨lw_p11, List.forall_mem_cons.mpr ⟨lw_p12, List.forall_mem_cons.mpr ⟨lw_p13, List.forall_mem_cons.mpr ⟨lw_p14, List.forall_mem_cons.mpr ⟨lw_p15, fun _ h => absurd h List.not_mem_nil⟩⟩⟩⟩⟩⟩⟩⟩⟩⟩⟩⟩⟩⟩⟩⟩
theorem lw_p16 : lw_okq (⟨"BenchTimes$Doubt", "reckonScores", "()V"⟩, 4) := ⟨⟨by decide +kernel, by decide +kernel⟩, List.mem_of_getElem? (i := 257) (by decide +kernel), List.mem_of_getElem? (i := 913) (by decide +kernel), List.mem_of_getElem? (i := 914) (by decide +kernel)⟩
theorem lw_p17 : lw_okq (⟨"BenchTimes$Doubt", "hasRows", "(I)Z"⟩, 4) := ⟨⟨by decide +kernel, by decide +kernel⟩, List.mem_of_getElem? (i := 257) (by decide +kernel), List.mem_of_getElem? (i := 918) (by decide +kernel), List.mem_of_getElem? (i := 919) (by decide +kernel)⟩
theorem lw_p18 : lw_okq (⟨"BenchTimes$Doubt", "manyAhead", "(I)I"⟩, 4) := ⟨⟨by decide +kernel, by decide +kernel⟩, List.mem_of_getElem? (i := 257) (by decide +kernel), List.mem_of_getElem? (i := 922) (by decide +kernel), List.mem_of_getElem? (i := 923) (by decide +kernel)⟩
theorem lw_p19 : lw_okq (⟨"BenchTimes$Slowness", "countWays", "()V"⟩, 6) := ⟨⟨by decide +kernel, by decide +kernel⟩, List.mem_of_getElem? (i := 277) (by decide +kernel), List.mem_of_getElem? (i := 954) (by decide +kernel), List.mem_of_getElem? (i := 955) (by decide +kernel)⟩
theorem lw_p20 : lw_okq (⟨"BenchTimes$Slowness", "rankOf", "(I)I"⟩, 6) := ⟨⟨by decide +kernel, by decide +kernel⟩, List.mem_of_getElem? (i := 277) (by decide +kernel), List.mem_of_getElem? (i := 959) (by decide +kernel), List.mem_of_getElem? (i := 960) (by decide +kernel)⟩
theorem lw_p21 : lw_okq (⟨"BenchTimes$Slowness", "addRow", "(III)V"⟩, 6) := ⟨⟨by decide +kernel, by decide +kernel⟩, List.mem_of_getElem? (i := 277) (by decide +kernel), List.mem_of_getElem? (i := 964) (by decide +kernel), List.mem_of_getElem? (i := 965) (by decide +kernel)⟩
theorem lw_p22 : lw_okq (⟨"BenchTimes$Slowness", "watchedRanks", "()I"⟩, 6) := ⟨⟨by decide +kernel, by decide +kernel⟩, List.mem_of_getElem? (i := 277) (by decide +kernel), List.mem_of_getElem? (i := 968) (by decide +kernel), List.mem_of_getElem? (i := 969) (by decide +kernel)⟩
theorem lw_p23 : lw_okq (⟨"BenchTimesModel", "finding", "(I)I"⟩, 49) := ⟨⟨by decide +kernel, by decide +kernel⟩, List.mem_of_getElem? (i := 1009) (by decide +kernel), List.mem_of_getElem? (i := 1170) (by decide +kernel), List.mem_of_getElem? (i := 1171) (by decide +kernel)⟩
theorem lw_p24 : lw_okq (⟨"BenchTimesModel", "isElement", "(I)Z"⟩, 49) := ⟨⟨by decide +kernel, by decide +kernel⟩, List.mem_of_getElem? (i := 1009) (by decide +kernel), List.mem_of_getElem? (i := 1179) (by decide +kernel), List.mem_of_getElem? (i := 1180) (by decide +kernel)⟩
theorem lw_p25 : lw_okq (⟨"BenchTimesModel", "allowanceOf", "(I)I"⟩, 49) := ⟨⟨by decide +kernel, by decide +kernel⟩, List.mem_of_getElem? (i := 1009) (by decide +kernel), List.mem_of_getElem? (i := 1183) (by decide +kernel), List.mem_of_getElem? (i := 1184) (by decide +kernel)⟩
theorem lw_p26 : lw_okq (⟨"BenchTimesModel", "habitOf", "(I)I"⟩, 49) := ⟨⟨by decide +kernel, by decide +kernel⟩, List.mem_of_getElem? (i := 1009) (by decide +kernel), List.mem_of_getElem? (i := 1202) (by decide +kernel), List.mem_of_getElem? (i := 1203) (by decide +kernel)⟩
theorem lw_p27 : lw_okq (⟨"BenchTimesModel", "normalOf", "(I)I"⟩, 49) := ⟨⟨by decide +kernel, by decide +kernel⟩, List.mem_of_getElem? (i := 1009) (by decide +kernel), List.mem_of_getElem? (i := 1214) (by decide +kernel), List.mem_of_getElem? (i := 1215) (by decide +kernel)⟩
theorem lw_p28 : lw_okq (⟨"BenchTimesModel", "cyclesOf", "(I)I"⟩, 49) := ⟨⟨by decide +kernel, by decide +kernel⟩, List.mem_of_getElem? (i := 1009) (by decide +kernel), List.mem_of_getElem? (i := 1222) (by decide +kernel), List.mem_of_getElem? (i := 1223) (by decide +kernel)⟩
theorem lw_p29 : lw_okq (⟨"BenchTimesModel", "standardOf", "(I)I"⟩, 49) := ⟨⟨by decide +kernel, by decide +kernel⟩, List.mem_of_getElem? (i := 1009) (by decide +kernel), List.mem_of_getElem? (i := 1226) (by decide +kernel), List.mem_of_getElem? (i := 1227) (by decide +kernel)⟩
theorem lw_p30 : lw_okq (⟨"BenchTimesModel", "keptOf", "(II)I"⟩, 49) := ⟨⟨by decide +kernel, by decide +kernel⟩, List.mem_of_getElem? (i := 1009) (by decide +kernel), List.mem_of_getElem? (i := 1230) (by decide +kernel), List.mem_of_getElem? (i := 1231) (by decide +kernel)⟩
theorem lw_p31 : lw_okq (⟨"BenchTimesModel", "isJob", "(I)Z"⟩, 49) := ⟨⟨by decide +kernel, by decide +kernel⟩, List.mem_of_getElem? (i := 1009) (by decide +kernel), List.mem_of_getElem? (i := 1242) (by decide +kernel), List.mem_of_getElem? (i := 1243) (by decide +kernel)⟩
def lw_privs_2 : List (MethodName × Nat) := [(⟨"BenchTimes$Doubt", "reckonScores", "()V"⟩, 4), (⟨"BenchTimes$Doubt", "hasRows", "(I)Z"⟩, 4), (⟨"BenchTimes$Doubt", "manyAhead", "(I)I"⟩, 4), (⟨"BenchTimes$Slowness", "countWays", "()V"⟩, 6), (⟨"BenchTimes$Slowness", "rankOf", "(I)I"⟩, 6), (⟨"BenchTimes$Slowness", "addRow", "(III)V"⟩, 6), (⟨"BenchTimes$Slowness", "watchedRanks", "()I"⟩, 6), (⟨"BenchTimesModel", "finding", "(I)I"⟩, 49), (⟨"BenchTimesModel", "isElement", "(I)Z"⟩, 49), (⟨"BenchTimesModel", "allowanceOf", "(I)I"⟩, 49), (⟨"BenchTimesModel", "habitOf", "(I)I"⟩, 49), (⟨"BenchTimesModel", "normalOf", "(I)I"⟩, 49), (⟨"BenchTimesModel", "cyclesOf", "(I)I"⟩, 49), (⟨"BenchTimesModel", "standardOf", "(I)I"⟩, 49), (⟨"BenchTimesModel", "keptOf", "(II)I"⟩, 49), (⟨"BenchTimesModel", "isJob", "(I)Z"⟩, 49)]
theorem lw_r2 : ∀ q ∈ lw_privs_2, lw_okq q := List.forall_mem_cons.mpr ⟨lw_p16, List.forall_mem_cons.mpr ⟨lw_p17, List.forall_mem_cons.mpr ⟨lw_p18, List.forall_mem_cons.mpr ⟨lw_p19, List.forall_mem_cons.mpr ⟨lw_p20, List.forall_mem_cons.mpr ⟨lw_p21, List.forall_mem_cons.mpr ⟨lw_p22, List.forall_mem_cons.mpr ⟨lw_p23, List.forall_mem_cons.mpr ⟨lw_p24, List.forall_mem_cons.mpr ⟨lw_p25, List.forall_mem_cons.mpr ⟨lw_p26, List.forall_mem_cons.mpr ⟨lw_p27, List.forall_mem_cons.mpr ⟨lw_p28, List.forall_mem_cons.mpr ⟨lw_p29, List.forall_mem_cons.mpr ⟨lw_p30, List.forall_mem_cons.mpr ⟨lw_p31, fun _ h => absurd h List.not_mem_nil⟩⟩⟩⟩⟩⟩⟩⟩⟩⟩⟩⟩⟩⟩⟩⟩
theorem lw_p32 : lw_okq (⟨"BenchTimesModel", "latestOf", "(I)I"⟩, 49) := ⟨⟨by decide +kernel, by decide +kernel⟩, List.mem_of_getElem? (i := 1009) (by decide +kernel), List.mem_of_getElem? (i := 1246) (by decide +kernel), List.mem_of_getElem? (i := 1247) (by decide +kernel)⟩
theorem lw_p33 : lw_okq (⟨"BenchTimesModel", "make", "(III)I"⟩, 49) := ⟨⟨by decide +kernel, by decide +kernel⟩, List.mem_of_getElem? (i := 1009) (by decide +kernel), List.mem_of_getElem? (i := 1254) (by decide +kernel), List.mem_of_getElem? (i := 1255) (by decide +kernel)⟩
theorem lw_p34 : lw_okq (⟨"BenchTimesModel", "sumOf", "(I)I"⟩, 49) := ⟨⟨by decide +kernel, by decide +kernel⟩, List.mem_of_getElem? (i := 1009) (by decide +kernel), List.mem_of_getElem? (i := 1258) (by decide +kernel), List.mem_of_getElem? (i := 1259) (by decide +kernel)⟩
theorem lw_p35 : lw_okq (⟨"BenchTimesModel", "forceOf", "(II)I"⟩, 49) := ⟨⟨by decide +kernel, by decide +kernel⟩, List.mem_of_getElem? (i := 1009) (by decide +kernel), List.mem_of_getElem? (i := 1277) (by decide +kernel), List.mem_of_getElem? (i := 1278) (by decide +kernel)⟩
theorem lw_p36 : lw_okq (⟨"BenchTimesModel", "readAll", "()I"⟩, 49) := ⟨⟨by decide +kernel, by decide +kernel⟩, List.mem_of_getElem? (i := 1009) (by decide +kernel), List.mem_of_getElem? (i := 1297) (by decide +kernel), List.mem_of_getElem? (i := 1298) (by decide +kernel)⟩
theorem lw_p37 : lw_okq (⟨"BenchTimesModel", "wordHere", "()I"⟩, 49) := ⟨⟨by decide +kernel, by decide +kernel⟩, List.mem_of_getElem? (i := 1009) (by decide +kernel), List.mem_of_getElem? (i := 1301) (by decide +kernel), List.mem_of_getElem? (i := 1302) (by decide +kernel)⟩
theorem lw_p38 : lw_okq (⟨"BenchTimesModel", "here", "()I"⟩, 49) := ⟨⟨by decide +kernel, by decide +kernel⟩, List.mem_of_getElem? (i := 1009) (by decide +kernel), List.mem_of_getElem? (i := 1307) (by decide +kernel), List.mem_of_getElem? (i := 1308) (by decide +kernel)⟩
theorem lw_p39 : lw_okq (⟨"BenchTimesModel", "earnedBy", "(I)I"⟩, 49) := ⟨⟨by decide +kernel, by decide +kernel⟩, List.mem_of_getElem? (i := 1009) (by decide +kernel), List.mem_of_getElem? (i := 1335) (by decide +kernel), List.mem_of_getElem? (i := 1336) (by decide +kernel)⟩
theorem lw_p40 : lw_okq (⟨"BenchTimesModel", "payOf", "(III)I"⟩, 49) := ⟨⟨by decide +kernel, by decide +kernel⟩, List.mem_of_getElem? (i := 1009) (by decide +kernel), List.mem_of_getElem? (i := 1343) (by decide +kernel), List.mem_of_getElem? (i := 1344) (by decide +kernel)⟩
theorem lw_p41 : lw_okq (⟨"BenchTimesModel", "efficiencyOf", "(II)I"⟩, 49) := ⟨⟨by decide +kernel, by decide +kernel⟩, List.mem_of_getElem? (i := 1009) (by decide +kernel), List.mem_of_getElem? (i := 1359) (by decide +kernel), List.mem_of_getElem? (i := 1360) (by decide +kernel)⟩
theorem lw_p42 : lw_okq (⟨"BenchTimesModel", "isLooser", "(II)Z"⟩, 49) := ⟨⟨by decide +kernel, by decide +kernel⟩, List.mem_of_getElem? (i := 1009) (by decide +kernel), List.mem_of_getElem? (i := 1368) (by decide +kernel), List.mem_of_getElem? (i := 1369) (by decide +kernel)⟩
def lw_privs_3 : List (MethodName × Nat) := [(⟨"BenchTimesModel", "latestOf", "(I)I"⟩, 49), (⟨"BenchTimesModel", "make", "(III)I"⟩, 49), (⟨"BenchTimesModel", "sumOf", "(I)I"⟩, 49), (⟨"BenchTimesModel", "forceOf", "(II)I"⟩, 49), (⟨"BenchTimesModel", "readAll", "()I"⟩, 49), (⟨"BenchTimesModel", "wordHere", "()I"⟩, 49), (⟨"BenchTimesModel", "here", "()I"⟩, 49), (⟨"BenchTimesModel", "earnedBy", "(I)I"⟩, 49), (⟨"BenchTimesModel", "payOf", "(III)I"⟩, 49), (⟨"BenchTimesModel", "efficiencyOf", "(II)I"⟩, 49), (⟨"BenchTimesModel", "isLooser", "(II)Z"⟩, 49)]
theorem lw_r3 : ∀ q ∈ lw_privs_3, lw_okq q := List.forall_mem_cons.mpr ⟨lw_p32, List.forall_mem_cons.mpr ⟨lw_p33, List.forall_mem_cons.mpr ⟨lw_p34, List.forall_mem_cons.mpr ⟨lw_p35, List.forall_mem_cons.mpr ⟨lw_p36, List.forall_mem_cons.mpr ⟨lw_p37, List.forall_mem_cons.mpr ⟨lw_p38, List.forall_mem_cons.mpr ⟨lw_p39, List.forall_mem_cons.mpr ⟨lw_p40, List.forall_mem_cons.mpr ⟨lw_p41, List.forall_mem_cons.mpr ⟨lw_p42, fun _ h => absurd h List.not_mem_nil⟩⟩⟩⟩⟩⟩⟩⟩⟩⟩⟩
def lw_privs : List (MethodName × Nat) := lw_privs_1 ++ (lw_privs_2 ++ (lw_privs_3))
def lw_tbl : List Cond := k2_sels lw_privs ++ tables_1
theorem lw_privs_ok : ∀ q ∈ lw_privs, lw_okq q := by
  show ∀ q ∈ lw_privs_1 ++ (lw_privs_2 ++ (lw_privs_3)), lw_okq q
  exact List.forall_mem_append.mpr ⟨lw_r1, List.forall_mem_append.mpr ⟨lw_r2, lw_r3⟩⟩
-- ===== names of the classes and methods =====
def RX0 : String := "BenchTimes$Doubt"
def TX0 : u_T := fun k => match k with
  | 0 => ("BenchTimes$Doubt", "rows", "LBenchTimes$WorkRows;", true)
  | 1 => ("BenchTimes$Doubt", "earned", "[J", true)
  | 2 => ("BenchTimes$Doubt", "minutes", "[I", true)
  | _ => ("BenchTimes$Doubt", "scores", "[I", true)
def tyX0 : Nat → FieldType := fun k => match k with
  | 0 => .object "BenchTimes$WorkRows"
  | 1 => .array .long
  | 2 => .array .int
  | _ => .array .int
abbrev wsX00 : List Cond := u_ws RX0 TX0 4
theorem nmX0 : ∀ a, a < 4 → ∀ b, b < 4 → a ≠ b → (TX0 a).2.1 ≠ (TX0 b).2.1 := by decide +kernel
theorem tyX0_ok : ∀ k, k < 4 → parseFieldDescriptor (TX0 k).2.2.1 = some (tyX0 k) := by decide +kernel
abbrev cX0_init : ByteArray := prog_2_method_1_code
def yX0_init : MethodName := ⟨RX0, "<init>", "(LBenchTimes$WorkRows;)V"⟩
abbrev cX0_survey : ByteArray := prog_2_method_2_code
def yX0_survey : MethodName := ⟨RX0, "survey", "()V"⟩
abbrev cX0_efficiencyOf : ByteArray := prog_2_method_3_code
def yX0_efficiencyOf : MethodName := ⟨RX0, "efficiencyOf", "(II)I"⟩
abbrev cX0_isLooser : ByteArray := prog_2_method_4_code
def yX0_isLooser : MethodName := ⟨RX0, "isLooser", "(II)Z"⟩
abbrev cX0_jobAt : ByteArray := prog_2_method_5_code
def yX0_jobAt : MethodName := ⟨RX0, "jobAt", "(I)I"⟩
abbrev cX0_hasRows : ByteArray := prog_2_method_6_code
def yX0_hasRows : MethodName := ⟨RX0, "hasRows", "(I)Z"⟩
abbrev cX0_reckonScores : ByteArray := prog_2_method_7_code
def yX0_reckonScores : MethodName := ⟨RX0, "reckonScores", "()V"⟩
abbrev cX0_manyAhead : ByteArray := prog_2_method_8_code
def yX0_manyAhead : MethodName := ⟨RX0, "manyAhead", "(I)I"⟩
abbrev cX0_waysToChoose : ByteArray := prog_2_method_9_code
def yX0_waysToChoose : MethodName := ⟨RX0, "waysToChoose", "(II)I"⟩
def RX1 : String := "BenchTimes$Elements"
def TX1 : u_T := fun k => match k with
  | 0 => ("BenchTimes$Elements", "kinds", "[I", true)
  | 1 => ("BenchTimes$Elements", "many", "I", false)
  | 2 => ("BenchTimes$Elements", "base", "I", false)
  | _ => ("BenchTimes$Elements", "more", "I", false)
def tyX1 : Nat → FieldType := fun k => match k with
  | 0 => .array .int
  | 1 => .int
  | 2 => .int
  | _ => .int
abbrev wsX10 : List Cond := u_ws RX1 TX1 4
theorem nmX1 : ∀ a, a < 4 → ∀ b, b < 4 → a ≠ b → (TX1 a).2.1 ≠ (TX1 b).2.1 := by decide +kernel
theorem tyX1_ok : ∀ k, k < 4 → parseFieldDescriptor (TX1 k).2.2.1 = some (tyX1 k) := by decide +kernel
abbrev cX1_init : ByteArray := prog_3_method_1_code
def yX1_init : MethodName := ⟨RX1, "<init>", "()V"⟩
abbrev cX1_isKind : ByteArray := prog_3_method_2_code
def yX1_isKind : MethodName := ⟨RX1, "isKind", "(I)Z"⟩
abbrev cX1_many : ByteArray := prog_3_method_3_code
def yX1_many : MethodName := ⟨RX1, "many", "()I"⟩
abbrev cX1_has : ByteArray := prog_3_method_4_code
def yX1_has : MethodName := ⟨RX1, "has", "(I)Z"⟩
abbrev cX1_isFull : ByteArray := prog_3_method_5_code
def yX1_isFull : MethodName := ⟨RX1, "isFull", "()Z"⟩
abbrev cX1_add : ByteArray := prog_3_method_6_code
def yX1_add : MethodName := ⟨RX1, "add", "(I)I"⟩
abbrev cX1_kindOf : ByteArray := prog_3_method_7_code
def yX1_kindOf : MethodName := ⟨RX1, "kindOf", "(I)I"⟩
abbrev cX1_isUnder : ByteArray := prog_3_method_8_code
def yX1_isUnder : MethodName := ⟨RX1, "isUnder", "(II)Z"⟩
abbrev cX1_setAllowances : ByteArray := prog_3_method_9_code
def yX1_setAllowances : MethodName := ⟨RX1, "setAllowances", "(II)V"⟩
abbrev cX1_allowanceOf : ByteArray := prog_3_method_10_code
def yX1_allowanceOf : MethodName := ⟨RX1, "allowanceOf", "(I)I"⟩
def RX2 : String := "BenchTimes$Jobs"
def TX2 : u_T := fun k => match k with
  | 0 => ("BenchTimes$Jobs", "partsOf", "[I", true)
  | 1 => ("BenchTimes$Jobs", "elementOf", "[I", true)
  | 2 => ("BenchTimes$Jobs", "oftenOf", "[I", true)
  | 3 => ("BenchTimes$Jobs", "marked", "[Z", true)
  | _ => ("BenchTimes$Jobs", "many", "I", false)
def tyX2 : Nat → FieldType := fun k => match k with
  | 0 => .array .int
  | 1 => .array .int
  | 2 => .array .int
  | 3 => .array .boolean
  | _ => .int
abbrev wsX20 : List Cond := u_ws RX2 TX2 5
theorem nmX2 : ∀ a, a < 5 → ∀ b, b < 5 → a ≠ b → (TX2 a).2.1 ≠ (TX2 b).2.1 := by decide +kernel
theorem tyX2_ok : ∀ k, k < 5 → parseFieldDescriptor (TX2 k).2.2.1 = some (tyX2 k) := by decide +kernel
abbrev cX2_init : ByteArray := prog_4_method_1_code
def yX2_init : MethodName := ⟨RX2, "<init>", "()V"⟩
abbrev cX2_many : ByteArray := prog_4_method_2_code
def yX2_many : MethodName := ⟨RX2, "many", "()I"⟩
abbrev cX2_has : ByteArray := prog_4_method_3_code
def yX2_has : MethodName := ⟨RX2, "has", "(I)Z"⟩
abbrev cX2_isFull : ByteArray := prog_4_method_4_code
def yX2_isFull : MethodName := ⟨RX2, "isFull", "()Z"⟩
abbrev cX2_add : ByteArray := prog_4_method_5_code
def yX2_add : MethodName := ⟨RX2, "add", "()I"⟩
abbrev cX2_partMany : ByteArray := prog_4_method_6_code
def yX2_partMany : MethodName := ⟨RX2, "partMany", "(I)I"⟩
abbrev cX2_isFullOfParts : ByteArray := prog_4_method_7_code
def yX2_isFullOfParts : MethodName := ⟨RX2, "isFullOfParts", "(I)Z"⟩
abbrev cX2_addPart : ByteArray := prog_4_method_8_code
def yX2_addPart : MethodName := ⟨RX2, "addPart", "(III)I"⟩
abbrev cX2_placeOf : ByteArray := prog_4_method_9_code
def yX2_placeOf : MethodName := ⟨RX2, "placeOf", "(II)I"⟩
abbrev cX2_elementAt : ByteArray := prog_4_method_10_code
def yX2_elementAt : MethodName := ⟨RX2, "elementAt", "(II)I"⟩
abbrev cX2_oftenAt : ByteArray := prog_4_method_11_code
def yX2_oftenAt : MethodName := ⟨RX2, "oftenAt", "(II)I"⟩
abbrev cX2_isMarked : ByteArray := prog_4_method_12_code
def yX2_isMarked : MethodName := ⟨RX2, "isMarked", "(II)Z"⟩
abbrev cX2_mark : ByteArray := prog_4_method_13_code
def yX2_mark : MethodName := ⟨RX2, "mark", "(II)V"⟩
abbrev cX2_clearMarks : ByteArray := prog_4_method_14_code
def yX2_clearMarks : MethodName := ⟨RX2, "clearMarks", "(I)V"⟩
def RX3 : String := "BenchTimes$Pays"
def TX3 : u_T := fun k => match k with
  | 0 => ("BenchTimes$Pays", "rows", "LBenchTimes$WorkRows;", true)
  | 1 => ("BenchTimes$Pays", "waits", "LBenchTimes$WaitRows;", true)
  | _ => ("BenchTimes$Pays", "rules", "LBenchTimes$Rules;", true)
def tyX3 : Nat → FieldType := fun k => match k with
  | 0 => .object "BenchTimes$WorkRows"
  | 1 => .object "BenchTimes$WaitRows"
  | _ => .object "BenchTimes$Rules"
abbrev wsX30 : List Cond := u_ws RX3 TX3 3
theorem nmX3 : ∀ a, a < 3 → ∀ b, b < 3 → a ≠ b → (TX3 a).2.1 ≠ (TX3 b).2.1 := by decide +kernel
theorem tyX3_ok : ∀ k, k < 3 → parseFieldDescriptor (TX3 k).2.2.1 = some (tyX3 k) := by decide +kernel
abbrev cX3_init : ByteArray := prog_5_method_1_code
def yX3_init : MethodName := ⟨RX3, "<init>", "(LBenchTimes$WorkRows;LBenchTimes$WaitRows;LBenchTimes$Rules;)V"⟩
abbrev cX3_tellOf : ByteArray := prog_5_method_2_code
def yX3_tellOf : MethodName := ⟨RX3, "tellOf", "(III)I"⟩
abbrev cX3_allOf : ByteArray := prog_5_method_3_code
def yX3_allOf : MethodName := ⟨RX3, "allOf", "(II)I"⟩
abbrev cX3_forWaiting : ByteArray := prog_5_method_4_code
def yX3_forWaiting : MethodName := ⟨RX3, "forWaiting", "(II)I"⟩
abbrev cX3_shareOf : ByteArray := prog_5_method_5_code
def yX3_shareOf : MethodName := ⟨RX3, "shareOf", "(III)I"⟩
def RX4 : String := "BenchTimes$Rates"
def TX4 : u_T := fun k => match k with
  | 0 => ("BenchTimes$Rates", "jobs", "LBenchTimes$Jobs;", true)
  | 1 => ("BenchTimes$Rates", "watch", "LBenchTimes$Watch;", true)
  | 2 => ("BenchTimes$Rates", "jobOf", "[I", true)
  | 3 => ("BenchTimes$Rates", "begins", "[I", true)
  | 4 => ("BenchTimes$Rates", "sums", "[I", true)
  | 5 => ("BenchTimes$Rates", "worths", "[I", true)
  | _ => ("BenchTimes$Rates", "many", "I", false)
def tyX4 : Nat → FieldType := fun k => match k with
  | 0 => .object "BenchTimes$Jobs"
  | 1 => .object "BenchTimes$Watch"
  | 2 => .array .int
  | 3 => .array .int
  | 4 => .array .int
  | 5 => .array .int
  | _ => .int
abbrev wsX40 : List Cond := u_ws RX4 TX4 7
theorem nmX4 : ∀ a, a < 7 → ∀ b, b < 7 → a ≠ b → (TX4 a).2.1 ≠ (TX4 b).2.1 := by decide +kernel
theorem tyX4_ok : ∀ k, k < 7 → parseFieldDescriptor (TX4 k).2.2.1 = some (tyX4 k) := by decide +kernel
abbrev cX4_init : ByteArray := prog_6_method_1_code
def yX4_init : MethodName := ⟨RX4, "<init>", "(LBenchTimes$Jobs;LBenchTimes$Watch;)V"⟩
abbrev cX4_many : ByteArray := prog_6_method_2_code
def yX4_many : MethodName := ⟨RX4, "many", "()I"⟩
abbrev cX4_isFull : ByteArray := prog_6_method_3_code
def yX4_isFull : MethodName := ⟨RX4, "isFull", "()Z"⟩
abbrev cX4_beginOf : ByteArray := prog_6_method_4_code
def yX4_beginOf : MethodName := ⟨RX4, "beginOf", "(I)I"⟩
abbrev cX4_sumOf : ByteArray := prog_6_method_5_code
def yX4_sumOf : MethodName := ⟨RX4, "sumOf", "(I)I"⟩
abbrev cX4_worthOf : ByteArray := prog_6_method_6_code
def yX4_worthOf : MethodName := ⟨RX4, "worthOf", "(II)I"⟩
abbrev cX4_latestOf : ByteArray := prog_6_method_7_code
def yX4_latestOf : MethodName := ⟨RX4, "latestOf", "(I)I"⟩
abbrev cX4_inForce : ByteArray := prog_6_method_8_code
def yX4_inForce : MethodName := ⟨RX4, "inForce", "(II)I"⟩
abbrev cX4_mayMove : ByteArray := prog_6_method_9_code
def yX4_mayMove : MethodName := ⟨RX4, "mayMove", "(II)Z"⟩
abbrev cX4_canMake : ByteArray := prog_6_method_10_code
def yX4_canMake : MethodName := ⟨RX4, "canMake", "(I)Z"⟩
abbrev cX4_make : ByteArray := prog_6_method_11_code
def yX4_make : MethodName := ⟨RX4, "make", "(II)I"⟩
def RX5 : String := "BenchTimes$Rules"
def TX5 : u_T := fun k => match k with
  | 0 => ("BenchTimes$Rules", "values", "[I", true)
  | 1 => ("BenchTimes$Rules", "newValues", "[I", true)
  | 2 => ("BenchTimes$Rules", "bytes", "[I", true)
  | 3 => ("BenchTimes$Rules", "length", "I", false)
  | _ => ("BenchTimes$Rules", "place", "I", false)
def tyX5 : Nat → FieldType := fun k => match k with
  | 0 => .array .int
  | 1 => .array .int
  | 2 => .array .int
  | 3 => .int
  | _ => .int
abbrev wsX50 : List Cond := u_ws RX5 TX5 5
theorem nmX5 : ∀ a, a < 5 → ∀ b, b < 5 → a ≠ b → (TX5 a).2.1 ≠ (TX5 b).2.1 := by decide +kernel
theorem tyX5_ok : ∀ k, k < 5 → parseFieldDescriptor (TX5 k).2.2.1 = some (tyX5 k) := by decide +kernel
abbrev cX5_init : ByteArray := prog_7_method_1_code
def yX5_init : MethodName := ⟨RX5, "<init>", "()V"⟩
abbrev cX5_valueOf : ByteArray := prog_7_method_2_code
def yX5_valueOf : MethodName := ⟨RX5, "valueOf", "(I)I"⟩
abbrev cX5_byteMany : ByteArray := prog_7_method_3_code
def yX5_byteMany : MethodName := ⟨RX5, "byteMany", "()I"⟩
abbrev cX5_isFullOfBytes : ByteArray := prog_7_method_4_code
def yX5_isFullOfBytes : MethodName := ⟨RX5, "isFullOfBytes", "()Z"⟩
abbrev cX5_addByte : ByteArray := prog_7_method_5_code
def yX5_addByte : MethodName := ⟨RX5, "addByte", "(I)I"⟩
abbrev cX5_takeTape : ByteArray := prog_7_method_6_code
def yX5_takeTape : MethodName := ⟨RX5, "takeTape", "()I"⟩
abbrev cX5_takeNewValues : ByteArray := prog_7_method_7_code
def yX5_takeNewValues : MethodName := ⟨RX5, "takeNewValues", "()I"⟩
abbrev cX5_readClauses : ByteArray := prog_7_method_8_code
def yX5_readClauses : MethodName := ⟨RX5, "readClauses", "()Z"⟩
abbrev cX5_readClause : ByteArray := prog_7_method_9_code
def yX5_readClause : MethodName := ⟨RX5, "readClause", "()Z"⟩
abbrev cX5_readWord : ByteArray := prog_7_method_10_code
def yX5_readWord : MethodName := ⟨RX5, "readWord", "()I"⟩
abbrev cX5_alikeWith : ByteArray := prog_7_method_11_code
def yX5_alikeWith : MethodName := ⟨RX5, "alikeWith", "(Ljava/lang/String;)I"⟩
abbrev cX5_readSign : ByteArray := prog_7_method_12_code
def yX5_readSign : MethodName := ⟨RX5, "readSign", "(C)Z"⟩
abbrev cX5_readNumber : ByteArray := prog_7_method_13_code
def yX5_readNumber : MethodName := ⟨RX5, "readNumber", "()I"⟩
abbrev cX5_wordOf : ByteArray := prog_7_method_14_code
def yX5_wordOf : MethodName := ⟨RX5, "wordOf", "(I)Ljava/lang/String;"⟩
def RX6 : String := "BenchTimes$Slowness"
def TX6 : u_T := fun k => match k with
  | 0 => ("BenchTimes$Slowness", "rows", "LBenchTimes$WorkRows;", true)
  | 1 => ("BenchTimes$Slowness", "paces", "[I", true)
  | 2 => ("BenchTimes$Slowness", "watched", "[Z", true)
  | 3 => ("BenchTimes$Slowness", "ways", "[[I", true)
  | 4 => ("BenchTimes$Slowness", "many", "I", false)
  | _ => ("BenchTimes$Slowness", "watchedMany", "I", false)
def tyX6 : Nat → FieldType := fun k => match k with
  | 0 => .object "BenchTimes$WorkRows"
  | 1 => .array .int
  | 2 => .array .boolean
  | 3 => .array (.array .int)
  | 4 => .int
  | _ => .int
abbrev wsX60 : List Cond := u_ws RX6 TX6 6
theorem nmX6 : ∀ a, a < 6 → ∀ b, b < 6 → a ≠ b → (TX6 a).2.1 ≠ (TX6 b).2.1 := by decide +kernel
theorem tyX6_ok : ∀ k, k < 6 → parseFieldDescriptor (TX6 k).2.2.1 = some (tyX6 k) := by decide +kernel
abbrev cX6_init : ByteArray := prog_8_method_1_code
def yX6_init : MethodName := ⟨RX6, "<init>", "(LBenchTimes$WorkRows;)V"⟩
abbrev cX6_gather : ByteArray := prog_8_method_2_code
def yX6_gather : MethodName := ⟨RX6, "gather", "(II)V"⟩
abbrev cX6_canTell : ByteArray := prog_8_method_3_code
def yX6_canTell : MethodName := ⟨RX6, "canTell", "()Z"⟩
abbrev cX6_isBeyondDoubt : ByteArray := prog_8_method_4_code
def yX6_isBeyondDoubt : MethodName := ⟨RX6, "isBeyondDoubt", "()Z"⟩
abbrev cX6_watchedRanks : ByteArray := prog_8_method_5_code
def yX6_watchedRanks : MethodName := ⟨RX6, "watchedRanks", "()I"⟩
abbrev cX6_rankOf : ByteArray := prog_8_method_6_code
def yX6_rankOf : MethodName := ⟨RX6, "rankOf", "(I)I"⟩
abbrev cX6_countWays : ByteArray := prog_8_method_7_code
def yX6_countWays : MethodName := ⟨RX6, "countWays", "()V"⟩
abbrev cX6_addRow : ByteArray := prog_8_method_8_code
def yX6_addRow : MethodName := ⟨RX6, "addRow", "(III)V"⟩
def RX7 : String := "BenchTimes$WaitRows"
def TX7 : u_T := fun k => match k with
  | 0 => ("BenchTimes$WaitRows", "weekOf", "[I", true)
  | 1 => ("BenchTimes$WaitRows", "workerOf", "[I", true)
  | 2 => ("BenchTimes$WaitRows", "minutesOf", "[I", true)
  | 3 => ("BenchTimes$WaitRows", "minutesOfCause", "[I", true)
  | _ => ("BenchTimes$WaitRows", "many", "I", false)
def tyX7 : Nat → FieldType := fun k => match k with
  | 0 => .array .int
  | 1 => .array .int
  | 2 => .array .int
  | 3 => .array .int
  | _ => .int
abbrev wsX70 : List Cond := u_ws RX7 TX7 5
theorem nmX7 : ∀ a, a < 5 → ∀ b, b < 5 → a ≠ b → (TX7 a).2.1 ≠ (TX7 b).2.1 := by decide +kernel
theorem tyX7_ok : ∀ k, k < 5 → parseFieldDescriptor (TX7 k).2.2.1 = some (tyX7 k) := by decide +kernel
abbrev cX7_init : ByteArray := prog_9_method_1_code
def yX7_init : MethodName := ⟨RX7, "<init>", "()V"⟩
abbrev cX7_many : ByteArray := prog_9_method_2_code
def yX7_many : MethodName := ⟨RX7, "many", "()I"⟩
abbrev cX7_isFull : ByteArray := prog_9_method_3_code
def yX7_isFull : MethodName := ⟨RX7, "isFull", "()Z"⟩
abbrev cX7_add : ByteArray := prog_9_method_4_code
def yX7_add : MethodName := ⟨RX7, "add", "(IIII)I"⟩
abbrev cX7_minutesFor : ByteArray := prog_9_method_5_code
def yX7_minutesFor : MethodName := ⟨RX7, "minutesFor", "(I)I"⟩
abbrev cX7_minutesIn : ByteArray := prog_9_method_6_code
def yX7_minutesIn : MethodName := ⟨RX7, "minutesIn", "(II)I"⟩
def RX8 : String := "BenchTimes$Watch"
def TX8 : u_T := fun k => match k with
  | 0 => ("BenchTimes$Watch", "elements", "LBenchTimes$Elements;", true)
  | 1 => ("BenchTimes$Watch", "toldMore", "[I", true)
  | 2 => ("BenchTimes$Watch", "filmsOf", "[I", true)
  | 3 => ("BenchTimes$Watch", "films", "I", false)
  | 4 => ("BenchTimes$Watch", "elementOf", "[I", true)
  | 5 => ("BenchTimes$Watch", "raterOf", "[I", true)
  | 6 => ("BenchTimes$Watch", "paceOf", "[I", true)
  | 7 => ("BenchTimes$Watch", "timeOf", "[I", true)
  | 8 => ("BenchTimes$Watch", "cycles", "I", false)
  | 9 => ("BenchTimes$Watch", "normals", "[I", true)
  | 10 => ("BenchTimes$Watch", "timed", "I", false)
  | 11 => ("BenchTimes$Watch", "kept", "I", false)
  | 12 => ("BenchTimes$Watch", "level", "I", false)
  | 13 => ("BenchTimes$Watch", "standard", "I", false)
  | 14 => ("BenchTimes$Watch", "least", "I", false)
  | _ => ("BenchTimes$Watch", "greatest", "I", false)
def tyX8 : Nat → FieldType := fun k => match k with
  | 0 => .object "BenchTimes$Elements"
  | 1 => .array .int
  | 2 => .array .int
  | 3 => .int
  | 4 => .array .int
  | 5 => .array .int
  | 6 => .array .int
  | 7 => .array .int
  | 8 => .int
  | 9 => .array .int
  | 10 => .int
  | 11 => .int
  | 12 => .int
  | 13 => .int
  | 14 => .int
  | _ => .int
abbrev wsX80 : List Cond := u_ws RX8 TX8 16
theorem nmX8 : ∀ a, a < 16 → ∀ b, b < 16 → a ≠ b → (TX8 a).2.1 ≠ (TX8 b).2.1 := by decide +kernel
theorem tyX8_ok : ∀ k, k < 16 → parseFieldDescriptor (TX8 k).2.2.1 = some (tyX8 k) := by decide +kernel
abbrev cX8_init : ByteArray := prog_10_method_1_code
def yX8_init : MethodName := ⟨RX8, "<init>", "(LBenchTimes$Elements;)V"⟩
abbrev cX8_filmMany : ByteArray := prog_10_method_2_code
def yX8_filmMany : MethodName := ⟨RX8, "filmMany", "()I"⟩
abbrev cX8_cycleMany : ByteArray := prog_10_method_3_code
def yX8_cycleMany : MethodName := ⟨RX8, "cycleMany", "()I"⟩
abbrev cX8_isFullOfFilms : ByteArray := prog_10_method_4_code
def yX8_isFullOfFilms : MethodName := ⟨RX8, "isFullOfFilms", "()Z"⟩
abbrev cX8_isFullOfCycles : ByteArray := prog_10_method_5_code
def yX8_isFullOfCycles : MethodName := ⟨RX8, "isFullOfCycles", "()Z"⟩
abbrev cX8_addFilm : ByteArray := prog_10_method_6_code
def yX8_addFilm : MethodName := ⟨RX8, "addFilm", "(II)I"⟩
abbrev cX8_habitOf : ByteArray := prog_10_method_7_code
def yX8_habitOf : MethodName := ⟨RX8, "habitOf", "(I)I"⟩
abbrev cX8_addCycle : ByteArray := prog_10_method_8_code
def yX8_addCycle : MethodName := ⟨RX8, "addCycle", "(IIII)I"⟩
abbrev cX8_normalOf : ByteArray := prog_10_method_9_code
def yX8_normalOf : MethodName := ⟨RX8, "normalOf", "(I)I"⟩
abbrev cX8_isTimed : ByteArray := prog_10_method_10_code
def yX8_isTimed : MethodName := ⟨RX8, "isTimed", "(I)Z"⟩
abbrev cX8_study : ByteArray := prog_10_method_11_code
def yX8_study : MethodName := ⟨RX8, "study", "(I)V"⟩
abbrev cX8_studied : ByteArray := prog_10_method_12_code
def yX8_studied : MethodName := ⟨RX8, "studied", "(I)I"⟩
abbrev cX8_gatherNormals : ByteArray := prog_10_method_13_code
def yX8_gatherNormals : MethodName := ⟨RX8, "gatherNormals", "(I)V"⟩
abbrev cX8_putInOrder : ByteArray := prog_10_method_14_code
def yX8_putInOrder : MethodName := ⟨RX8, "putInOrder", "(I)V"⟩
abbrev cX8_keepNormals : ByteArray := prog_10_method_15_code
def yX8_keepNormals : MethodName := ⟨RX8, "keepNormals", "()V"⟩
def RX9 : String := "BenchTimes$WorkRows"
def TX9 : u_T := fun k => match k with
  | 0 => ("BenchTimes$WorkRows", "rates", "LBenchTimes$Rates;", true)
  | 1 => ("BenchTimes$WorkRows", "rules", "LBenchTimes$Rules;", true)
  | 2 => ("BenchTimes$WorkRows", "weekOf", "[I", true)
  | 3 => ("BenchTimes$WorkRows", "workerOf", "[I", true)
  | 4 => ("BenchTimes$WorkRows", "jobOf", "[I", true)
  | 5 => ("BenchTimes$WorkRows", "good", "[I", true)
  | 6 => ("BenchTimes$WorkRows", "spoilt", "[I", true)
  | 7 => ("BenchTimes$WorkRows", "minutesOf", "[I", true)
  | 8 => ("BenchTimes$WorkRows", "watched", "[Z", true)
  | 9 => ("BenchTimes$WorkRows", "began", "[I", true)
  | _ => ("BenchTimes$WorkRows", "many", "I", false)
def tyX9 : Nat → FieldType := fun k => match k with
  | 0 => .object "BenchTimes$Rates"
  | 1 => .object "BenchTimes$Rules"
  | 2 => .array .int
  | 3 => .array .int
  | 4 => .array .int
  | 5 => .array .int
  | 6 => .array .int
  | 7 => .array .int
  | 8 => .array .boolean
  | 9 => .array .int
  | _ => .int
abbrev wsX90 : List Cond := u_ws RX9 TX9 11
theorem nmX9 : ∀ a, a < 11 → ∀ b, b < 11 → a ≠ b → (TX9 a).2.1 ≠ (TX9 b).2.1 := by decide +kernel
theorem tyX9_ok : ∀ k, k < 11 → parseFieldDescriptor (TX9 k).2.2.1 = some (tyX9 k) := by decide +kernel
abbrev cX9_init : ByteArray := prog_11_method_1_code
def yX9_init : MethodName := ⟨RX9, "<init>", "(LBenchTimes$Rates;LBenchTimes$Rules;)V"⟩
abbrev cX9_many : ByteArray := prog_11_method_2_code
def yX9_many : MethodName := ⟨RX9, "many", "()I"⟩
abbrev cX9_isFull : ByteArray := prog_11_method_3_code
def yX9_isFull : MethodName := ⟨RX9, "isFull", "()Z"⟩
abbrev cX9_add : ByteArray := prog_11_method_4_code
def yX9_add : MethodName := ⟨RX9, "add", "(IIII)I"⟩
abbrev cX9_swapBegin : ByteArray := prog_11_method_5_code
def yX9_swapBegin : MethodName := ⟨RX9, "swapBegin", "(III)I"⟩
abbrev cX9_workerAt : ByteArray := prog_11_method_6_code
def yX9_workerAt : MethodName := ⟨RX9, "workerAt", "(I)I"⟩
abbrev cX9_jobAt : ByteArray := prog_11_method_7_code
def yX9_jobAt : MethodName := ⟨RX9, "jobAt", "(I)I"⟩
abbrev cX9_goodAt : ByteArray := prog_11_method_8_code
def yX9_goodAt : MethodName := ⟨RX9, "goodAt", "(I)I"⟩
abbrev cX9_minutesAt : ByteArray := prog_11_method_9_code
def yX9_minutesAt : MethodName := ⟨RX9, "minutesAt", "(I)I"⟩
abbrev cX9_isWatched : ByteArray := prog_11_method_10_code
def yX9_isWatched : MethodName := ⟨RX9, "isWatched", "(I)Z"⟩
abbrev cX9_earnedBy : ByteArray := prog_11_method_11_code
def yX9_earnedBy : MethodName := ⟨RX9, "earnedBy", "(I)I"⟩
abbrev cX9_earnedIn : ByteArray := prog_11_method_12_code
def yX9_earnedIn : MethodName := ⟨RX9, "earnedIn", "(II)I"⟩
abbrev cX9_minutesIn : ByteArray := prog_11_method_13_code
def yX9_minutesIn : MethodName := ⟨RX9, "minutesIn", "(II)I"⟩
abbrev cX9_learnersMore : ByteArray := prog_11_method_14_code
def yX9_learnersMore : MethodName := ⟨RX9, "learnersMore", "(II)I"⟩
def RX10 : String := "BenchTimes"
def TX10 : u_T := fun k => match k with
  | 0 => ("BenchTimes", "findings", "[I", true)
  | 1 => ("BenchTimes", "elements", "LBenchTimes$Elements;", true)
  | 2 => ("BenchTimes", "watch", "LBenchTimes$Watch;", true)
  | 3 => ("BenchTimes", "jobs", "LBenchTimes$Jobs;", true)
  | 4 => ("BenchTimes", "rates", "LBenchTimes$Rates;", true)
  | 5 => ("BenchTimes", "rules", "LBenchTimes$Rules;", true)
  | 6 => ("BenchTimes", "rows", "LBenchTimes$WorkRows;", true)
  | 7 => ("BenchTimes", "waits", "LBenchTimes$WaitRows;", true)
  | 8 => ("BenchTimes", "pays", "LBenchTimes$Pays;", true)
  | 9 => ("BenchTimes", "doubt", "LBenchTimes$Doubt;", true)
  | 10 => ("BenchTimes", "slowness", "LBenchTimes$Slowness;", true)
  | 11 => ("BenchTimes", "numbers", "[I", true)
  | 12 => ("BenchTimes", "numberMany", "I", false)
  | _ => ("BenchTimes", "now", "I", false)
def tyX10 : Nat → FieldType := fun k => match k with
  | 0 => .array .int
  | 1 => .object "BenchTimes$Elements"
  | 2 => .object "BenchTimes$Watch"
  | 3 => .object "BenchTimes$Jobs"
  | 4 => .object "BenchTimes$Rates"
  | 5 => .object "BenchTimes$Rules"
  | 6 => .object "BenchTimes$WorkRows"
  | 7 => .object "BenchTimes$WaitRows"
  | 8 => .object "BenchTimes$Pays"
  | 9 => .object "BenchTimes$Doubt"
  | 10 => .object "BenchTimes$Slowness"
  | 11 => .array .int
  | 12 => .int
  | _ => .int
abbrev wsX100 : List Cond := u_ws RX10 TX10 14
theorem nmX10 : ∀ a, a < 14 → ∀ b, b < 14 → a ≠ b → (TX10 a).2.1 ≠ (TX10 b).2.1 := by decide +kernel
theorem tyX10_ok : ∀ k, k < 14 → parseFieldDescriptor (TX10 k).2.2.1 = some (tyX10 k) := by decide +kernel
abbrev cX10_init : ByteArray := prog_1_method_1_code
def yX10_init : MethodName := ⟨RX10, "<init>", "()V"⟩
abbrev cX10_element : ByteArray := prog_1_method_2_code
def yX10_element : MethodName := ⟨RX10, "element", "(I)I"⟩
abbrev cX10_as : ByteArray := prog_1_method_3_code
def yX10_as : MethodName := ⟨RX10, "as", "(II)I"⟩
abbrev cX10_allow : ByteArray := prog_1_method_4_code
def yX10_allow : MethodName := ⟨RX10, "allow", "(II)I"⟩
abbrev cX10_film : ByteArray := prog_1_method_5_code
def yX10_film : MethodName := ⟨RX10, "film", "(III)I"⟩
abbrev cX10_habit : ByteArray := prog_1_method_6_code
def yX10_habit : MethodName := ⟨RX10, "habit", "(I)I"⟩
abbrev cX10_cycle : ByteArray := prog_1_method_7_code
def yX10_cycle : MethodName := ⟨RX10, "cycle", "(IIII)I"⟩
abbrev cX10_normal : ByteArray := prog_1_method_8_code
def yX10_normal : MethodName := ⟨RX10, "normal", "(I)I"⟩
abbrev cX10_of : ByteArray := prog_1_method_9_code
def yX10_of : MethodName := ⟨RX10, "of", "(II)I"⟩
abbrev cX10_job : ByteArray := prog_1_method_10_code
def yX10_job : MethodName := ⟨RX10, "job", "()I"⟩
abbrev cX10_part : ByteArray := prog_1_method_11_code
def yX10_part : MethodName := ⟨RX10, "part", "(III)I"⟩
abbrev cX10_set : ByteArray := prog_1_method_12_code
def yX10_set : MethodName := ⟨RX10, "set", "(I)I"⟩
abbrev cX10_change : ByteArray := prog_1_method_13_code
def yX10_change : MethodName := ⟨RX10, "change", "(I)I"⟩
abbrev cX10_move : ByteArray := prog_1_method_14_code
def yX10_move : MethodName := ⟨RX10, "move", "(I)I"⟩
abbrev cX10_rate : ByteArray := prog_1_method_15_code
def yX10_rate : MethodName := ⟨RX10, "rate", "(II)I"⟩
abbrev cX10_worth : ByteArray := prog_1_method_16_code
def yX10_worth : MethodName := ⟨RX10, "worth", "(III)I"⟩
abbrev cX10_week : ByteArray := prog_1_method_17_code
def yX10_week : MethodName := ⟨RX10, "week", "(I)I"⟩
abbrev cX10_feed : ByteArray := prog_1_method_18_code
def yX10_feed : MethodName := ⟨RX10, "feed", "(I)I"⟩
abbrev cX10_read : ByteArray := prog_1_method_19_code
def yX10_read : MethodName := ⟨RX10, "read", "()I"⟩
abbrev cX10_rule : ByteArray := prog_1_method_20_code
def yX10_rule : MethodName := ⟨RX10, "rule", "(I)I"⟩
abbrev cX10_work : ByteArray := prog_1_method_21_code
def yX10_work : MethodName := ⟨RX10, "work", "(IIII)I"⟩
abbrev cX10_wait : ByteArray := prog_1_method_22_code
def yX10_wait : MethodName := ⟨RX10, "wait", "(IIII)I"⟩
abbrev cX10_learner : ByteArray := prog_1_method_23_code
def yX10_learner : MethodName := ⟨RX10, "learner", "(III)I"⟩
abbrev cX10_earned : ByteArray := prog_1_method_24_code
def yX10_earned : MethodName := ⟨RX10, "earned", "(I)I"⟩
abbrev cX10_pay : ByteArray := prog_1_method_25_code
def yX10_pay : MethodName := ⟨RX10, "pay", "(III)I"⟩
abbrev cX10_cause : ByteArray := prog_1_method_26_code
def yX10_cause : MethodName := ⟨RX10, "cause", "(I)I"⟩
abbrev cX10_pool : ByteArray := prog_1_method_27_code
def yX10_pool : MethodName := ⟨RX10, "pool", "(III)I"⟩
abbrev cX10_efficiency : ByteArray := prog_1_method_28_code
def yX10_efficiency : MethodName := ⟨RX10, "efficiency", "(II)I"⟩
abbrev cX10_looser : ByteArray := prog_1_method_29_code
def yX10_looser : MethodName := ⟨RX10, "looser", "(II)I"⟩
abbrev cX10_order : ByteArray := prog_1_method_30_code
def yX10_order : MethodName := ⟨RX10, "order", "(I)I"⟩
abbrev cX10_slow : ByteArray := prog_1_method_31_code
def yX10_slow : MethodName := ⟨RX10, "slow", "(II)I"⟩
abbrev cX10_tell : ByteArray := prog_1_method_32_code
def yX10_tell : MethodName := ⟨RX10, "tell", "(I)I"⟩
abbrev cX10_check : ByteArray := prog_1_method_33_code
def yX10_check : MethodName := ⟨RX10, "check", "(I)I"⟩
abbrev cX10_count : ByteArray := prog_1_method_34_code
def yX10_count : MethodName := ⟨RX10, "count", "(I)I"⟩
abbrev cX10_found : ByteArray := prog_1_method_35_code
def yX10_found : MethodName := ⟨RX10, "found", "(I)I"⟩
abbrev cX10_finding : ByteArray := prog_1_method_36_code
def yX10_finding : MethodName := ⟨RX10, "finding", "(I)I"⟩
abbrev cX10_orNone : ByteArray := prog_1_method_37_code
def yX10_orNone : MethodName := ⟨RX10, "orNone", "(I)I"⟩
abbrev cX10_newRate : ByteArray := prog_1_method_38_code
def yX10_newRate : MethodName := ⟨RX10, "newRate", "(II)I"⟩
abbrev cX10_isOn : ByteArray := prog_1_method_39_code
def yX10_isOn : MethodName := ⟨RX10, "isOn", "(I)Z"⟩
abbrev cX10_isWithin : ByteArray := prog_1_method_40_code
def yX10_isWithin : MethodName := ⟨RX10, "isWithin", "(III)Z"⟩
abbrev cX10_isWeek : ByteArray := prog_1_method_41_code
def yX10_isWeek : MethodName := ⟨RX10, "isWeek", "(I)Z"⟩
abbrev cX10_isRater : ByteArray := prog_1_method_42_code
def yX10_isRater : MethodName := ⟨RX10, "isRater", "(I)Z"⟩
abbrev cX10_isPace : ByteArray := prog_1_method_43_code
def yX10_isPace : MethodName := ⟨RX10, "isPace", "(I)Z"⟩
abbrev cX10_isWorker : ByteArray := prog_1_method_44_code
def yX10_isWorker : MethodName := ⟨RX10, "isWorker", "(I)Z"⟩
abbrev cX10_isCause : ByteArray := prog_1_method_45_code
def yX10_isCause : MethodName := ⟨RX10, "isCause", "(I)Z"⟩
abbrev cX10_isIn : ByteArray := prog_1_method_46_code
def yX10_isIn : MethodName := ⟨RX10, "isIn", "(II)Z"⟩
def RX11 : String := "BenchTimesModel"
def TX11 : u_T := fun k => match k with
  | 0 => ("BenchTimesModel", "elements", "I", false)
  | 1 => ("BenchTimesModel", "kind", "[I", true)
  | 2 => ("BenchTimesModel", "base", "I", false)
  | 3 => ("BenchTimesModel", "more", "I", false)
  | 4 => ("BenchTimesModel", "films", "I", false)
  | 5 => ("BenchTimesModel", "filmOf", "[I", true)
  | 6 => ("BenchTimesModel", "filmOver", "[I", true)
  | 7 => ("BenchTimesModel", "cycles", "I", false)
  | 8 => ("BenchTimesModel", "cycleOf", "[I", true)
  | 9 => ("BenchTimesModel", "cycleBy", "[I", true)
  | 10 => ("BenchTimesModel", "pace", "[I", true)
  | 11 => ("BenchTimesModel", "time", "[I", true)
  | 12 => ("BenchTimesModel", "jobs", "I", false)
  | 13 => ("BenchTimesModel", "parts", "[I", true)
  | 14 => ("BenchTimesModel", "partOf", "[I", true)
  | 15 => ("BenchTimesModel", "often", "[I", true)
  | 16 => ("BenchTimesModel", "isMarked", "[Z", true)
  | 17 => ("BenchTimesModel", "rates", "I", false)
  | 18 => ("BenchTimesModel", "rateOf", "[I", true)
  | 19 => ("BenchTimesModel", "rateFrom", "[I", true)
  | 20 => ("BenchTimesModel", "worthOf", "[I", true)
  | 21 => ("BenchTimesModel", "week", "I", false)
  | 22 => ("BenchTimesModel", "rules", "[I", true)
  | 23 => ("BenchTimesModel", "tape", "[I", true)
  | 24 => ("BenchTimesModel", "taped", "I", false)
  | 25 => ("BenchTimesModel", "rows", "I", false)
  | 26 => ("BenchTimesModel", "rowWeek", "[I", true)
  | 27 => ("BenchTimesModel", "rowWorker", "[I", true)
  | 28 => ("BenchTimesModel", "rowJob", "[I", true)
  | 29 => ("BenchTimesModel", "good", "[I", true)
  | 30 => ("BenchTimesModel", "spoilt", "[I", true)
  | 31 => ("BenchTimesModel", "minutes", "[I", true)
  | 32 => ("BenchTimesModel", "isWatched", "[Z", true)
  | 33 => ("BenchTimesModel", "waits", "I", false)
  | 34 => ("BenchTimesModel", "waitWeek", "[I", true)
  | 35 => ("BenchTimesModel", "waitWorker", "[I", true)
  | 36 => ("BenchTimesModel", "waitCause", "[I", true)
  | 37 => ("BenchTimesModel", "waitMinutes", "[I", true)
  | 38 => ("BenchTimesModel", "began", "[I", true)
  | 39 => ("BenchTimesModel", "numbers", "I", false)
  | 40 => ("BenchTimesModel", "waiting", "[I", true)
  | 41 => ("BenchTimesModel", "found", "[I", true)
  | 42 => ("BenchTimesModel", "inOrder", "[I", true)
  | 43 => ("BenchTimesModel", "told", "[I", true)
  | 44 => ("BenchTimesModel", "at", "I", false)
  | 45 => ("BenchTimesModel", "hasRows", "[Z", true)
  | 46 => ("BenchTimesModel", "score", "[I", true)
  | 47 => ("BenchTimesModel", "paces", "[I", true)
  | _ => ("BenchTimesModel", "ranks", "[I", true)
def tyX11 : Nat → FieldType := fun k => match k with
  | 0 => .int
  | 1 => .array .int
  | 2 => .int
  | 3 => .int
  | 4 => .int
  | 5 => .array .int
  | 6 => .array .int
  | 7 => .int
  | 8 => .array .int
  | 9 => .array .int
  | 10 => .array .int
  | 11 => .array .int
  | 12 => .int
  | 13 => .array .int
  | 14 => .array .int
  | 15 => .array .int
  | 16 => .array .boolean
  | 17 => .int
  | 18 => .array .int
  | 19 => .array .int
  | 20 => .array .int
  | 21 => .int
  | 22 => .array .int
  | 23 => .array .int
  | 24 => .int
  | 25 => .int
  | 26 => .array .int
  | 27 => .array .int
  | 28 => .array .int
  | 29 => .array .int
  | 30 => .array .int
  | 31 => .array .int
  | 32 => .array .boolean
  | 33 => .int
  | 34 => .array .int
  | 35 => .array .int
  | 36 => .array .int
  | 37 => .array .int
  | 38 => .array .int
  | 39 => .int
  | 40 => .array .int
  | 41 => .array .int
  | 42 => .array .int
  | 43 => .array .int
  | 44 => .int
  | 45 => .array .boolean
  | 46 => .array .int
  | 47 => .array .int
  | _ => .array .int
abbrev wsX110 : List Cond := u_ws RX11 TX11 49
theorem nmX11 : ∀ a, a < 49 → ∀ b, b < 49 → a ≠ b → (TX11 a).2.1 ≠ (TX11 b).2.1 := by decide +kernel
theorem tyX11_ok : ∀ k, k < 49 → parseFieldDescriptor (TX11 k).2.2.1 = some (tyX11 k) := by decide +kernel
abbrev cX11_init : ByteArray := prog_13_method_1_code
def yX11_init : MethodName := ⟨RX11, "<init>", "()V"⟩
abbrev cX11_finding : ByteArray := prog_13_method_2_code
def yX11_finding : MethodName := ⟨RX11, "finding", "(I)I"⟩
abbrev cX11_isIn : ByteArray := prog_13_method_3_code
def yX11_isIn : MethodName := ⟨RX11, "isIn", "(III)Z"⟩
abbrev cX11_isElement : ByteArray := prog_13_method_4_code
def yX11_isElement : MethodName := ⟨RX11, "isElement", "(I)Z"⟩
abbrev cX11_isJob : ByteArray := prog_13_method_5_code
def yX11_isJob : MethodName := ⟨RX11, "isJob", "(I)Z"⟩
abbrev cX11_isWorker : ByteArray := prog_13_method_6_code
def yX11_isWorker : MethodName := ⟨RX11, "isWorker", "(I)Z"⟩
abbrev cX11_isWeek : ByteArray := prog_13_method_7_code
def yX11_isWeek : MethodName := ⟨RX11, "isWeek", "(I)Z"⟩
abbrev cX11_isPace : ByteArray := prog_13_method_8_code
def yX11_isPace : MethodName := ⟨RX11, "isPace", "(I)Z"⟩
abbrev cX11_element : ByteArray := prog_13_method_9_code
def yX11_element : MethodName := ⟨RX11, "element", "(I)I"⟩
abbrev cX11_allowanceOf : ByteArray := prog_13_method_10_code
def yX11_allowanceOf : MethodName := ⟨RX11, "allowanceOf", "(I)I"⟩
abbrev cX11_as : ByteArray := prog_13_method_11_code
def yX11_as : MethodName := ⟨RX11, "as", "(II)I"⟩
abbrev cX11_allow : ByteArray := prog_13_method_12_code
def yX11_allow : MethodName := ⟨RX11, "allow", "(II)I"⟩
abbrev cX11_film : ByteArray := prog_13_method_13_code
def yX11_film : MethodName := ⟨RX11, "film", "(III)I"⟩
abbrev cX11_habitOf : ByteArray := prog_13_method_14_code
def yX11_habitOf : MethodName := ⟨RX11, "habitOf", "(I)I"⟩
abbrev cX11_habit : ByteArray := prog_13_method_15_code
def yX11_habit : MethodName := ⟨RX11, "habit", "(I)I"⟩
abbrev cX11_cycle : ByteArray := prog_13_method_16_code
def yX11_cycle : MethodName := ⟨RX11, "cycle", "(IIII)I"⟩
abbrev cX11_normalOf : ByteArray := prog_13_method_17_code
def yX11_normalOf : MethodName := ⟨RX11, "normalOf", "(I)I"⟩
abbrev cX11_normal : ByteArray := prog_13_method_18_code
def yX11_normal : MethodName := ⟨RX11, "normal", "(I)I"⟩
abbrev cX11_cyclesOf : ByteArray := prog_13_method_19_code
def yX11_cyclesOf : MethodName := ⟨RX11, "cyclesOf", "(I)I"⟩
abbrev cX11_keptOf : ByteArray := prog_13_method_20_code
def yX11_keptOf : MethodName := ⟨RX11, "keptOf", "(II)I"⟩
abbrev cX11_standardOf : ByteArray := prog_13_method_21_code
def yX11_standardOf : MethodName := ⟨RX11, "standardOf", "(I)I"⟩
abbrev cX11_of : ByteArray := prog_13_method_22_code
def yX11_of : MethodName := ⟨RX11, "of", "(II)I"⟩
abbrev cX11_job : ByteArray := prog_13_method_23_code
def yX11_job : MethodName := ⟨RX11, "job", "()I"⟩
abbrev cX11_latestOf : ByteArray := prog_13_method_24_code
def yX11_latestOf : MethodName := ⟨RX11, "latestOf", "(I)I"⟩
abbrev cX11_part : ByteArray := prog_13_method_25_code
def yX11_part : MethodName := ⟨RX11, "part", "(III)I"⟩
abbrev cX11_sumOf : ByteArray := prog_13_method_26_code
def yX11_sumOf : MethodName := ⟨RX11, "sumOf", "(I)I"⟩
abbrev cX11_make : ByteArray := prog_13_method_27_code
def yX11_make : MethodName := ⟨RX11, "make", "(III)I"⟩
abbrev cX11_set : ByteArray := prog_13_method_28_code
def yX11_set : MethodName := ⟨RX11, "set", "(I)I"⟩
abbrev cX11_change : ByteArray := prog_13_method_29_code
def yX11_change : MethodName := ⟨RX11, "change", "(I)I"⟩
abbrev cX11_move : ByteArray := prog_13_method_30_code
def yX11_move : MethodName := ⟨RX11, "move", "(I)I"⟩
abbrev cX11_forceOf : ByteArray := prog_13_method_31_code
def yX11_forceOf : MethodName := ⟨RX11, "forceOf", "(II)I"⟩
abbrev cX11_rate : ByteArray := prog_13_method_32_code
def yX11_rate : MethodName := ⟨RX11, "rate", "(II)I"⟩
abbrev cX11_worth : ByteArray := prog_13_method_33_code
def yX11_worth : MethodName := ⟨RX11, "worth", "(III)I"⟩
abbrev cX11_week : ByteArray := prog_13_method_34_code
def yX11_week : MethodName := ⟨RX11, "week", "(I)I"⟩
abbrev cX11_feed : ByteArray := prog_13_method_35_code
def yX11_feed : MethodName := ⟨RX11, "feed", "(I)I"⟩
abbrev cX11_here : ByteArray := prog_13_method_36_code
def yX11_here : MethodName := ⟨RX11, "here", "()I"⟩
abbrev cX11_wordHere : ByteArray := prog_13_method_37_code
def yX11_wordHere : MethodName := ⟨RX11, "wordHere", "()I"⟩
abbrev cX11_readAll : ByteArray := prog_13_method_38_code
def yX11_readAll : MethodName := ⟨RX11, "readAll", "()I"⟩
abbrev cX11_read : ByteArray := prog_13_method_39_code
def yX11_read : MethodName := ⟨RX11, "read", "()I"⟩
abbrev cX11_rule : ByteArray := prog_13_method_40_code
def yX11_rule : MethodName := ⟨RX11, "rule", "(I)I"⟩
abbrev cX11_work : ByteArray := prog_13_method_41_code
def yX11_work : MethodName := ⟨RX11, "work", "(IIII)I"⟩
abbrev cX11_wait : ByteArray := prog_13_method_42_code
def yX11_wait : MethodName := ⟨RX11, "wait", "(IIII)I"⟩
abbrev cX11_learner : ByteArray := prog_13_method_43_code
def yX11_learner : MethodName := ⟨RX11, "learner", "(III)I"⟩
abbrev cX11_earnedBy : ByteArray := prog_13_method_44_code
def yX11_earnedBy : MethodName := ⟨RX11, "earnedBy", "(I)I"⟩
abbrev cX11_earned : ByteArray := prog_13_method_45_code
def yX11_earned : MethodName := ⟨RX11, "earned", "(I)I"⟩
abbrev cX11_payOf : ByteArray := prog_13_method_46_code
def yX11_payOf : MethodName := ⟨RX11, "payOf", "(III)I"⟩
abbrev cX11_pay : ByteArray := prog_13_method_47_code
def yX11_pay : MethodName := ⟨RX11, "pay", "(III)I"⟩
abbrev cX11_cause : ByteArray := prog_13_method_48_code
def yX11_cause : MethodName := ⟨RX11, "cause", "(I)I"⟩
abbrev cX11_pool : ByteArray := prog_13_method_49_code
def yX11_pool : MethodName := ⟨RX11, "pool", "(III)I"⟩
abbrev cX11_efficiencyOf : ByteArray := prog_13_method_50_code
def yX11_efficiencyOf : MethodName := ⟨RX11, "efficiencyOf", "(II)I"⟩
abbrev cX11_efficiency : ByteArray := prog_13_method_51_code
def yX11_efficiency : MethodName := ⟨RX11, "efficiency", "(II)I"⟩
abbrev cX11_ones : ByteArray := prog_13_method_52_code
def yX11_ones : MethodName := ⟨RX11, "ones", "(I)I"⟩
abbrev cX11_isLooser : ByteArray := prog_13_method_53_code
def yX11_isLooser : MethodName := ⟨RX11, "isLooser", "(II)Z"⟩
abbrev cX11_looser : ByteArray := prog_13_method_54_code
def yX11_looser : MethodName := ⟨RX11, "looser", "(II)I"⟩
abbrev cX11_order : ByteArray := prog_13_method_55_code
def yX11_order : MethodName := ⟨RX11, "order", "(I)I"⟩
abbrev cX11_slow : ByteArray := prog_13_method_56_code
def yX11_slow : MethodName := ⟨RX11, "slow", "(II)I"⟩
abbrev cX11_tell : ByteArray := prog_13_method_57_code
def yX11_tell : MethodName := ⟨RX11, "tell", "(I)I"⟩
abbrev cX11_check : ByteArray := prog_13_method_58_code
def yX11_check : MethodName := ⟨RX11, "check", "(I)I"⟩
abbrev cX11_count : ByteArray := prog_13_method_59_code
def yX11_count : MethodName := ⟨RX11, "count", "(I)I"⟩
abbrev cX11_found : ByteArray := prog_13_method_60_code
def yX11_found : MethodName := ⟨RX11, "found", "(I)I"⟩
def RJ9 : String := "java/lang/Math"
def TJ9 : u_T := fun k => match k with
  | _ => ("", "", "", false)
def tyJ9 : Nat → FieldType := fun k => match k with
  | _ => .int
abbrev wsJ90 : List Cond := u_ws RJ9 TJ9 0
theorem nmJ9 : ∀ a, a < 0 → ∀ b, b < 0 → a ≠ b → (TJ9 a).2.1 ≠ (TJ9 b).2.1 := by decide +kernel
theorem tyJ9_ok : ∀ k, k < 0 → parseFieldDescriptor (TJ9 k).2.2.1 = some (tyJ9 k) := by decide +kernel
abbrev cJ9_abs_0f7a4 : ByteArray := prog_14_method_59_code
def yJ9_abs_0f7a4 : MethodName := ⟨RJ9, "abs", "(I)I"⟩
abbrev cJ9_max_7cf53 : ByteArray := prog_14_method_65_code
def yJ9_max_7cf53 : MethodName := ⟨RJ9, "max", "(II)I"⟩
abbrev cJ9_min_7cf53 : ByteArray := prog_14_method_69_code
def yJ9_min_7cf53 : MethodName := ⟨RJ9, "min", "(II)I"⟩
def RJ0 : String := "java/lang/String"
def TJ0 : u_T := fun k => match k with
  | _ => ("", "", "", false)
def tyJ0 : Nat → FieldType := fun k => match k with
  | _ => .int
abbrev wsJ00 : List Cond := u_ws RJ0 TJ0 0
theorem nmJ0 : ∀ a, a < 0 → ∀ b, b < 0 → a ≠ b → (TJ0 a).2.1 ≠ (TJ0 b).2.1 := by decide +kernel
theorem tyJ0_ok : ∀ k, k < 0 → parseFieldDescriptor (TJ0 k).2.2.1 = some (tyJ0 k) := by decide +kernel
abbrev cJ0_length_8abf5 : ByteArray := prog_15_method_54_code
def yJ0_length_8abf5 : MethodName := ⟨RJ0, "length", "()I"⟩
abbrev cJ0_charAt_5068e : ByteArray := prog_15_method_56_code
def yJ0_charAt_5068e : MethodName := ⟨RJ0, "charAt", "(I)C"⟩
abbrev cJ0_coder_7d493 : ByteArray := prog_15_method_152_code
def yJ0_coder_7d493 : MethodName := ⟨RJ0, "coder", "()B"⟩
abbrev cJ0_isLatin1_aae02 : ByteArray := prog_15_method_154_code
def yJ0_isLatin1_aae02 : MethodName := ⟨RJ0, "isLatin1", "()Z"⟩
abbrev cJ0_checkIndex_df160 : ByteArray := prog_15_method_155_code
def yJ0_checkIndex_df160 : MethodName := ⟨RJ0, "checkIndex", "(II)V"⟩
def RJ1 : String := "java/lang/StringLatin1"
def TJ1 : u_T := fun k => match k with
  | _ => ("", "", "", false)
def tyJ1 : Nat → FieldType := fun k => match k with
  | _ => .int
abbrev wsJ10 : List Cond := u_ws RJ1 TJ1 0
theorem nmJ1 : ∀ a, a < 0 → ∀ b, b < 0 → a ≠ b → (TJ1 a).2.1 ≠ (TJ1 b).2.1 := by decide +kernel
theorem tyJ1_ok : ∀ k, k < 0 → parseFieldDescriptor (TJ1 k).2.2.1 = some (tyJ1 k) := by decide +kernel
abbrev cJ1_charAt_3b067 : ByteArray := prog_16_method_2_code
def yJ1_charAt_3b067 : MethodName := ⟨RJ1, "charAt", "([BI)C"⟩
def RJ2 : String := "java/lang/StringUTF16"
def TJ2 : u_T := fun k => match k with
  | _ => ("", "", "", false)
def tyJ2 : Nat → FieldType := fun k => match k with
  | _ => .int
abbrev wsJ20 : List Cond := u_ws RJ2 TJ2 0
theorem nmJ2 : ∀ a, a < 0 → ∀ b, b < 0 → a ≠ b → (TJ2 a).2.1 ≠ (TJ2 b).2.1 := by decide +kernel
theorem tyJ2_ok : ∀ k, k < 0 → parseFieldDescriptor (TJ2 k).2.2.1 = some (tyJ2 k) := by decide +kernel
abbrev cJ2_getChar_3b067 : ByteArray := prog_17_method_5_code
def yJ2_getChar_3b067 : MethodName := ⟨RJ2, "getChar", "([BI)C"⟩
abbrev cJ2_length_9d52b : ByteArray := prog_17_method_6_code
def yJ2_length_9d52b : MethodName := ⟨RJ2, "length", "([B)I"⟩
abbrev cJ2_charAt_3b067 : ByteArray := prog_17_method_83_code
def yJ2_charAt_3b067 : MethodName := ⟨RJ2, "charAt", "([BI)C"⟩
abbrev cJ2_checkIndex_2214a : ByteArray := prog_17_method_91_code
def yJ2_checkIndex_2214a : MethodName := ⟨RJ2, "checkIndex", "(I[B)V"⟩
def RJ7 : String := "java/util/Arrays"
def TJ7 : u_T := fun k => match k with
  | _ => ("", "", "", false)
def tyJ7 : Nat → FieldType := fun k => match k with
  | _ => .int
abbrev wsJ70 : List Cond := u_ws RJ7 TJ7 0
theorem nmJ7 : ∀ a, a < 0 → ∀ b, b < 0 → a ≠ b → (TJ7 a).2.1 ≠ (TJ7 b).2.1 := by decide +kernel
theorem tyJ7_ok : ∀ k, k < 0 → parseFieldDescriptor (TJ7 k).2.2.1 = some (tyJ7 k) := by decide +kernel
abbrev cJ7_fill_d0a16 : ByteArray := prog_18_method_101_code
def yJ7_fill_d0a16 : MethodName := ⟨RJ7, "fill", "([JJ)V"⟩
abbrev cJ7_fill_53178 : ByteArray := prog_18_method_103_code
def yJ7_fill_53178 : MethodName := ⟨RJ7, "fill", "([II)V"⟩
def RJ3 : String := "jdk/internal/util/Preconditions"
def TJ3 : u_T := fun k => match k with
  | _ => ("", "", "", false)
def tyJ3 : Nat → FieldType := fun k => match k with
  | _ => .int
abbrev wsJ30 : List Cond := u_ws RJ3 TJ3 0
theorem nmJ3 : ∀ a, a < 0 → ∀ b, b < 0 → a ≠ b → (TJ3 a).2.1 ≠ (TJ3 b).2.1 := by decide +kernel
theorem tyJ3_ok : ∀ k, k < 0 → parseFieldDescriptor (TJ3 k).2.2.1 = some (tyJ3 k) := by decide +kernel
abbrev cJ3_checkIndex_8e157 : ByteArray := prog_19_method_11_code
def yJ3_checkIndex_8e157 : MethodName := ⟨RJ3, "checkIndex", "(IILjava/util/function/BiFunction;)I"⟩
def RL : String := "BenchTimesLaw"
abbrev cL_law : ByteArray := code
def yL_law : MethodName := ⟨RL, "law", "([I)Z"⟩
end
section
/-! THE WORLD: every cell of the object and of the reference, and a memory of ints over it -/
abbrev Mem : Type := (Nat → Nat → Int32) × (Nat → Int64)
/-- addresses of the cells; the classes' numbers and slots; the array classes; addresses of the static tables; of the texts -/
abbrev Cx : Type := (Nat → Nat) × va_G × (Nat → ClassId) × (Nat → Nat) × (Nat → Nat) × (Nat → Nat)
def up2 (M : Mem) (q j : Nat) (x : Int32) : Mem := (fun k => if k = q then upd (M.1 q) j x else M.1 k, M.2)
def upL (M : Mem) (j : Nat) (x : Int64) : Mem := (M.1, vp_updL M.2 j x)
abbrev cls : List vw_C := [(RX0, TX0, 4), (RX1, TX1, 4), (RX2, TX2, 5), (RX3, TX3, 3), (RX4, TX4, 7), (RX5, TX5, 5), (RX6, TX6, 6), (RX7, TX7, 5), (RX8, TX8, 16), (RX9, TX9, 11), (RX10, TX10, 14), (RX11, TX11, 49)]
abbrev fs0 (g : Cx) (M : Mem) : List Value := [.ref (g.1 12), .ref (g.1 1), .ref (g.1 2), .ref (g.1 3), .ref (g.1 4), .ref (g.1 5), .ref (g.1 6), .ref (g.1 7), .ref (g.1 8), .ref (g.1 9), .ref (g.1 10), .ref (g.1 13), .int (M.1 0 12), .int (M.1 0 13)]
abbrev fs1 (g : Cx) (M : Mem) : List Value := [.ref (g.1 14), .int (M.1 1 1), .int (M.1 1 2), .int (M.1 1 3)]
abbrev fs2 (g : Cx) (M : Mem) : List Value := [.ref (g.1 1), .ref (g.1 15), .ref (g.1 16), .int (M.1 2 3), .ref (g.1 17), .ref (g.1 18), .ref (g.1 19), .ref (g.1 20), .int (M.1 2 8), .ref (g.1 21), .int (M.1 2 10), .int (M.1 2 11), .int (M.1 2 12), .int (M.1 2 13), .int (M.1 2 14), .int (M.1 2 15)]
abbrev fs3 (g : Cx) (M : Mem) : List Value := [.ref (g.1 22), .ref (g.1 23), .ref (g.1 24), .ref (g.1 25), .int (M.1 3 4)]
abbrev fs4 (g : Cx) (M : Mem) : List Value := [.ref (g.1 3), .ref (g.1 2), .ref (g.1 26), .ref (g.1 27), .ref (g.1 28), .ref (g.1 29), .int (M.1 4 6)]
abbrev fs5 (g : Cx) (M : Mem) : List Value := [.ref (g.1 30), .ref (g.1 31), .ref (g.1 32), .int (M.1 5 3), .int (M.1 5 4)]
abbrev fs6 (g : Cx) (M : Mem) : List Value := [.ref (g.1 4), .ref (g.1 5), .ref (g.1 33), .ref (g.1 34), .ref (g.1 35), .ref (g.1 36), .ref (g.1 37), .ref (g.1 38), .ref (g.1 39), .ref (g.1 40), .int (M.1 6 10)]
abbrev fs7 (g : Cx) (M : Mem) : List Value := [.ref (g.1 41), .ref (g.1 42), .ref (g.1 43), .ref (g.1 44), .int (M.1 7 4)]
abbrev fs8 (g : Cx) (M : Mem) : List Value := [.ref (g.1 6), .ref (g.1 7), .ref (g.1 5)]
abbrev fs9 (g : Cx) (M : Mem) : List Value := [.ref (g.1 6), .ref (g.1 45), .ref (g.1 46), .ref (g.1 47)]
abbrev fs10 (g : Cx) (M : Mem) : List Value := [.ref (g.1 6), .ref (g.1 48), .ref (g.1 49), .ref (g.1 50), .int (M.1 10 4), .int (M.1 10 5)]
abbrev fs11 (g : Cx) (M : Mem) : List Value := [.int (M.1 11 0), .ref (g.1 66), .int (M.1 11 2), .int (M.1 11 3), .int (M.1 11 4), .ref (g.1 67), .ref (g.1 68), .int (M.1 11 7), .ref (g.1 69), .ref (g.1 70), .ref (g.1 71), .ref (g.1 72), .int (M.1 11 12), .ref (g.1 73), .ref (g.1 74), .ref (g.1 75), .ref (g.1 76), .int (M.1 11 17), .ref (g.1 77), .ref (g.1 78), .ref (g.1 79), .int (M.1 11 21), .ref (g.1 80), .ref (g.1 81), .int (M.1 11 24), .int (M.1 11 25), .ref (g.1 82), .ref (g.1 83), .ref (g.1 84), .ref (g.1 85), .ref (g.1 86), .ref (g.1 87), .ref (g.1 88), .int (M.1 11 33), .ref (g.1 89), .ref (g.1 90), .ref (g.1 91), .ref (g.1 92), .ref (g.1 93), .int (M.1 11 39), .ref (g.1 94), .ref (g.1 95), .ref (g.1 96), .ref (g.1 97), .int (M.1 11 44), .ref (g.1 98), .ref (g.1 99), .ref (g.1 100), .ref (g.1 101)]
def wl (g : Cx) (M : Mem) : va_W := [(g.1 0, .inr (10, [.ref (g.1 12), .ref (g.1 1), .ref (g.1 2), .ref (g.1 3), .ref (g.1 4), .ref (g.1 5), .ref (g.1 6), .ref (g.1 7), .ref (g.1 8), .ref (g.1 9), .ref (g.1 10), .ref (g.1 13), .int (M.1 0 12), .int (M.1 0 13)])),
  (g.1 1, .inr (1, [.ref (g.1 14), .int (M.1 1 1), .int (M.1 1 2), .int (M.1 1 3)])),
  (g.1 2, .inr (8, [.ref (g.1 1), .ref (g.1 15), .ref (g.1 16), .int (M.1 2 3), .ref (g.1 17), .ref (g.1 18), .ref (g.1 19), .ref (g.1 20), .int (M.1 2 8), .ref (g.1 21), .int (M.1 2 10), .int (M.1 2 11), .int (M.1 2 12), .int (M.1 2 13), .int (M.1 2 14), .int (M.1 2 15)])),
  (g.1 3, .inr (2, [.ref (g.1 22), .ref (g.1 23), .ref (g.1 24), .ref (g.1 25), .int (M.1 3 4)])),
  (g.1 4, .inr (4, [.ref (g.1 3), .ref (g.1 2), .ref (g.1 26), .ref (g.1 27), .ref (g.1 28), .ref (g.1 29), .int (M.1 4 6)])),
  (g.1 5, .inr (5, [.ref (g.1 30), .ref (g.1 31), .ref (g.1 32), .int (M.1 5 3), .int (M.1 5 4)])),
  (g.1 6, .inr (9, [.ref (g.1 4), .ref (g.1 5), .ref (g.1 33), .ref (g.1 34), .ref (g.1 35), .ref (g.1 36), .ref (g.1 37), .ref (g.1 38), .ref (g.1 39), .ref (g.1 40), .int (M.1 6 10)])),
  (g.1 7, .inr (7, [.ref (g.1 41), .ref (g.1 42), .ref (g.1 43), .ref (g.1 44), .int (M.1 7 4)])),
  (g.1 8, .inr (3, [.ref (g.1 6), .ref (g.1 7), .ref (g.1 5)])),
  (g.1 9, .inr (0, [.ref (g.1 6), .ref (g.1 45), .ref (g.1 46), .ref (g.1 47)])),
  (g.1 10, .inr (6, [.ref (g.1 6), .ref (g.1 48), .ref (g.1 49), .ref (g.1 50), .int (M.1 10 4), .int (M.1 10 5)])),
  (g.1 11, .inr (11, [.int (M.1 11 0), .ref (g.1 66), .int (M.1 11 2), .int (M.1 11 3), .int (M.1 11 4), .ref (g.1 67), .ref (g.1 68), .int (M.1 11 7), .ref (g.1 69), .ref (g.1 70), .ref (g.1 71), .ref (g.1 72), .int (M.1 11 12), .ref (g.1 73), .ref (g.1 74), .ref (g.1 75), .ref (g.1 76), .int (M.1 11 17), .ref (g.1 77), .ref (g.1 78), .ref (g.1 79), .int (M.1 11 21), .ref (g.1 80), .ref (g.1 81), .int (M.1 11 24), .int (M.1 11 25), .ref (g.1 82), .ref (g.1 83), .ref (g.1 84), .ref (g.1 85), .ref (g.1 86), .ref (g.1 87), .ref (g.1 88), .int (M.1 11 33), .ref (g.1 89), .ref (g.1 90), .ref (g.1 91), .ref (g.1 92), .ref (g.1 93), .int (M.1 11 39), .ref (g.1 94), .ref (g.1 95), .ref (g.1 96), .ref (g.1 97), .int (M.1 11 44), .ref (g.1 98), .ref (g.1 99), .ref (g.1 100), .ref (g.1 101)])),
  (g.1 12, .inl (g.2.2.1 0, 6, .inl (M.1 12))),
  (g.1 13, .inl (g.2.2.1 0, 8, .inl (M.1 13))),
  (g.1 14, .inl (g.2.2.1 0, 12, .inl (M.1 14))),
  (g.1 15, .inl (g.2.2.1 0, 4, .inl (M.1 15))),
  (g.1 16, .inl (g.2.2.1 0, 4, .inl (M.1 16))),
  (g.1 17, .inl (g.2.2.1 0, 60, .inl (M.1 17))),
  (g.1 18, .inl (g.2.2.1 0, 60, .inl (M.1 18))),
  (g.1 19, .inl (g.2.2.1 0, 60, .inl (M.1 19))),
  (g.1 20, .inl (g.2.2.1 0, 60, .inl (M.1 20))),
  (g.1 21, .inl (g.2.2.1 0, 60, .inl (M.1 21))),
  (g.1 22, .inl (g.2.2.1 0, 8, .inl (M.1 22))),
  (g.1 23, .inl (g.2.2.1 0, 48, .inl (M.1 23))),
  (g.1 24, .inl (g.2.2.1 0, 48, .inl (M.1 24))),
  (g.1 25, .inl (g.2.2.1 1, 48, .inl (M.1 25))),
  (g.1 26, .inl (g.2.2.1 0, 40, .inl (M.1 26))),
  (g.1 27, .inl (g.2.2.1 0, 40, .inl (M.1 27))),
  (g.1 28, .inl (g.2.2.1 0, 40, .inl (M.1 28))),
  (g.1 29, .inl (g.2.2.1 0, 240, .inl (M.1 29))),
  (g.1 30, .inl (g.2.2.1 0, 5, .inl (M.1 30))),
  (g.1 31, .inl (g.2.2.1 0, 5, .inl (M.1 31))),
  (g.1 32, .inl (g.2.2.1 0, 60, .inl (M.1 32))),
  (g.1 33, .inl (g.2.2.1 0, 100, .inl (M.1 33))),
  (g.1 34, .inl (g.2.2.1 0, 100, .inl (M.1 34))),
  (g.1 35, .inl (g.2.2.1 0, 100, .inl (M.1 35))),
  (g.1 36, .inl (g.2.2.1 0, 100, .inl (M.1 36))),
  (g.1 37, .inl (g.2.2.1 0, 100, .inl (M.1 37))),
  (g.1 38, .inl (g.2.2.1 0, 100, .inl (M.1 38))),
  (g.1 39, .inl (g.2.2.1 1, 100, .inl (M.1 39))),
  (g.1 40, .inl (g.2.2.1 0, 64, .inl (M.1 40))),
  (g.1 41, .inl (g.2.2.1 0, 60, .inl (M.1 41))),
  (g.1 42, .inl (g.2.2.1 0, 60, .inl (M.1 42))),
  (g.1 43, .inl (g.2.2.1 0, 60, .inl (M.1 43))),
  (g.1 44, .inl (g.2.2.1 0, 4, .inl (M.1 44))),
  (g.1 45, .inl (g.2.2.1 2, 64, .inr (.inl M.2))),
  (g.1 46, .inl (g.2.2.1 0, 64, .inl (M.1 46))),
  (g.1 47, .inl (g.2.2.1 0, 8, .inl (M.1 47))),
  (g.1 48, .inl (g.2.2.1 0, 14, .inl (M.1 48))),
  (g.1 49, .inl (g.2.2.1 1, 14, .inl (M.1 49))),
  (g.1 50, .inl (g.2.2.1 3, 15, .inr (.inr (.inr (.inr (fun i => if i < 15 then some (g.1 (51 + i)) else none)))))),
  (g.1 51, .inl (g.2.2.1 0, 183, .inl (M.1 51))),
  (g.1 52, .inl (g.2.2.1 0, 183, .inl (M.1 52))),
  (g.1 53, .inl (g.2.2.1 0, 183, .inl (M.1 53))),
  (g.1 54, .inl (g.2.2.1 0, 183, .inl (M.1 54))),
  (g.1 55, .inl (g.2.2.1 0, 183, .inl (M.1 55))),
  (g.1 56, .inl (g.2.2.1 0, 183, .inl (M.1 56))),
  (g.1 57, .inl (g.2.2.1 0, 183, .inl (M.1 57))),
  (g.1 58, .inl (g.2.2.1 0, 183, .inl (M.1 58))),
  (g.1 59, .inl (g.2.2.1 0, 183, .inl (M.1 59))),
  (g.1 60, .inl (g.2.2.1 0, 183, .inl (M.1 60))),
  (g.1 61, .inl (g.2.2.1 0, 183, .inl (M.1 61))),
  (g.1 62, .inl (g.2.2.1 0, 183, .inl (M.1 62))),
  (g.1 63, .inl (g.2.2.1 0, 183, .inl (M.1 63))),
  (g.1 64, .inl (g.2.2.1 0, 183, .inl (M.1 64))),
  (g.1 65, .inl (g.2.2.1 0, 183, .inl (M.1 65))),
  (g.1 66, .inl (g.2.2.1 0, 12, .inl (M.1 66))),
  (g.1 67, .inl (g.2.2.1 0, 20, .inl (M.1 67))),
  (g.1 68, .inl (g.2.2.1 0, 20, .inl (M.1 68))),
  (g.1 69, .inl (g.2.2.1 0, 60, .inl (M.1 69))),
  (g.1 70, .inl (g.2.2.1 0, 60, .inl (M.1 70))),
  (g.1 71, .inl (g.2.2.1 0, 60, .inl (M.1 71))),
  (g.1 72, .inl (g.2.2.1 0, 60, .inl (M.1 72))),
  (g.1 73, .inl (g.2.2.1 0, 8, .inl (M.1 73))),
  (g.1 74, .inl (g.2.2.1 0, 48, .inl (M.1 74))),
  (g.1 75, .inl (g.2.2.1 0, 48, .inl (M.1 75))),
  (g.1 76, .inl (g.2.2.1 1, 48, .inl (M.1 76))),
  (g.1 77, .inl (g.2.2.1 0, 40, .inl (M.1 77))),
  (g.1 78, .inl (g.2.2.1 0, 40, .inl (M.1 78))),
  (g.1 79, .inl (g.2.2.1 0, 240, .inl (M.1 79))),
  (g.1 80, .inl (g.2.2.1 0, 5, .inl (M.1 80))),
  (g.1 81, .inl (g.2.2.1 0, 60, .inl (M.1 81))),
  (g.1 82, .inl (g.2.2.1 0, 100, .inl (M.1 82))),
  (g.1 83, .inl (g.2.2.1 0, 100, .inl (M.1 83))),
  (g.1 84, .inl (g.2.2.1 0, 100, .inl (M.1 84))),
  (g.1 85, .inl (g.2.2.1 0, 100, .inl (M.1 85))),
  (g.1 86, .inl (g.2.2.1 0, 100, .inl (M.1 86))),
  (g.1 87, .inl (g.2.2.1 0, 100, .inl (M.1 87))),
  (g.1 88, .inl (g.2.2.1 1, 100, .inl (M.1 88))),
  (g.1 89, .inl (g.2.2.1 0, 60, .inl (M.1 89))),
  (g.1 90, .inl (g.2.2.1 0, 60, .inl (M.1 90))),
  (g.1 91, .inl (g.2.2.1 0, 60, .inl (M.1 91))),
  (g.1 92, .inl (g.2.2.1 0, 60, .inl (M.1 92))),
  (g.1 93, .inl (g.2.2.1 0, 64, .inl (M.1 93))),
  (g.1 94, .inl (g.2.2.1 0, 8, .inl (M.1 94))),
  (g.1 95, .inl (g.2.2.1 0, 6, .inl (M.1 95))),
  (g.1 96, .inl (g.2.2.1 0, 60, .inl (M.1 96))),
  (g.1 97, .inl (g.2.2.1 0, 5, .inl (M.1 97))),
  (g.1 98, .inl (g.2.2.1 1, 8, .inl (M.1 98))),
  (g.1 99, .inl (g.2.2.1 0, 8, .inl (M.1 99))),
  (g.1 100, .inl (g.2.2.1 0, 14, .inl (M.1 100))),
  (g.1 101, .inl (g.2.2.1 0, 14, .inl (M.1 101)))]
def inW (g : Cx) : Nat → Prop := fun q => ∃ k : Nat, k < 102 ∧ q = g.1 k
def DJ (g : Cx) : Prop := ∀ i j : Nat, i < 102 → j < 102 → g.1 i = g.1 j → i = j
theorem wl_ad (g : Cx) (M : Mem) : (wl g M).map (fun p => p.1) = (List.range 102).map g.1 := rfl
theorem wl_at {g : Cx} {M : Mem} {k : Nat} {p : Nat × va_E} (h : (wl g M)[k]? = some p) : k < 102 ∧ p.1 = g.1 k := by
  have h1 : ((wl g M).map (fun p => p.1))[k]? = some p.1 := by rw [List.getElem?_map, h]; rfl
  rw [wl_ad, List.getElem?_map] at h1
  by_cases hk : k < 102
  · rw [List.getElem?_range hk] at h1
    exact ⟨hk, (Option.some.inj h1).symm⟩
  · have hn : (List.range 102)[k]? = none := List.getElem?_eq_none (by rw [List.length_range]; omega)
    rw [hn] at h1
    cases h1
theorem wl_D {g : Cx} (h : DJ g) (M : Mem) : va_D (inW g) (wl g M) := by
  refine ⟨fun i j p q hi hj e => ?_, fun k q hk => ?_⟩
  · obtain ⟨h1, h2⟩ := wl_at hi
    obtain ⟨h3, h4⟩ := wl_at hj
    exact h i j h1 h3 (by rw [← h2, ← h4]; exact e)
  · obtain ⟨h1, h2⟩ := wl_at hk
    exact ⟨k, h1, h2⟩
def tysG (g : Cx) : List (ClassId × FieldType) := [(g.2.2.1 0, .int), (g.2.2.1 1, .boolean), (g.2.2.1 2, .long), (g.2.2.1 3, .array .int)]
/-- an int array of n places at cell q -/
def IA (q n : Nat) : Prop := (∀ (g : Cx) (M : Mem), (wl g M)[q]? = some (g.1 q, .inl (g.2.2.1 0, n, .inl (M.1 q)))) ∧ ∀ (g : Cx) (M : Mem) (i : Nat) (x : Int32), (wl g M).set q (g.1 q, .inl (g.2.2.1 0, n, .inl (upd (M.1 q) i x))) = wl g (up2 M q i x)
def ZA (q n : Nat) : Prop := (∀ (g : Cx) (M : Mem), (wl g M)[q]? = some (g.1 q, .inl (g.2.2.1 1, n, .inl (M.1 q)))) ∧ ∀ (g : Cx) (M : Mem) (i : Nat) (x : Int32), (wl g M).set q (g.1 q, .inl (g.2.2.1 1, n, .inl (upd (M.1 q) i x))) = wl g (up2 M q i x)
def LA (q n : Nat) : Prop := (∀ (g : Cx) (M : Mem), (wl g M)[q]? = some (g.1 q, .inl (g.2.2.1 2, n, .inr (.inl M.2)))) ∧ ∀ (g : Cx) (M : Mem) (i : Nat) (x : Int64), (wl g M).set q (g.1 q, .inl (g.2.2.1 2, n, .inr (.inl (vp_updL M.2 i x)))) = wl g (upL M i x)
def OB (q ci : Nat) (fs : Cx → Mem → List Value) : Prop := ∀ (g : Cx) (M : Mem), (wl g M)[q]? = some (g.1 q, .inr (ci, fs g M))
def PF (q ci j : Nat) (fs : Cx → Mem → List Value) : Prop := ∀ (g : Cx) (M : Mem) (x : Int32), (wl g M).set q (g.1 q, .inr (ci, (fs g M).set j (.int x))) = wl g (up2 M q j x)
theorem ob0 : OB 0 10 fs0 := fun _ _ => rfl
theorem pf0_12 : PF 0 10 12 fs0 := fun _ _ _ => rfl
theorem pf0_13 : PF 0 10 13 fs0 := fun _ _ _ => rfl
theorem ob1 : OB 1 1 fs1 := fun _ _ => rfl
theorem pf1_1 : PF 1 1 1 fs1 := fun _ _ _ => rfl
theorem pf1_2 : PF 1 1 2 fs1 := fun _ _ _ => rfl
theorem pf1_3 : PF 1 1 3 fs1 := fun _ _ _ => rfl
theorem ob2 : OB 2 8 fs2 := fun _ _ => rfl
theorem pf2_3 : PF 2 8 3 fs2 := fun _ _ _ => rfl
theorem pf2_8 : PF 2 8 8 fs2 := fun _ _ _ => rfl
theorem pf2_10 : PF 2 8 10 fs2 := fun _ _ _ => rfl
theorem pf2_11 : PF 2 8 11 fs2 := fun _ _ _ => rfl
theorem pf2_12 : PF 2 8 12 fs2 := fun _ _ _ => rfl
theorem pf2_13 : PF 2 8 13 fs2 := fun _ _ _ => rfl
theorem pf2_14 : PF 2 8 14 fs2 := fun _ _ _ => rfl
theorem pf2_15 : PF 2 8 15 fs2 := fun _ _ _ => rfl
theorem ob3 : OB 3 2 fs3 := fun _ _ => rfl
theorem pf3_4 : PF 3 2 4 fs3 := fun _ _ _ => rfl
theorem ob4 : OB 4 4 fs4 := fun _ _ => rfl
theorem pf4_6 : PF 4 4 6 fs4 := fun _ _ _ => rfl
theorem ob5 : OB 5 5 fs5 := fun _ _ => rfl
theorem pf5_3 : PF 5 5 3 fs5 := fun _ _ _ => rfl
theorem pf5_4 : PF 5 5 4 fs5 := fun _ _ _ => rfl
theorem ob6 : OB 6 9 fs6 := fun _ _ => rfl
theorem pf6_10 : PF 6 9 10 fs6 := fun _ _ _ => rfl
theorem ob7 : OB 7 7 fs7 := fun _ _ => rfl
theorem pf7_4 : PF 7 7 4 fs7 := fun _ _ _ => rfl
theorem ob8 : OB 8 3 fs8 := fun _ _ => rfl
theorem ob9 : OB 9 0 fs9 := fun _ _ => rfl
theorem ob10 : OB 10 6 fs10 := fun _ _ => rfl
theorem pf10_4 : PF 10 6 4 fs10 := fun _ _ _ => rfl
theorem pf10_5 : PF 10 6 5 fs10 := fun _ _ _ => rfl
theorem ob11 : OB 11 11 fs11 := fun _ _ => rfl
theorem pf11_0 : PF 11 11 0 fs11 := fun _ _ _ => rfl
theorem pf11_2 : PF 11 11 2 fs11 := fun _ _ _ => rfl
theorem pf11_3 : PF 11 11 3 fs11 := fun _ _ _ => rfl
theorem pf11_4 : PF 11 11 4 fs11 := fun _ _ _ => rfl
theorem pf11_7 : PF 11 11 7 fs11 := fun _ _ _ => rfl
theorem pf11_12 : PF 11 11 12 fs11 := fun _ _ _ => rfl
theorem pf11_17 : PF 11 11 17 fs11 := fun _ _ _ => rfl
theorem pf11_21 : PF 11 11 21 fs11 := fun _ _ _ => rfl
theorem pf11_24 : PF 11 11 24 fs11 := fun _ _ _ => rfl
theorem pf11_25 : PF 11 11 25 fs11 := fun _ _ _ => rfl
theorem pf11_33 : PF 11 11 33 fs11 := fun _ _ _ => rfl
theorem pf11_39 : PF 11 11 39 fs11 := fun _ _ _ => rfl
theorem pf11_44 : PF 11 11 44 fs11 := fun _ _ _ => rfl
theorem ia12 : IA 12 6 := ⟨fun _ _ => rfl, fun _ _ _ _ => rfl⟩
theorem ia13 : IA 13 8 := ⟨fun _ _ => rfl, fun _ _ _ _ => rfl⟩
theorem ia14 : IA 14 12 := ⟨fun _ _ => rfl, fun _ _ _ _ => rfl⟩
theorem ia15 : IA 15 4 := ⟨fun _ _ => rfl, fun _ _ _ _ => rfl⟩
theorem ia16 : IA 16 4 := ⟨fun _ _ => rfl, fun _ _ _ _ => rfl⟩
theorem ia17 : IA 17 60 := ⟨fun _ _ => rfl, fun _ _ _ _ => rfl⟩
theorem ia18 : IA 18 60 := ⟨fun _ _ => rfl, fun _ _ _ _ => rfl⟩
theorem ia19 : IA 19 60 := ⟨fun _ _ => rfl, fun _ _ _ _ => rfl⟩
theorem ia20 : IA 20 60 := ⟨fun _ _ => rfl, fun _ _ _ _ => rfl⟩
theorem ia21 : IA 21 60 := ⟨fun _ _ => rfl, fun _ _ _ _ => rfl⟩
theorem ia22 : IA 22 8 := ⟨fun _ _ => rfl, fun _ _ _ _ => rfl⟩
theorem ia23 : IA 23 48 := ⟨fun _ _ => rfl, fun _ _ _ _ => rfl⟩
theorem ia24 : IA 24 48 := ⟨fun _ _ => rfl, fun _ _ _ _ => rfl⟩
theorem za25 : ZA 25 48 := ⟨fun _ _ => rfl, fun _ _ _ _ => rfl⟩
theorem ia26 : IA 26 40 := ⟨fun _ _ => rfl, fun _ _ _ _ => rfl⟩
theorem ia27 : IA 27 40 := ⟨fun _ _ => rfl, fun _ _ _ _ => rfl⟩
theorem ia28 : IA 28 40 := ⟨fun _ _ => rfl, fun _ _ _ _ => rfl⟩
theorem ia29 : IA 29 240 := ⟨fun _ _ => rfl, fun _ _ _ _ => rfl⟩
theorem ia30 : IA 30 5 := ⟨fun _ _ => rfl, fun _ _ _ _ => rfl⟩
theorem ia31 : IA 31 5 := ⟨fun _ _ => rfl, fun _ _ _ _ => rfl⟩
theorem ia32 : IA 32 60 := ⟨fun _ _ => rfl, fun _ _ _ _ => rfl⟩
theorem ia33 : IA 33 100 := ⟨fun _ _ => rfl, fun _ _ _ _ => rfl⟩
theorem ia34 : IA 34 100 := ⟨fun _ _ => rfl, fun _ _ _ _ => rfl⟩
theorem ia35 : IA 35 100 := ⟨fun _ _ => rfl, fun _ _ _ _ => rfl⟩
theorem ia36 : IA 36 100 := ⟨fun _ _ => rfl, fun _ _ _ _ => rfl⟩
theorem ia37 : IA 37 100 := ⟨fun _ _ => rfl, fun _ _ _ _ => rfl⟩
theorem ia38 : IA 38 100 := ⟨fun _ _ => rfl, fun _ _ _ _ => rfl⟩
theorem za39 : ZA 39 100 := ⟨fun _ _ => rfl, fun _ _ _ _ => rfl⟩
theorem ia40 : IA 40 64 := ⟨fun _ _ => rfl, fun _ _ _ _ => rfl⟩
theorem ia41 : IA 41 60 := ⟨fun _ _ => rfl, fun _ _ _ _ => rfl⟩
theorem ia42 : IA 42 60 := ⟨fun _ _ => rfl, fun _ _ _ _ => rfl⟩
theorem ia43 : IA 43 60 := ⟨fun _ _ => rfl, fun _ _ _ _ => rfl⟩
theorem ia44 : IA 44 4 := ⟨fun _ _ => rfl, fun _ _ _ _ => rfl⟩
theorem la45 : LA 45 64 := ⟨fun _ _ => rfl, fun _ _ _ _ => rfl⟩
theorem ia46 : IA 46 64 := ⟨fun _ _ => rfl, fun _ _ _ _ => rfl⟩
theorem ia47 : IA 47 8 := ⟨fun _ _ => rfl, fun _ _ _ _ => rfl⟩
theorem ia48 : IA 48 14 := ⟨fun _ _ => rfl, fun _ _ _ _ => rfl⟩
theorem za49 : ZA 49 14 := ⟨fun _ _ => rfl, fun _ _ _ _ => rfl⟩
theorem ia51 : IA 51 183 := ⟨fun _ _ => rfl, fun _ _ _ _ => rfl⟩
theorem ia52 : IA 52 183 := ⟨fun _ _ => rfl, fun _ _ _ _ => rfl⟩
theorem ia53 : IA 53 183 := ⟨fun _ _ => rfl, fun _ _ _ _ => rfl⟩
theorem ia54 : IA 54 183 := ⟨fun _ _ => rfl, fun _ _ _ _ => rfl⟩
theorem ia55 : IA 55 183 := ⟨fun _ _ => rfl, fun _ _ _ _ => rfl⟩
theorem ia56 : IA 56 183 := ⟨fun _ _ => rfl, fun _ _ _ _ => rfl⟩
theorem ia57 : IA 57 183 := ⟨fun _ _ => rfl, fun _ _ _ _ => rfl⟩
theorem ia58 : IA 58 183 := ⟨fun _ _ => rfl, fun _ _ _ _ => rfl⟩
theorem ia59 : IA 59 183 := ⟨fun _ _ => rfl, fun _ _ _ _ => rfl⟩
theorem ia60 : IA 60 183 := ⟨fun _ _ => rfl, fun _ _ _ _ => rfl⟩
theorem ia61 : IA 61 183 := ⟨fun _ _ => rfl, fun _ _ _ _ => rfl⟩
theorem ia62 : IA 62 183 := ⟨fun _ _ => rfl, fun _ _ _ _ => rfl⟩
theorem ia63 : IA 63 183 := ⟨fun _ _ => rfl, fun _ _ _ _ => rfl⟩
theorem ia64 : IA 64 183 := ⟨fun _ _ => rfl, fun _ _ _ _ => rfl⟩
theorem ia65 : IA 65 183 := ⟨fun _ _ => rfl, fun _ _ _ _ => rfl⟩
theorem ia66 : IA 66 12 := ⟨fun _ _ => rfl, fun _ _ _ _ => rfl⟩
theorem ia67 : IA 67 20 := ⟨fun _ _ => rfl, fun _ _ _ _ => rfl⟩
theorem ia68 : IA 68 20 := ⟨fun _ _ => rfl, fun _ _ _ _ => rfl⟩
theorem ia69 : IA 69 60 := ⟨fun _ _ => rfl, fun _ _ _ _ => rfl⟩
theorem ia70 : IA 70 60 := ⟨fun _ _ => rfl, fun _ _ _ _ => rfl⟩
theorem ia71 : IA 71 60 := ⟨fun _ _ => rfl, fun _ _ _ _ => rfl⟩
theorem ia72 : IA 72 60 := ⟨fun _ _ => rfl, fun _ _ _ _ => rfl⟩
theorem ia73 : IA 73 8 := ⟨fun _ _ => rfl, fun _ _ _ _ => rfl⟩
theorem ia74 : IA 74 48 := ⟨fun _ _ => rfl, fun _ _ _ _ => rfl⟩
theorem ia75 : IA 75 48 := ⟨fun _ _ => rfl, fun _ _ _ _ => rfl⟩
theorem za76 : ZA 76 48 := ⟨fun _ _ => rfl, fun _ _ _ _ => rfl⟩
theorem ia77 : IA 77 40 := ⟨fun _ _ => rfl, fun _ _ _ _ => rfl⟩
theorem ia78 : IA 78 40 := ⟨fun _ _ => rfl, fun _ _ _ _ => rfl⟩
theorem ia79 : IA 79 240 := ⟨fun _ _ => rfl, fun _ _ _ _ => rfl⟩
theorem ia80 : IA 80 5 := ⟨fun _ _ => rfl, fun _ _ _ _ => rfl⟩
theorem ia81 : IA 81 60 := ⟨fun _ _ => rfl, fun _ _ _ _ => rfl⟩
theorem ia82 : IA 82 100 := ⟨fun _ _ => rfl, fun _ _ _ _ => rfl⟩
theorem ia83 : IA 83 100 := ⟨fun _ _ => rfl, fun _ _ _ _ => rfl⟩
theorem ia84 : IA 84 100 := ⟨fun _ _ => rfl, fun _ _ _ _ => rfl⟩
theorem ia85 : IA 85 100 := ⟨fun _ _ => rfl, fun _ _ _ _ => rfl⟩
theorem ia86 : IA 86 100 := ⟨fun _ _ => rfl, fun _ _ _ _ => rfl⟩
theorem ia87 : IA 87 100 := ⟨fun _ _ => rfl, fun _ _ _ _ => rfl⟩
theorem za88 : ZA 88 100 := ⟨fun _ _ => rfl, fun _ _ _ _ => rfl⟩
theorem ia89 : IA 89 60 := ⟨fun _ _ => rfl, fun _ _ _ _ => rfl⟩
theorem ia90 : IA 90 60 := ⟨fun _ _ => rfl, fun _ _ _ _ => rfl⟩
theorem ia91 : IA 91 60 := ⟨fun _ _ => rfl, fun _ _ _ _ => rfl⟩
theorem ia92 : IA 92 60 := ⟨fun _ _ => rfl, fun _ _ _ _ => rfl⟩
theorem ia93 : IA 93 64 := ⟨fun _ _ => rfl, fun _ _ _ _ => rfl⟩
theorem ia94 : IA 94 8 := ⟨fun _ _ => rfl, fun _ _ _ _ => rfl⟩
theorem ia95 : IA 95 6 := ⟨fun _ _ => rfl, fun _ _ _ _ => rfl⟩
theorem ia96 : IA 96 60 := ⟨fun _ _ => rfl, fun _ _ _ _ => rfl⟩
theorem ia97 : IA 97 5 := ⟨fun _ _ => rfl, fun _ _ _ _ => rfl⟩
theorem za98 : ZA 98 8 := ⟨fun _ _ => rfl, fun _ _ _ _ => rfl⟩
theorem ia99 : IA 99 8 := ⟨fun _ _ => rfl, fun _ _ _ _ => rfl⟩
theorem ia100 : IA 100 14 := ⟨fun _ _ => rfl, fun _ _ _ _ => rfl⟩
theorem ia101 : IA 101 14 := ⟨fun _ _ => rfl, fun _ _ _ _ => rfl⟩
theorem iaW {i : Nat} (h : i < 15) : IA (51 + i) 183 := by
  rcases (show i = 0 ∨ i = 1 ∨ i = 2 ∨ i = 3 ∨ i = 4 ∨ i = 5 ∨ i = 6 ∨ i = 7 ∨ i = 8 ∨ i = 9 ∨ i = 10 ∨ i = 11 ∨ i = 12 ∨ i = 13 ∨ i = 14 by omega) with rfl | rfl | rfl | rfl | rfl | rfl | rfl | rfl | rfl | rfl | rfl | rfl | rfl | rfl | rfl
  · exact ia51
  · exact ia52
  · exact ia53
  · exact ia54
  · exact ia55
  · exact ia56
  · exact ia57
  · exact ia58
  · exact ia59
  · exact ia60
  · exact ia61
  · exact ia62
  · exact ia63
  · exact ia64
  · exact ia65
theorem waW : ∀ (g : Cx) (M : Mem), (wl g M)[50]? = some (g.1 50, .inl (g.2.2.1 3, 15, .inr (.inr (.inr (.inr (fun i => if i < 15 then some (g.1 (51 + i)) else none)))))) := fun _ _ => rfl
end
section
/-! THE JUDGEMENTS: a frame of a method over a memory (AT), a method's contract (CT) -/
def gd : List Cond := lw_tbl.filter goodWord
theorem gd_good {w : Cond} (h : w ∈ gd) : w ∈ gd ∧ ((w.onTables && w.keeps) = true ∨ ∃ ty, w = .arrayClass ty) := ⟨h, good_of_word (List.mem_filter.mp h).2⟩
theorem gd_t {w : Cond} (i : Nat) (h : tables_1[i]? = some w ∧ goodWord w = true) : w ∈ gd := List.mem_filter.mpr ⟨List.mem_append_right _ (List.mem_of_getElem? h.1), h.2⟩
theorem gd_p {w : Cond} (i : Nat) (h : (k2_sels lw_privs)[i]? = some w ∧ goodWord w = true) : w ∈ gd := List.mem_filter.mpr ⟨List.mem_append_left _ (List.mem_of_getElem? h.1), h.2⟩
def tbA (j : Nat) : Int32 := [-1, 0, 1, 0].getD j 0
def tbG (j : Nat) : Int32 := [100, 52, 100, 100, 100].getD j 0
def tbW (j : Nat) : Int32 := [115, 104, 97, 114, 101, 107, 101, 101, 112, 0, 119, 97, 105, 116, 0, 102, 114, 101, 101, 0, 115, 117, 114, 101, 0].getD j 0
def sLen : List Nat := [5, 4, 4, 4, 4]
def sByt : List (List Int32) := [[115, 104, 97, 114, 101], [107, 101, 101, 112], [119, 97, 105, 116], [102, 114, 101, 101], [115, 117, 114, 101]]
def nestW : List Cond := [.methodLinkNest RX1 22 yX10_isWithin "BenchTimes", .methodLinkNest RX2 29 yX10_isWithin "BenchTimes", .methodLinkNest RX5 80 yX10_isWithin "BenchTimes", .methodLinkNest RX9 84 yX10_isWithin "BenchTimes", .methodLinkNest RX3 52 yX10_isIn "BenchTimes"]
/-- statics, texts and links of nest mates: what no method writes -/
def ST (g : Cx) (A : Nat → Prop) (U : State) (H : Heap) : Prop :=
  (va_Z "BenchTimes$Elements" "ABOVE" "[I" (.ref (g.2.2.2.1 0)) A U H ∧ va_T .int (g.2.2.2.1 0) 4 (fun j => .int (tbA j)) A U H) ∧
  (va_Z "BenchTimes$Rules" "GREATEST" "[I" (.ref (g.2.2.2.1 1)) A U H ∧ va_T .int (g.2.2.2.1 1) 5 (fun j => .int (tbG j)) A U H) ∧
  (va_Z "BenchTimesModel" "WORDS" "[I" (.ref (g.2.2.2.1 2)) A U H ∧ va_T .int (g.2.2.2.1 2) 25 (fun j => .int (tbW j)) A U H) ∧
  va_Z "java/lang/String" "COMPACT_STRINGS" "Z" (.int 1) A U H ∧
  vk_S 5 sLen sByt g.2.2.2.2.1 g.2.2.2.2.2 A U H ∧
  (vk_R "BenchTimes$Rules" 84 "share" (g.2.2.2.2.1 0) U ∧ vk_R "BenchTimes$Rules" 86 "keep" (g.2.2.2.2.1 1) U ∧ vk_R "BenchTimes$Rules" 88 "wait" (g.2.2.2.2.1 2) U ∧ vk_R "BenchTimes$Rules" 90 "free" (g.2.2.2.2.1 3) U ∧ vk_R "BenchTimes$Rules" 92 "sure" (g.2.2.2.2.1 4) U) ∧
  (∀ w ∈ nestW, va_Nw w U)
theorem ST.go {g : Cx} {A : Nat → Prop} {s U : State} {H : Heap} (hW : s.WarmedH U.vm) (h : ST g A s s.heap) (hq : ∀ a : Nat, a < s.heap.size → ¬ A a → H[a]? = s.heap[a]?) : ST g A U H := by
  obtain ⟨⟨a1, a2⟩, ⟨b1, b2⟩, ⟨c1, c2⟩, d1, e1, ⟨f1, f2, f3, f4, f5⟩, n1⟩ := h
  have hA := hW.alike
  refine ⟨⟨(a1.kept hq).moved hA, (a2.kept hq).moved hA⟩, ⟨(b1.kept hq).moved hA, (b2.kept hq).moved hA⟩, ⟨(c1.kept hq).moved hA, (c2.kept hq).moved hA⟩, (d1.kept hq).moved hA, (e1.kept hq).moved hA, ⟨f1.warm hW, f2.warm hW, f3.warm hW, f4.warm hW, f5.warm hW⟩, fun w hw => ?_⟩
  have hn := n1 w hw
  simp only [nestW, List.mem_cons, List.not_mem_nil, or_false] at hw
  rcases hw with rfl | rfl | rfl | rfl | rfl <;> exact va_Nw.warmM hW hn
theorem ST.same {g : Cx} {A : Nat → Prop} {u U : State} {H : Heap} (hv : U.vm = u.vm) (h : ST g A u H) : ST g A U H := by
  obtain ⟨⟨a1, a2⟩, ⟨b1, b2⟩, ⟨c1, c2⟩, d1, e1, ⟨f1, f2, f3, f4, f5⟩, n1⟩ := h
  have hA : u.vm.Alike U.vm := by rw [hv]; exact Vm.Alike.refl u.vm
  refine ⟨⟨a1.moved hA, a2.moved hA⟩, ⟨b1.moved hA, b2.moved hA⟩, ⟨c1.moved hA, c2.moved hA⟩, d1.moved hA, e1.moved hA, ⟨f1.same hv, f2.same hv, f3.same hv, f4.same hv, f5.same hv⟩, fun w hw => ?_⟩
  have hn := n1 w hw
  simp only [nestW, List.mem_cons, List.not_mem_nil, or_false] at hw
  rcases hw with rfl | rfl | rfl | rfl | rfl <;> exact va_Nw.same rfl hv.symm hn
def lvA : Nat → List (Option Value) → List (Nat × Value)
  | _, [] => []
  | i, none :: t => lvA (i + 1) t
  | i, some v :: t => (i, v) :: lvA (i + 1) t
def CF (p : Program) (s : State) (m : MethodId) (args : Array Value) (meth : Method) (c : Code) (g : Cx) (own : String) (cc : ByteArray) (nL : Nat) (ret : Option FieldType) : Prop :=
  p.tables.exec = Jvm.exec ∧ c.code = cc ∧ meth.sig.returnType = ret ∧ c.maxLocals = nL ∧ s.vm.findClass own = some m.cls ∧ meth.locks = false ∧ (∀ w ∈ gd, w.before args s = true) ∧ va_K g.2.1 cls (tysG g) s ∧ DJ g ∧ ST g (inW g) s s.heap
def QC (g : Cx) (P : Option Value → Mem → Prop) : Array Value → State → Outcome → State → Prop := fun _ st o t => (∃ (r : Option Value) (M' : Mem), o = .returned r ∧ P r M' ∧ va_P g.2.1 cls (wl g M') t.heap) ∧ va_F (inW g) st t
def AT (l : Launch) (g : Cx) (own : String) (cc : ByteArray) (nL : Nat) (ret : Option FieldType) (R : Room) (P : Option Value → Mem → Prop) (pc : Nat) (lv : List (Option Value)) (st : List Value) (M : Mem) : Prop :=
  ∀ (p : Program) (e : Env) (s : State) (m : MethodId) (args : Array Value) (below : List Frame) (meth : Method) (c : Code) (H : Heap) (locs : List Loc) (ls : Array Slot),
    CF p s m args meth c g own cc nL ret → va_P g.2.1 cls (wl g M) H → va_S (inW g) s.heap H locs → lv_has ls nL (lvA 0 lv) →
    W p l e R s m args below meth c H locs 0 0 (MQ below (QC g P) args s 0 0 (inW g)) (F0 m pc ls st)
abbrev rmM (fr lo : Nat) : Room := { frames := fr, cells := 0, slots := 0, locals := lo }
def CT (l : Launch) (g : Cx) (y : MethodName) (cc : ByteArray) (nL : Nat) (ret : Option FieldType) (fr lo : Nat) (as : List Value) (M : Mem) (P : Option Value → Mem → Prop) : Prop :=
  Met l y (.code y cc nL ret :: gd) (rmM fr lo) (va_Pc as (fun U => va_P g.2.1 cls (wl g M) U.heap ∧ va_K g.2.1 cls (tysG g) U ∧ DJ g ∧ ST g (inW g) U U.heap)) (QC g P) 0 0 (inW g)
theorem CT_of {l : Launch} {g : Cx} {y : MethodName} {cc : ByteArray} {nL : Nat} {ret : Option FieldType} {fr lo : Nat} {as : List Value} {M : Mem} {P : Option Value → Mem → Prop} {lv : List (Option Value)} (hy : plainName y.cls = true) (hlv : lv_args 0 as = lvA 0 lv) (hn : (lg_sl as).length ≤ nL)
    (h : AT l g y.cls cc nL ret (rmM fr lo) P 0 lv [] M) : CT l g y cc nL ret fr lo as M P := by
  refine Met.ofW (cc := cc) (maxL := nL) (ret := ret) hy rfl ?_
  intro p e s m args below meth c s₁ B hml hv
  obtain ⟨rfl, hP, hK, hJ, hT⟩ := hv
  have hts := atoms_spec (ws := Cond.code y cc nL ret :: gd) B.pre
  have hown : s.vm.findClass y.cls = some m.cls := findClass_of_methodNamed B.named
  have hl := lv_entry as (n := nL) hn
  rw [lg_entry_eq]
  rw [hlv] at hl
  exact h p e s m _ below meth c s.heap [] _ ⟨B.exec, B.bytes, B.returns, hml, hown, B.notSynchronized, fun w hw => hts w (List.mem_cons_of_mem _ hw), hK, hJ, hT⟩ hP va_S.rf hl
theorem CT.mono {l : Launch} {g : Cx} {y : MethodName} {cc : ByteArray} {nL : Nat} {ret : Option FieldType} {fr lo : Nat} {as : List Value} {M : Mem} {P P' : Option Value → Mem → Prop} (h : CT l g y cc nL ret fr lo as M P) (hp : ∀ r M', P r M' → P' r M') : CT l g y cc nL ret fr lo as M P' := by
  intro p e ha hc hk s m args below hf hfit hheap happ
  obtain ⟨k, o, h1, h2, h3, ⟨⟨r, M', q1, q2, q3⟩, q4⟩, h5⟩ := h p e ha hc hk s m args below hf hfit hheap happ
  exact ⟨k, o, h1, h2, h3, ⟨⟨r, M', q1, hp r M' q2, q3⟩, q4⟩, h5⟩
def lvLe : List (Option Value) → List (Option Value) → Prop
  | [], _ => True
  | none :: a, b => lvLe a b.tail
  | some v :: a, b => b.head? = some (some v) ∧ lvLe a b.tail
theorem lvLe_0 {b : List (Option Value)} : lvLe [] b := trivial
theorem lvLe_n {a b : List (Option Value)} {x : Option Value} (h : lvLe a b) : lvLe (none :: a) (x :: b) := h
theorem lvLe_s {a b : List (Option Value)} {v : Value} (h : lvLe a b) : lvLe (some v :: a) (some v :: b) := ⟨rfl, h⟩
theorem lvA_le : ∀ (a b : List (Option Value)) (i : Nat), lvLe a b → ∀ q ∈ lvA i a, q ∈ lvA i b
  | [], _, _, _, q, hq => by cases hq
  | none :: a, b, i, h, q, hq => by
    cases b with
    | nil =>
      have h1 := lvA_le a [] (i + 1) h q hq
      cases h1
    | cons x t =>
      have h1 := lvA_le a t (i + 1) h q hq
      cases x with
      | none => exact h1
      | some w => exact List.mem_cons_of_mem _ h1
  | some v :: a, b, i, h, q, hq => by
    cases b with
    | nil => exact absurd h.1 (by simp)
    | cons x t =>
      obtain ⟨hx, ht⟩ := h
      cases (Option.some.inj hx : x = some v)
      rcases List.mem_cons.mp hq with rfl | h2
      · exact List.mem_cons_self
      · exact List.mem_cons_of_mem _ (lvA_le a t (i + 1) ht q h2)
theorem lvA_at : ∀ (a : List (Option Value)) (i k : Nat) (v : Value), a[k]? = some (some v) → (i + k, v) ∈ lvA i a
  | [], _, k, _, h => by simp at h
  | x :: t, i, 0, v, h => by
    have hx : x = some v := by simpa using h
    subst hx
    exact List.mem_cons_self
  | x :: t, i, k + 1, v, h => by
    have h1 := lvA_at t (i + 1) k v (by simpa using h)
    rw [show i + (k + 1) = i + 1 + k by omega]
    cases x with
    | none => exact h1
    | some w => exact List.mem_cons_of_mem _ h1
/-- what stands in the list behind a store: the new value, and what was there and isn't touched -/
theorem lvA_in : ∀ (a : List (Option Value)) (i : Nat) (q : Nat × Value), q ∈ lvA i a → i ≤ q.1 ∧ a[q.1 - i]? = some (some q.2)
  | [], _, q, h => by cases h
  | x :: t, i, q, h => by
    cases x with
    | none =>
      obtain ⟨h1, h2⟩ := lvA_in t (i + 1) q h
      refine ⟨by omega, ?_⟩
      rw [show q.1 - i = (q.1 - (i + 1)) + 1 by omega]
      simpa using h2
    | some w =>
      rcases List.mem_cons.mp h with rfl | h
      · exact ⟨Nat.le_refl _, by simp⟩
      · obtain ⟨h1, h2⟩ := lvA_in t (i + 1) q h
        refine ⟨by omega, ?_⟩
        rw [show q.1 - i = (q.1 - (i + 1)) + 1 by omega]
        simpa using h2
def okp : Option Value → Bool
  | some v => v.category != 2
  | none => true
theorem lv_keep1 {lv : List (Option Value)} {k : Nat} {v : Value} (hp : ∀ x, k ≠ 0 → lv[k - 1]? = some x → okp x = true) : ∀ q ∈ lvA 0 (lv.set k (some v)), q ∈ (k, v) :: (lvA 0 lv).filter (fun q => !(q.1 == k) && !(q.1 + 1 == k && q.2.category == 2)) := by
  intro q hq
  obtain ⟨-, h⟩ := lvA_in _ 0 q hq
  rw [Nat.sub_zero] at h
  by_cases hk : q.1 = k
  · have hl : k < lv.length := by
      have := (List.getElem?_eq_some_iff.mp h).1
      rw [List.length_set] at this
      omega
    rw [hk, List.getElem?_set_self hl] at h
    have hv : v = q.2 := by simpa using h
    rw [show q = (k, v) from Prod.ext hk hv.symm]
    exact List.mem_cons_self
  · rw [List.getElem?_set_ne (Ne.symm hk)] at h
    refine List.mem_cons_of_mem _ (List.mem_filter.mpr ⟨?_, ?_⟩)
    · have := lvA_at lv 0 q.1 q.2 h
      simpa using this
    · by_cases hk1 : q.1 + 1 = k
      · have h2 := hp (some q.2) (by omega) (by rw [show k - 1 = q.1 by omega]; exact h)
        simp only [okp] at h2
        have h3 : (q.1 == k) = false := by simpa using hk
        have h4 : (q.2.category == 2) = false := by simpa using h2
        simp [h3, h4]
      · have h3 : (q.1 == k) = false := by simpa using hk
        have h4 : (q.1 + 1 == k) = false := by simpa using hk1
        simp [h3, h4]
theorem lv_keep2 {lv : List (Option Value)} {k : Nat} {v : Value} (hp : ∀ x, k ≠ 0 → lv[k - 1]? = some x → okp x = true) : ∀ q ∈ lvA 0 ((lv.set k (some v)).set (k + 1) none), q ∈ (k, v) :: (lvA 0 lv).filter (fun q => !(q.1 == k) && (!(q.1 == k + 1) && !(q.1 + 1 == k && q.2.category == 2))) := by
  intro q hq
  obtain ⟨-, h⟩ := lvA_in _ 0 q hq
  rw [Nat.sub_zero] at h
  by_cases hk2 : q.1 = k + 1
  · exfalso
    have hl := (List.getElem?_eq_some_iff.mp h).1
    rw [List.length_set, hk2] at hl
    rw [hk2, List.getElem?_set_self hl] at h
    cases h
  rw [List.getElem?_set_ne (Ne.symm hk2)] at h
  by_cases hk : q.1 = k
  · have hl : k < lv.length := by
      have := (List.getElem?_eq_some_iff.mp h).1
      rw [List.length_set] at this
      omega
    rw [hk, List.getElem?_set_self hl] at h
    have hv : v = q.2 := by simpa using h
    rw [show q = (k, v) from Prod.ext hk hv.symm]
    exact List.mem_cons_self
  · rw [List.getElem?_set_ne (Ne.symm hk)] at h
    refine List.mem_cons_of_mem _ (List.mem_filter.mpr ⟨?_, ?_⟩)
    · have := lvA_at lv 0 q.1 q.2 h
      simpa using this
    · have h3 : (q.1 == k) = false := by simpa using hk
      have h5 : (q.1 == k + 1) = false := by simpa using hk2
      by_cases hk1 : q.1 + 1 = k
      · have h2 := hp (some q.2) (by omega) (by rw [show k - 1 = q.1 by omega]; exact h)
        simp only [okp] at h2
        have h4 : (q.2.category == 2) = false := by simpa using h2
        simp [h3, h4, h5]
      · have h4 : (q.1 + 1 == k) = false := by simpa using hk1
        simp [h3, h4, h5]
theorem lv_more {ls : Array Slot} {nL : Nat} {a b : List (Nat × Value)} (h : lv_has ls nL b) (hs : ∀ q ∈ a, q ∈ b) : lv_has ls nL a := ⟨h.1, h.2.1, fun q hq => h.2.2 q (hs q hq)⟩
end
section
/-! ROWS of AT: an instruction each -/
def di (cc : ByteArray) (pc : Nat) (i : Instr) (len n : Nat) : Prop := decode cc pc = .ok (i, len) ∧ pc + len = n
def dj (cc : ByteArray) (pc : Nat) (mk : Int → Instr) (n tgt : Nat) : Prop := ∃ off : Int, decode cc pc = .ok (mk off, 3) ∧ pc + 3 = n ∧ (pc : Int) + off = (tgt : Int)
def FW (own : String) (idx ci j : Nat) : Prop := ∃ (C : String) (T : u_T) (N : Nat), cls[ci]? = some (C, T, N) ∧ j < N ∧ Cond.fieldLink own idx (T j).1 (T j).2.1 (T j).2.2.1 ∈ gd ∧ (∀ w ∈ u_ws C T N, w ∈ gd)
def PW (own : String) (idx ci j : Nat) : Prop := ∃ (C : String) (T : u_T) (N : Nat) (ty0 : Nat → FieldType), cls[ci]? = some (C, T, N) ∧ j < N ∧ Cond.fieldLink own idx (T j).1 (T j).2.1 (T j).2.2.1 ∈ gd ∧ (∀ w ∈ u_ws C T N, w ∈ gd) ∧ (∀ k, k < N → parseFieldDescriptor (T k).2.2.1 = some (ty0 k)) ∧ (∀ a, a < N → ∀ b, b < N → a ≠ b → (T a).2.1 ≠ (T b).2.1) ∧ (T j).2.2.2 = false ∧ parseFieldDescriptor (T j).2.2.1 = some .int
section ROWS
variable {l : Launch} {g : Cx} {own : String} {cc : ByteArray} {nL : Nat} {ret : Option FieldType} {R : Room} {P : Option Value → Mem → Prop} {pc n : Nat} {lv : List (Option Value)} {st : List Value} {M : Mem}
theorem A_iconst {z : Int} {v : Int32} (hd : di cc pc (.iconst z) 1 n) (hv : Int32.ofInt z = v) (k : AT l g own cc nL ret R P n lv (.int v :: st) M) : AT l g own cc nL ret R P pc lv (st) M := fun p e s m args below meth c H locs ls C hP hS hl => by
  obtain ⟨hd, rfl⟩ := hd
  exact lv_iconst C.1 C.2.1 hd hv (k p e s m args below meth c H locs ls C hP hS hl)
theorem A_bipush {z : Int} {v : Int32} (hd : di cc pc (.bipush z) 2 n) (hv : (Int8.ofInt z).toInt32 = v) (k : AT l g own cc nL ret R P n lv (.int v :: st) M) : AT l g own cc nL ret R P pc lv (st) M := fun p e s m args below meth c H locs ls C hP hS hl => by
  obtain ⟨hd, rfl⟩ := hd
  exact lv_bipush C.1 C.2.1 hd hv (k p e s m args below meth c H locs ls C hP hS hl)
theorem A_sipush {z : Int} {v : Int32} (hd : di cc pc (.sipush z) 3 n) (hv : (Int16.ofInt z).toInt32 = v) (k : AT l g own cc nL ret R P n lv (.int v :: st) M) : AT l g own cc nL ret R P pc lv (st) M := fun p e s m args below meth c H locs ls C hP hS hl => by
  obtain ⟨hd, rfl⟩ := hd
  exact lv_sipush C.1 C.2.1 hd hv (k p e s m args below meth c H locs ls C hP hS hl)
theorem A_lconst {z : Fin 2} {v : Int64} (hd : di cc pc (.lconst z) 1 n) (hv : Int64.ofNat (z : Nat) = v) (k : AT l g own cc nL ret R P n lv (.long v :: st) M) : AT l g own cc nL ret R P pc lv (st) M := fun p e s m args below meth c H locs ls C hP hS hl => by
  obtain ⟨hd, rfl⟩ := hd
  exact lv_lconst C.1 C.2.1 hd hv (k p e s m args below meth c H locs ls C hP hS hl)
theorem A_iload_n {i : Fin 4} {x : Int32} (hd : di cc pc (.iload_n i) 1 n) (hi : lv[(i : Nat)]? = some (some (.int x))) (k : AT l g own cc nL ret R P n lv (.int x :: st) M) : AT l g own cc nL ret R P pc lv st M := fun p e s m args below meth c H locs ls C hP hS hl => by
  obtain ⟨hd, rfl⟩ := hd
  have hq := hl.2.2 _ (lvA_at lv 0 _ _ hi)
  rw [Nat.zero_add] at hq
  exact lv_iload_n C.1 C.2.1 hd rfl hq (k p e s m args below meth c H locs ls C hP hS hl)
theorem A_iload {i : Nat} {x : Int32} (hd : di cc pc (.iload i) 2 n) (hi : lv[i]? = some (some (.int x))) (k : AT l g own cc nL ret R P n lv (.int x :: st) M) : AT l g own cc nL ret R P pc lv st M := fun p e s m args below meth c H locs ls C hP hS hl => by
  obtain ⟨hd, rfl⟩ := hd
  have hq := hl.2.2 _ (lvA_at lv 0 _ _ hi)
  rw [Nat.zero_add] at hq
  exact lv_iload C.1 C.2.1 hd hq (k p e s m args below meth c H locs ls C hP hS hl)
theorem A_lload_n {i : Fin 4} {x : Int64} (hd : di cc pc (.lload_n i) 1 n) (hi : lv[(i : Nat)]? = some (some (.long x))) (k : AT l g own cc nL ret R P n lv (.long x :: st) M) : AT l g own cc nL ret R P pc lv st M := fun p e s m args below meth c H locs ls C hP hS hl => by
  obtain ⟨hd, rfl⟩ := hd
  have hq := hl.2.2 _ (lvA_at lv 0 _ _ hi)
  rw [Nat.zero_add] at hq
  exact lv_lload_n C.1 C.2.1 hd rfl hq (k p e s m args below meth c H locs ls C hP hS hl)
theorem A_lload {i : Nat} {x : Int64} (hd : di cc pc (.lload i) 2 n) (hi : lv[i]? = some (some (.long x))) (k : AT l g own cc nL ret R P n lv (.long x :: st) M) : AT l g own cc nL ret R P pc lv st M := fun p e s m args below meth c H locs ls C hP hS hl => by
  obtain ⟨hd, rfl⟩ := hd
  have hq := hl.2.2 _ (lvA_at lv 0 _ _ hi)
  rw [Nat.zero_add] at hq
  exact lv_lload C.1 C.2.1 hd hq (k p e s m args below meth c H locs ls C hP hS hl)
theorem A_aload_n {i : Fin 4} {x : Nat} (hd : di cc pc (.aload_n i) 1 n) (hi : lv[(i : Nat)]? = some (some (.ref x))) (k : AT l g own cc nL ret R P n lv (.ref x :: st) M) : AT l g own cc nL ret R P pc lv st M := fun p e s m args below meth c H locs ls C hP hS hl => by
  obtain ⟨hd, rfl⟩ := hd
  have hq := hl.2.2 _ (lvA_at lv 0 _ _ hi)
  rw [Nat.zero_add] at hq
  exact lv_aload_n C.1 C.2.1 hd rfl hq (k p e s m args below meth c H locs ls C hP hS hl)
theorem A_aload {i : Nat} {x : Nat} (hd : di cc pc (.aload i) 2 n) (hi : lv[i]? = some (some (.ref x))) (k : AT l g own cc nL ret R P n lv (.ref x :: st) M) : AT l g own cc nL ret R P pc lv st M := fun p e s m args below meth c H locs ls C hP hS hl => by
  obtain ⟨hd, rfl⟩ := hd
  have hq := hl.2.2 _ (lvA_at lv 0 _ _ hi)
  rw [Nat.zero_add] at hq
  exact lv_aload C.1 C.2.1 hd hq (k p e s m args below meth c H locs ls C hP hS hl)
theorem A_istore_n {i : Fin 4} {x : Int32} (hd : di cc pc (.istore_n i) 1 n) (hn : (i : Nat) < nL) (hp : ∀ x, (i : Nat) ≠ 0 → lv[(i : Nat) - 1]? = some x → okp x = true) (k : AT l g own cc nL ret R P n (lv.set (i : Nat) (some (.int x))) st M) : AT l g own cc nL ret R P pc lv (.int x :: st) M := fun p e s m args below meth c H locs ls C hP hS hl => by
  obtain ⟨hd, rfl⟩ := hd
  exact lv_istore_n C.1 C.2.1 hd rfl hl hn rfl (fun ls2 hl2 => k p e s m args below meth c H locs ls2 C hP hS (lv_more hl2 (lv_keep1 hp)))
theorem A_istore {i : Nat} {x : Int32} (hd : di cc pc (.istore i) 2 n) (hn : i < nL) (hp : ∀ x, i ≠ 0 → lv[i - 1]? = some x → okp x = true) (k : AT l g own cc nL ret R P n (lv.set i (some (.int x))) st M) : AT l g own cc nL ret R P pc lv (.int x :: st) M := fun p e s m args below meth c H locs ls C hP hS hl => by
  obtain ⟨hd, rfl⟩ := hd
  exact lv_istore C.1 C.2.1 hd hl hn rfl (fun ls2 hl2 => k p e s m args below meth c H locs ls2 C hP hS (lv_more hl2 (lv_keep1 hp)))
theorem A_lstore_n {i : Fin 4} {x : Int64} (hd : di cc pc (.lstore_n i) 1 n) (hn : (i : Nat) + 1 < nL) (hp : ∀ x, (i : Nat) ≠ 0 → lv[(i : Nat) - 1]? = some x → okp x = true) (k : AT l g own cc nL ret R P n ((lv.set (i : Nat) (some (.long x))).set ((i : Nat) + 1) none) st M) : AT l g own cc nL ret R P pc lv (.long x :: st) M := fun p e s m args below meth c H locs ls C hP hS hl => by
  obtain ⟨hd, rfl⟩ := hd
  exact lv_lstore_n C.1 C.2.1 hd rfl hl hn rfl (fun ls2 hl2 => k p e s m args below meth c H locs ls2 C hP hS (lv_more hl2 (lv_keep2 hp)))
theorem A_lstore {i : Nat} {x : Int64} (hd : di cc pc (.lstore i) 2 n) (hn : i + 1 < nL) (hp : ∀ x, i ≠ 0 → lv[i - 1]? = some x → okp x = true) (k : AT l g own cc nL ret R P n ((lv.set i (some (.long x))).set (i + 1) none) st M) : AT l g own cc nL ret R P pc lv (.long x :: st) M := fun p e s m args below meth c H locs ls C hP hS hl => by
  obtain ⟨hd, rfl⟩ := hd
  exact lv_lstore C.1 C.2.1 hd hl hn rfl (fun ls2 hl2 => k p e s m args below meth c H locs ls2 C hP hS (lv_more hl2 (lv_keep2 hp)))
theorem A_astore_n {i : Fin 4} {x : Nat} (hd : di cc pc (.astore_n i) 1 n) (hn : (i : Nat) < nL) (hp : ∀ x, (i : Nat) ≠ 0 → lv[(i : Nat) - 1]? = some x → okp x = true) (k : AT l g own cc nL ret R P n (lv.set (i : Nat) (some (.ref x))) st M) : AT l g own cc nL ret R P pc lv (.ref x :: st) M := fun p e s m args below meth c H locs ls C hP hS hl => by
  obtain ⟨hd, rfl⟩ := hd
  exact lv_astore_n C.1 C.2.1 hd rfl hl hn rfl (fun ls2 hl2 => k p e s m args below meth c H locs ls2 C hP hS (lv_more hl2 (lv_keep1 hp)))
theorem A_iinc {i : Nat} {z : Int} {x d : Int32} (hd : di cc pc (.iinc i z) 3 n) (hi : lv[i]? = some (some (.int x))) (hv : Int32.ofInt z = d) (hn : i < nL) (hp : ∀ x, i ≠ 0 → lv[i - 1]? = some x → okp x = true) (k : AT l g own cc nL ret R P n (lv.set i (some (.int (x + d)))) st M) : AT l g own cc nL ret R P pc lv st M := fun p e s m args below meth c H locs ls C hP hS hl => by
  obtain ⟨hd, rfl⟩ := hd
  have hq := lvA_at lv 0 _ _ hi
  rw [Nat.zero_add] at hq
  obtain ⟨k0, hk0⟩ := List.getElem?_of_mem hq
  exact lv_iinc C.1 C.2.1 hd hl hk0 (by rw [hv]) hn rfl (fun ls2 hl2 => k p e s m args below meth c H locs ls2 C hP hS (lv_more hl2 (lv_keep1 hp)))
theorem A_iadd {x y : Int32} (hd : di cc pc (.iadd) 1 n) (k : AT l g own cc nL ret R P n lv (.int (x + y) :: st) M) : AT l g own cc nL ret R P pc lv (.int y :: .int x :: st) M := fun p e s m args below meth c H locs ls C hP hS hl => by
  obtain ⟨hd, rfl⟩ := hd
  exact lv_iadd C.1 C.2.1 hd (k p e s m args below meth c H locs ls C hP hS hl)
theorem A_isub {x y : Int32} (hd : di cc pc (.isub) 1 n) (k : AT l g own cc nL ret R P n lv (.int (x - y) :: st) M) : AT l g own cc nL ret R P pc lv (.int y :: .int x :: st) M := fun p e s m args below meth c H locs ls C hP hS hl => by
  obtain ⟨hd, rfl⟩ := hd
  exact lv_isub C.1 C.2.1 hd (k p e s m args below meth c H locs ls C hP hS hl)
theorem A_imul {x y : Int32} (hd : di cc pc (.imul) 1 n) (k : AT l g own cc nL ret R P n lv (.int (x * y) :: st) M) : AT l g own cc nL ret R P pc lv (.int y :: .int x :: st) M := fun p e s m args below meth c H locs ls C hP hS hl => by
  obtain ⟨hd, rfl⟩ := hd
  exact lv_imul C.1 C.2.1 hd (k p e s m args below meth c H locs ls C hP hS hl)
theorem A_iand {x y : Int32} (hd : di cc pc (.iand) 1 n) (k : AT l g own cc nL ret R P n lv (.int (x &&& y) :: st) M) : AT l g own cc nL ret R P pc lv (.int y :: .int x :: st) M := fun p e s m args below meth c H locs ls C hP hS hl => by
  obtain ⟨hd, rfl⟩ := hd
  exact lv_iand C.1 C.2.1 hd (k p e s m args below meth c H locs ls C hP hS hl)
theorem A_ior {x y : Int32} (hd : di cc pc (.ior) 1 n) (k : AT l g own cc nL ret R P n lv (.int (x ||| y) :: st) M) : AT l g own cc nL ret R P pc lv (.int y :: .int x :: st) M := fun p e s m args below meth c H locs ls C hP hS hl => by
  obtain ⟨hd, rfl⟩ := hd
  exact lv_ior C.1 C.2.1 hd (k p e s m args below meth c H locs ls C hP hS hl)
theorem A_ishl {x y : Int32} (hd : di cc pc (.ishl) 1 n) (k : AT l g own cc nL ret R P n lv (.int (x <<< (y &&& 31)) :: st) M) : AT l g own cc nL ret R P pc lv (.int y :: .int x :: st) M := fun p e s m args below meth c H locs ls C hP hS hl => by
  obtain ⟨hd, rfl⟩ := hd
  exact lv_ishl C.1 C.2.1 hd (k p e s m args below meth c H locs ls C hP hS hl)
theorem A_ishr {x y : Int32} (hd : di cc pc (.ishr) 1 n) (k : AT l g own cc nL ret R P n lv (.int (x >>> (y &&& 31)) :: st) M) : AT l g own cc nL ret R P pc lv (.int y :: .int x :: st) M := fun p e s m args below meth c H locs ls C hP hS hl => by
  obtain ⟨hd, rfl⟩ := hd
  exact lv_ishr C.1 C.2.1 hd (k p e s m args below meth c H locs ls C hP hS hl)
theorem A_idiv {x y : Int32} (hd : di cc pc (.idiv) 1 n) (hne : ¬ y = 0) (k : AT l g own cc nL ret R P n lv (.int (x / y) :: st) M) : AT l g own cc nL ret R P pc lv (.int y :: .int x :: st) M := fun p e s m args below meth c H locs ls C hP hS hl => by
  obtain ⟨hd, rfl⟩ := hd
  exact lv_idiv C.1 C.2.1 hd hne (k p e s m args below meth c H locs ls C hP hS hl)
theorem A_irem {x y : Int32} (hd : di cc pc (.irem) 1 n) (hne : ¬ y = 0) (k : AT l g own cc nL ret R P n lv (.int (x - x / y * y) :: st) M) : AT l g own cc nL ret R P pc lv (.int y :: .int x :: st) M := fun p e s m args below meth c H locs ls C hP hS hl => by
  obtain ⟨hd, rfl⟩ := hd
  exact lv_irem C.1 C.2.1 hd hne (k p e s m args below meth c H locs ls C hP hS hl)
theorem A_ineg {x : Int32} (hd : di cc pc (.ineg) 1 n) (k : AT l g own cc nL ret R P n lv (.int (-x) :: st) M) : AT l g own cc nL ret R P pc lv (.int x :: st) M := fun p e s m args below meth c H locs ls C hP hS hl => by
  obtain ⟨hd, rfl⟩ := hd
  exact lv_ineg C.1 C.2.1 hd (k p e s m args below meth c H locs ls C hP hS hl)
theorem A_ladd {x y : Int64} (hd : di cc pc (.ladd) 1 n) (k : AT l g own cc nL ret R P n lv (.long (x + y) :: st) M) : AT l g own cc nL ret R P pc lv (.long y :: .long x :: st) M := fun p e s m args below meth c H locs ls C hP hS hl => by
  obtain ⟨hd, rfl⟩ := hd
  exact lv_ladd C.1 C.2.1 hd (k p e s m args below meth c H locs ls C hP hS hl)
theorem A_lsub {x y : Int64} (hd : di cc pc (.lsub) 1 n) (k : AT l g own cc nL ret R P n lv (.long (x - y) :: st) M) : AT l g own cc nL ret R P pc lv (.long y :: .long x :: st) M := fun p e s m args below meth c H locs ls C hP hS hl => by
  obtain ⟨hd, rfl⟩ := hd
  exact lv_lsub C.1 C.2.1 hd (k p e s m args below meth c H locs ls C hP hS hl)
theorem A_lmul {x y : Int64} (hd : di cc pc (.lmul) 1 n) (k : AT l g own cc nL ret R P n lv (.long (x * y) :: st) M) : AT l g own cc nL ret R P pc lv (.long y :: .long x :: st) M := fun p e s m args below meth c H locs ls C hP hS hl => by
  obtain ⟨hd, rfl⟩ := hd
  exact lv_lmul C.1 C.2.1 hd (k p e s m args below meth c H locs ls C hP hS hl)
theorem A_ldiv {x y : Int64} (hd : di cc pc (.ldiv) 1 n) (hne : ¬ y = 0) (k : AT l g own cc nL ret R P n lv (.long (x / y) :: st) M) : AT l g own cc nL ret R P pc lv (.long y :: .long x :: st) M := fun p e s m args below meth c H locs ls C hP hS hl => by
  obtain ⟨hd, rfl⟩ := hd
  exact lv_ldiv C.1 C.2.1 hd hne (k p e s m args below meth c H locs ls C hP hS hl)
theorem A_i2l {x : Int32} (hd : di cc pc (.i2l) 1 n) (k : AT l g own cc nL ret R P n lv (.long x.toInt64 :: st) M) : AT l g own cc nL ret R P pc lv (.int x :: st) M := fun p e s m args below meth c H locs ls C hP hS hl => by
  obtain ⟨hd, rfl⟩ := hd
  exact lv_i2l C.1 C.2.1 hd rfl (k p e s m args below meth c H locs ls C hP hS hl)
theorem A_l2i {x : Int64} (hd : di cc pc (.l2i) 1 n) (k : AT l g own cc nL ret R P n lv (.int x.toInt32 :: st) M) : AT l g own cc nL ret R P pc lv (.long x :: st) M := fun p e s m args below meth c H locs ls C hP hS hl => by
  obtain ⟨hd, rfl⟩ := hd
  exact lv_l2i C.1 C.2.1 hd rfl (k p e s m args below meth c H locs ls C hP hS hl)
theorem A_i2c {x : Int32} (hd : di cc pc (.i2c) 1 n) (k : AT l g own cc nL ret R P n lv (.int (x.toUInt32 % 65536).toInt32 :: st) M) : AT l g own cc nL ret R P pc lv (.int x :: st) M := fun p e s m args below meth c H locs ls C hP hS hl => by
  obtain ⟨hd, rfl⟩ := hd
  exact lv_i2c C.1 C.2.1 hd rfl (k p e s m args below meth c H locs ls C hP hS hl)
theorem A_lcmp {x y : Int64} (hd : di cc pc (.lcmp) 1 n) (k : AT l g own cc nL ret R P n lv (.int (lg_cmp x y) :: st) M) : AT l g own cc nL ret R P pc lv (.long y :: .long x :: st) M := fun p e s m args below meth c H locs ls C hP hS hl => by
  obtain ⟨hd, rfl⟩ := hd
  exact W.lcmp C.1 C.2.1 hd (k p e s m args below meth c H locs ls C hP hS hl)
theorem A_dup {v : Value} (hd : di cc pc (.dup) 1 n) (hv : v.category = 1) (k : AT l g own cc nL ret R P n lv (v :: v :: st) M) : AT l g own cc nL ret R P pc lv (v :: st) M := fun p e s m args below meth c H locs ls C hP hS hl => by
  obtain ⟨hd, rfl⟩ := hd
  exact lv_dup C.1 C.2.1 hd hv (k p e s m args below meth c H locs ls C hP hS hl)
theorem A_pop {v : Value} (hd : di cc pc (.pop) 1 n) (hv : v.category = 1) (k : AT l g own cc nL ret R P n lv (st) M) : AT l g own cc nL ret R P pc lv (v :: st) M := fun p e s m args below meth c H locs ls C hP hS hl => by
  obtain ⟨hd, rfl⟩ := hd
  exact lv_pop C.1 C.2.1 hd hv (k p e s m args below meth c H locs ls C hP hS hl)
theorem A_dup2 {v w : Value} (hd : di cc pc (.dup2) 1 n) (hv : v.category = 1) (hw : w.category = 1) (k : AT l g own cc nL ret R P n lv (v :: w :: v :: w :: st) M) : AT l g own cc nL ret R P pc lv (v :: w :: st) M := fun p e s m args below meth c H locs ls C hP hS hl => by
  obtain ⟨hd, rfl⟩ := hd
  exact lv_dup2_11 C.1 C.2.1 hd hv hw (k p e s m args below meth c H locs ls C hP hS hl)
theorem A_ldc {idx : Nat} {v : Int32} (hd : di cc pc (.ldc idx) 2 n) (hw : Cond.constant own idx v ∈ gd) (k : AT l g own cc nL ret R P n lv (.int v :: st) M) : AT l g own cc nL ret R P pc lv (st) M := fun p e s m args below meth c H locs ls C hP hS hl => by
  obtain ⟨hd, rfl⟩ := hd
  exact lv_ldc C.1 C.2.1 C.2.2.2.2.1 (C.2.2.2.2.2.2.1 _ hw) hd (k p e s m args below meth c H locs ls C hP hS hl)
theorem A_ldcw {idx : Nat} {v : Int32} (hd : di cc pc (.ldc_w idx) 3 n) (hw : Cond.constant own idx v ∈ gd) (k : AT l g own cc nL ret R P n lv (.int v :: st) M) : AT l g own cc nL ret R P pc lv (st) M := fun p e s m args below meth c H locs ls C hP hS hl => by
  obtain ⟨hd, rfl⟩ := hd
  exact lv_ldcw C.1 C.2.1 C.2.2.2.2.1 (C.2.2.2.2.2.2.1 _ hw) hd (k p e s m args below meth c H locs ls C hP hS hl)
theorem A_ldc2 {idx : Nat} {v : Int64} (hd : di cc pc (.ldc2_w idx) 3 n) (hw : Cond.constantLong own idx v ∈ gd) (k : AT l g own cc nL ret R P n lv (.long v :: st) M) : AT l g own cc nL ret R P pc lv (st) M := fun p e s m args below meth c H locs ls C hP hS hl => by
  obtain ⟨hd, rfl⟩ := hd
  exact lv_ldc2 C.1 C.2.1 C.2.2.2.2.1 (C.2.2.2.2.2.2.1 _ hw) hd (k p e s m args below meth c H locs ls C hP hS hl)
theorem A_icmp_eq {x y : Int32} {tgt : Nat} (hd : dj cc pc (.if_icmp .eq) n tgt) (kt : x = y → AT l g own cc nL ret R P tgt lv st M) (kf : ¬ x = y → AT l g own cc nL ret R P n lv st M) : AT l g own cc nL ret R P pc lv (.int y :: .int x :: st) M := fun p e s m args below meth c H locs ls C hP hS hl => by
  obtain ⟨off, hd, rfl, ht⟩ := hd
  exact lv_icmp_eq C.1 C.2.1 hd ht (fun h => kt h p e s m args below meth c H locs ls C hP hS hl) (fun h => kf h p e s m args below meth c H locs ls C hP hS hl)
theorem A_icmp_ne {x y : Int32} {tgt : Nat} (hd : dj cc pc (.if_icmp .ne) n tgt) (kt : ¬ x = y → AT l g own cc nL ret R P tgt lv st M) (kf : x = y → AT l g own cc nL ret R P n lv st M) : AT l g own cc nL ret R P pc lv (.int y :: .int x :: st) M := fun p e s m args below meth c H locs ls C hP hS hl => by
  obtain ⟨off, hd, rfl, ht⟩ := hd
  exact lv_icmp_ne C.1 C.2.1 hd ht (fun h => kt h p e s m args below meth c H locs ls C hP hS hl) (fun h => kf h p e s m args below meth c H locs ls C hP hS hl)
theorem A_icmp_lt {x y : Int32} {tgt : Nat} (hd : dj cc pc (.if_icmp .lt) n tgt) (kt : x < y → AT l g own cc nL ret R P tgt lv st M) (kf : ¬ x < y → AT l g own cc nL ret R P n lv st M) : AT l g own cc nL ret R P pc lv (.int y :: .int x :: st) M := fun p e s m args below meth c H locs ls C hP hS hl => by
  obtain ⟨off, hd, rfl, ht⟩ := hd
  exact lv_icmp_lt C.1 C.2.1 hd ht (fun h => kt h p e s m args below meth c H locs ls C hP hS hl) (fun h => kf h p e s m args below meth c H locs ls C hP hS hl)
theorem A_icmp_ge {x y : Int32} {tgt : Nat} (hd : dj cc pc (.if_icmp .ge) n tgt) (kt : y ≤ x → AT l g own cc nL ret R P tgt lv st M) (kf : ¬ y ≤ x → AT l g own cc nL ret R P n lv st M) : AT l g own cc nL ret R P pc lv (.int y :: .int x :: st) M := fun p e s m args below meth c H locs ls C hP hS hl => by
  obtain ⟨off, hd, rfl, ht⟩ := hd
  exact lv_icmp_ge C.1 C.2.1 hd ht (fun h => kt h p e s m args below meth c H locs ls C hP hS hl) (fun h => kf h p e s m args below meth c H locs ls C hP hS hl)
theorem A_icmp_gt {x y : Int32} {tgt : Nat} (hd : dj cc pc (.if_icmp .gt) n tgt) (kt : y < x → AT l g own cc nL ret R P tgt lv st M) (kf : ¬ y < x → AT l g own cc nL ret R P n lv st M) : AT l g own cc nL ret R P pc lv (.int y :: .int x :: st) M := fun p e s m args below meth c H locs ls C hP hS hl => by
  obtain ⟨off, hd, rfl, ht⟩ := hd
  exact lv_icmp_gt C.1 C.2.1 hd ht (fun h => kt h p e s m args below meth c H locs ls C hP hS hl) (fun h => kf h p e s m args below meth c H locs ls C hP hS hl)
theorem A_icmp_le {x y : Int32} {tgt : Nat} (hd : dj cc pc (.if_icmp .le) n tgt) (kt : x ≤ y → AT l g own cc nL ret R P tgt lv st M) (kf : ¬ x ≤ y → AT l g own cc nL ret R P n lv st M) : AT l g own cc nL ret R P pc lv (.int y :: .int x :: st) M := fun p e s m args below meth c H locs ls C hP hS hl => by
  obtain ⟨off, hd, rfl, ht⟩ := hd
  exact lv_icmp_le C.1 C.2.1 hd ht (fun h => kt h p e s m args below meth c H locs ls C hP hS hl) (fun h => kf h p e s m args below meth c H locs ls C hP hS hl)
theorem A_if_eq {x : Int32} {tgt : Nat} (hd : dj cc pc (.ifCond .eq) n tgt) (kt : x = 0 → AT l g own cc nL ret R P tgt lv st M) (kf : ¬ x = 0 → AT l g own cc nL ret R P n lv st M) : AT l g own cc nL ret R P pc lv (.int x :: st) M := fun p e s m args below meth c H locs ls C hP hS hl => by
  obtain ⟨off, hd, rfl, ht⟩ := hd
  exact lv_if_eq C.1 C.2.1 hd ht (fun h => kt h p e s m args below meth c H locs ls C hP hS hl) (fun h => kf h p e s m args below meth c H locs ls C hP hS hl)
theorem A_if_ne {x : Int32} {tgt : Nat} (hd : dj cc pc (.ifCond .ne) n tgt) (kt : ¬ x = 0 → AT l g own cc nL ret R P tgt lv st M) (kf : x = 0 → AT l g own cc nL ret R P n lv st M) : AT l g own cc nL ret R P pc lv (.int x :: st) M := fun p e s m args below meth c H locs ls C hP hS hl => by
  obtain ⟨off, hd, rfl, ht⟩ := hd
  exact lv_if_ne C.1 C.2.1 hd ht (fun h => kt h p e s m args below meth c H locs ls C hP hS hl) (fun h => kf h p e s m args below meth c H locs ls C hP hS hl)
theorem A_if_lt {x : Int32} {tgt : Nat} (hd : dj cc pc (.ifCond .lt) n tgt) (kt : x < 0 → AT l g own cc nL ret R P tgt lv st M) (kf : ¬ x < 0 → AT l g own cc nL ret R P n lv st M) : AT l g own cc nL ret R P pc lv (.int x :: st) M := fun p e s m args below meth c H locs ls C hP hS hl => by
  obtain ⟨off, hd, rfl, ht⟩ := hd
  exact lv_if_lt C.1 C.2.1 hd ht (fun h => kt h p e s m args below meth c H locs ls C hP hS hl) (fun h => kf h p e s m args below meth c H locs ls C hP hS hl)
theorem A_if_ge {x : Int32} {tgt : Nat} (hd : dj cc pc (.ifCond .ge) n tgt) (kt : 0 ≤ x → AT l g own cc nL ret R P tgt lv st M) (kf : ¬ 0 ≤ x → AT l g own cc nL ret R P n lv st M) : AT l g own cc nL ret R P pc lv (.int x :: st) M := fun p e s m args below meth c H locs ls C hP hS hl => by
  obtain ⟨off, hd, rfl, ht⟩ := hd
  exact lv_if_ge C.1 C.2.1 hd ht (fun h => kt h p e s m args below meth c H locs ls C hP hS hl) (fun h => kf h p e s m args below meth c H locs ls C hP hS hl)
theorem A_if_gt {x : Int32} {tgt : Nat} (hd : dj cc pc (.ifCond .gt) n tgt) (kt : 0 < x → AT l g own cc nL ret R P tgt lv st M) (kf : ¬ 0 < x → AT l g own cc nL ret R P n lv st M) : AT l g own cc nL ret R P pc lv (.int x :: st) M := fun p e s m args below meth c H locs ls C hP hS hl => by
  obtain ⟨off, hd, rfl, ht⟩ := hd
  exact lv_if_gt C.1 C.2.1 hd ht (fun h => kt h p e s m args below meth c H locs ls C hP hS hl) (fun h => kf h p e s m args below meth c H locs ls C hP hS hl)
theorem A_if_le {x : Int32} {tgt : Nat} (hd : dj cc pc (.ifCond .le) n tgt) (kt : x ≤ 0 → AT l g own cc nL ret R P tgt lv st M) (kf : ¬ x ≤ 0 → AT l g own cc nL ret R P n lv st M) : AT l g own cc nL ret R P pc lv (.int x :: st) M := fun p e s m args below meth c H locs ls C hP hS hl => by
  obtain ⟨off, hd, rfl, ht⟩ := hd
  exact lv_if_le C.1 C.2.1 hd ht (fun h => kt h p e s m args below meth c H locs ls C hP hS hl) (fun h => kf h p e s m args below meth c H locs ls C hP hS hl)
theorem A_goto {tgt : Nat} (hd : dj cc pc .goto n tgt) (k : AT l g own cc nL ret R P tgt lv st M) : AT l g own cc nL ret R P pc lv st M := fun p e s m args below meth c H locs ls C hP hS hl => by
  obtain ⟨off, hd, rfl, ht⟩ := hd
  exact lv_goto C.1 C.2.1 hd ht (k p e s m args below meth c H locs ls C hP hS hl)
theorem A_le {lv' : List (Option Value)} (h : lvLe lv' lv) (k : AT l g own cc nL ret R P pc lv' st M) : AT l g own cc nL ret R P pc lv st M := fun p e s m args below meth c H locs ls C hP hS hl => k p e s m args below meth c H locs ls C hP hS (lv_more hl (lvA_le _ _ 0 h))
def dts (cc : ByteArray) (pc : Nat) (lo hi : Int) (dfl : Nat) (tg : List Nat) : Prop := ∃ (d : Int) (offs : Array Int) (len : Nat), decode cc pc = .ok (.tableswitch d lo hi offs, len) ∧ (pc : Int) + d = (dfl : Int) ∧ offs.toList.map (fun z => (pc : Int) + z) = tg.map (fun t : Nat => (t : Int))
theorem A_tsIn {x : Int32} {lo hi : Int} {dfl tgt k0 : Nat} {tg : List Nat} (hd : dts cc pc lo hi dfl tg) (hx : ¬ x.toInt < lo ∧ ¬ hi < x.toInt ∧ (x.toInt - lo).toNat = k0) (ht : tg[k0]? = some tgt) (k : AT l g own cc nL ret R P tgt lv st M) : AT l g own cc nL ret R P pc lv (.int x :: st) M := fun p e s m args below meth c H locs ls C hP hS hl => by
  obtain ⟨d, offs, len, hd, h0, h1⟩ := hd
  have h2 : (offs.toList.map (fun z => (pc : Int) + z))[k0]? = some (tgt : Int) := by rw [h1, List.getElem?_map, ht]; rfl
  rw [List.getElem?_map] at h2
  cases ho : offs.toList[k0]? with
  | none => rw [ho] at h2; cases h2
  | some off =>
    rw [ho] at h2
    exact lv_tableIn C.1 C.2.1 hd hx.1 hx.2.1 (by rw [hx.2.2, ← Array.getElem?_toList]; exact ho) (Option.some.inj h2) (k p e s m args below meth c H locs ls C hP hS hl)
theorem A_tsOut {x : Int32} {lo hi : Int} {dfl : Nat} {tg : List Nat} (hd : dts cc pc lo hi dfl tg) (hx : x.toInt < lo ∨ hi < x.toInt) (k : AT l g own cc nL ret R P dfl lv st M) : AT l g own cc nL ret R P pc lv (.int x :: st) M := fun p e s m args below meth c H locs ls C hP hS hl => by
  obtain ⟨d, offs, len, hd, h0, h1⟩ := hd
  exact lv_tableOut C.1 C.2.1 hd hx h0 (k p e s m args below meth c H locs ls C hP hS hl)
theorem tsw_out {x : Int32} {lo hi : Int} (h : ∀ k : Int, lo ≤ k → k ≤ hi → ¬ x = Int32.ofInt k) : x.toInt < lo ∨ hi < x.toInt := by
  rcases Int.lt_or_le x.toInt lo with h1 | h1
  · exact Or.inl h1
  · rcases Int.lt_or_le hi x.toInt with h2 | h2
    · exact Or.inr h2
    · exact absurd (Int32.ofInt_toInt x).symm (h x.toInt h1 h2)
theorem A_getf {idx ci j q : Nat} {fs : Cx → Mem → List Value} {v : Value} (hd : di cc pc (.getfield idx) 3 n) (hf : FW own idx ci j) (hq : OB q ci fs) (hv : (fs g M)[j]? = some v) (k : AT l g own cc nL ret R P n lv (v :: st) M) : AT l g own cc nL ret R P pc lv (.ref (g.1 q) :: st) M := fun p e s m args below meth c H locs ls C hP hS hl => by
  obtain ⟨hd, rfl⟩ := hd
  obtain ⟨CC, T, N, h1, h2, h3, h4⟩ := hf
  exact va_get (D := g.2.1) (cl := cls) C.1 C.2.1 C.2.2.2.2.2.2.1 h4 C.2.2.2.2.1 C.2.2.2.2.2.2.2.1 hP q (hq g M) h1 j h2 (C.2.2.2.2.2.2.1 _ h3) (fun _ h => h) hv hd (k p e s m args below meth c H locs ls C hP hS hl)
theorem A_putf {idx ci j q : Nat} {fs : Cx → Mem → List Value} {x : Int32} (hd : di cc pc (.putfield idx) 3 n) (hf : PW own idx ci j) (hq : OB q ci fs) (hs : PF q ci j fs) (hj : j < (fs g M).length) (k : AT l g own cc nL ret R P n lv st (up2 M q j x)) : AT l g own cc nL ret R P pc lv (.int x :: .ref (g.1 q) :: st) M := fun p e s m args below meth c H locs ls C hP hS hl => by
  obtain ⟨hd, rfl⟩ := hd
  obtain ⟨CC, T, N, ty0, h1, h2, h3, h4, h5, h6, h7, h8⟩ := hf
  refine va_put (D := g.2.1) (cl := cls) (ty := .int) C.1 C.2.1 C.2.2.2.2.2.2.1 h4 ty0 h5 h6 C.2.2.2.2.1 C.2.2.2.2.2.2.2.1 hP (wl_D C.2.2.2.2.2.2.2.2.1 M) hS q (hq g M) h1 j h2 (C.2.2.2.2.2.2.1 _ h3) (fun _ h => h) h7 h8 rfl rfl hj hd (fun H1 locs1 hP1 hD1 hS1 => ?_)
  rw [hs g M x] at hP1
  exact k p e s m args below meth c H1 locs1 ls C hP1 hS1 hl
theorem A_iald {q N : Nat} {i : Int32} (hd : di cc pc .iaload 1 n) (hq : IA q N) (hi : vp_in i N) (k : AT l g own cc nL ret R P n lv (.int (M.1 q i.toNatClampNeg) :: st) M) : AT l g own cc nL ret R P pc lv (.int i :: .ref (g.1 q) :: st) M := fun p e s m args below meth c H locs ls C hP hS hl => by
  obtain ⟨hd, rfl⟩ := hd
  exact va_iald C.1 C.2.1 C.2.2.2.2.2.2.2.1 hP q 0 (hq.1 g M) rfl hi hd (k p e s m args below meth c H locs ls C hP hS hl)
theorem A_zald {q N : Nat} {i : Int32} (hd : di cc pc .baload 1 n) (hq : ZA q N) (hi : vp_in i N) (k : AT l g own cc nL ret R P n lv (.int (M.1 q i.toNatClampNeg) :: st) M) : AT l g own cc nL ret R P pc lv (.int i :: .ref (g.1 q) :: st) M := fun p e s m args below meth c H locs ls C hP hS hl => by
  obtain ⟨hd, rfl⟩ := hd
  exact va_zald C.1 C.2.1 C.2.2.2.2.2.2.2.1 hP q 1 (hq.1 g M) rfl hi hd (k p e s m args below meth c H locs ls C hP hS hl)
theorem A_lald {q N : Nat} {i : Int32} (hd : di cc pc .laload 1 n) (hq : LA q N) (hi : vp_in i N) (k : AT l g own cc nL ret R P n lv (.long (M.2 i.toNatClampNeg) :: st) M) : AT l g own cc nL ret R P pc lv (.int i :: .ref (g.1 q) :: st) M := fun p e s m args below meth c H locs ls C hP hS hl => by
  obtain ⟨hd, rfl⟩ := hd
  exact va_lald C.1 C.2.1 C.2.2.2.2.2.2.2.1 hP q 2 (hq.1 g M) rfl hi hd (k p e s m args below meth c H locs ls C hP hS hl)
theorem A_iast {q N : Nat} {i x : Int32} (hd : di cc pc .iastore 1 n) (hq : IA q N) (hi : vp_in i N) (k : AT l g own cc nL ret R P n lv st (up2 M q i.toNatClampNeg x)) : AT l g own cc nL ret R P pc lv (.int x :: .int i :: .ref (g.1 q) :: st) M := fun p e s m args below meth c H locs ls C hP hS hl => by
  obtain ⟨hd, rfl⟩ := hd
  refine va_iast C.1 C.2.1 C.2.2.2.2.2.2.2.1 hP (wl_D C.2.2.2.2.2.2.2.2.1 M) hS q 0 (hq.1 g M) rfl hi hd (fun H1 locs1 hP1 hD1 hS1 => ?_)
  rw [hq.2 g M] at hP1
  exact k p e s m args below meth c H1 locs1 ls C hP1 hS1 hl
theorem A_zast {q N : Nat} {i x : Int32} (hd : di cc pc .bastore 1 n) (hq : ZA q N) (hi : vp_in i N) (k : AT l g own cc nL ret R P n lv st (up2 M q i.toNatClampNeg (x &&& 1))) : AT l g own cc nL ret R P pc lv (.int x :: .int i :: .ref (g.1 q) :: st) M := fun p e s m args below meth c H locs ls C hP hS hl => by
  obtain ⟨hd, rfl⟩ := hd
  refine va_zast C.1 C.2.1 C.2.2.2.2.2.2.2.1 hP (wl_D C.2.2.2.2.2.2.2.2.1 M) hS q 1 (hq.1 g M) rfl hi hd (fun H1 locs1 hP1 hD1 hS1 => ?_)
  rw [hq.2 g M] at hP1
  exact k p e s m args below meth c H1 locs1 ls C hP1 hS1 hl
theorem A_last {q N : Nat} {i : Int32} {x : Int64} (hd : di cc pc .lastore 1 n) (hq : LA q N) (hi : vp_in i N) (k : AT l g own cc nL ret R P n lv st (upL M i.toNatClampNeg x)) : AT l g own cc nL ret R P pc lv (.long x :: .int i :: .ref (g.1 q) :: st) M := fun p e s m args below meth c H locs ls C hP hS hl => by
  obtain ⟨hd, rfl⟩ := hd
  refine va_last C.1 C.2.1 C.2.2.2.2.2.2.2.1 hP (wl_D C.2.2.2.2.2.2.2.2.1 M) hS q 2 (hq.1 g M) rfl hi hd (fun H1 locs1 hP1 hD1 hS1 => ?_)
  rw [hq.2 g M] at hP1
  exact k p e s m args below meth c H1 locs1 ls C hP1 hS1 hl
theorem A_alen {q N : Nat} {v : Int32} (hd : di cc pc .arraylength 1 n) (hq : IA q N) (hv : Int32.ofNat N = v) (k : AT l g own cc nL ret R P n lv (.int v :: st) M) : AT l g own cc nL ret R P pc lv (.ref (g.1 q) :: st) M := fun p e s m args below meth c H locs ls C hP hS hl => by
  obtain ⟨hd, rfl⟩ := hd
  exact va_alen C.1 C.2.1 C.2.2.2.2.2.2.2.1 hP q 0 (hq.1 g M) (ty := .int) rfl hv hd (k p e s m args below meth c H locs ls C hP hS hl)
theorem A_alenL {q N : Nat} {v : Int32} (hd : di cc pc .arraylength 1 n) (hq : LA q N) (hv : Int32.ofNat N = v) (k : AT l g own cc nL ret R P n lv (.int v :: st) M) : AT l g own cc nL ret R P pc lv (.ref (g.1 q) :: st) M := fun p e s m args below meth c H locs ls C hP hS hl => by
  obtain ⟨hd, rfl⟩ := hd
  exact va_alen C.1 C.2.1 C.2.2.2.2.2.2.2.1 hP q 2 (hq.1 g M) (ty := .long) rfl hv hd (k p e s m args below meth c H locs ls C hP hS hl)
/-- a row of the table of ways -/
theorem A_aald {i : Int32} (hd : di cc pc .aaload 1 n) (hi : vp_in i 15) (k : AT l g own cc nL ret R P n lv (.ref (g.1 (51 + i.toNatClampNeg)) :: st) M) : AT l g own cc nL ret R P pc lv (.int i :: .ref (g.1 50) :: st) M := fun p e s m args below meth c H locs ls C hP hS hl => by
  obtain ⟨hd, rfl⟩ := hd
  have hlt : i.toNatClampNeg < 15 := Nat.not_le.mp fun q => hi (Or.inr q)
  have hK := C.2.2.2.2.2.2.2.1
  have hv : va_rf ((fun i => if i < 15 then some (g.1 (51 + i)) else none) i.toNatClampNeg) = .ref (g.1 (51 + i.toNatClampNeg)) := by
    show va_rf (if i.toNatClampNeg < 15 then some (g.1 (51 + i.toNatClampNeg)) else none) = _
    rw [if_pos hlt]; rfl
  have hk := k p e s m args below meth c H locs ls C hP hS hl
  rw [← hv] at hk
  exact W.aald (v := va_rf ((fun i => if i < 15 then some (g.1 (51 + i)) else none) i.toNatClampNeg)) (ty := .array .int) C.1 C.2.1 (hP 50 _ (waW g M)) ((hK.2 3 _ rfl).1 15 (fun j => va_rf ((fun i => if i < 15 then some (g.1 (51 + i)) else none) j))) rfl (fun q => by cases q) (by show ¬ (i < 0 ∨ (arrV _ _ _).slots.size ≤ _); rw [arrV_size]; exact hi) (by show (arrV _ _ _).slots[_]? = _; rw [arrV_read _ _ hlt]) rfl rfl hd hk
/-- a static that nobody writes -/
theorem A_gets {idx : Nat} {Cn nm d : String} {v : Value} (hd : di cc pc (.getstatic idx) 3 n) (hw : Cond.fieldLink own idx Cn nm d ∈ gd) (hz : ∀ (A : Nat → Prop) (U : State) (H : Heap), ST g A U H → va_Z Cn nm d v A U H) (k : AT l g own cc nL ret R P n lv (v :: st) M) : AT l g own cc nL ret R P pc lv st M := fun p e s m args below meth c H locs ls C hP hS hl => by
  obtain ⟨hd, rfl⟩ := hd
  exact va_gets C.1 C.2.1 (hz _ _ _ C.2.2.2.2.2.2.2.2.2) hS C.2.2.2.2.1 (C.2.2.2.2.2.2.1 _ hw) (fun _ h => h) hd (k p e s m args below meth c H locs ls C hP hS hl)
theorem A_tald {t N : Nat} {f : Nat → Int32} {i : Int32} (hd : di cc pc .iaload 1 n) (hz : ∀ (A : Nat → Prop) (U : State) (H : Heap), ST g A U H → va_T .int t N (fun j => .int (f j)) A U H) (hi : vp_in i N) (k : AT l g own cc nL ret R P n lv (.int (f i.toNatClampNeg) :: st) M) : AT l g own cc nL ret R P pc lv (.int i :: .ref t :: st) M := fun p e s m args below meth c H locs ls C hP hS hl => by
  obtain ⟨hd, rfl⟩ := hd
  exact va_ti C.1 C.2.1 (hz _ _ _ C.2.2.2.2.2.2.2.2.2) hS hi rfl hd (k p e s m args below meth c H locs ls C hP hS hl)
theorem A_tlen {t N : Nat} {f : Nat → Int32} {v : Int32} (hd : di cc pc .arraylength 1 n) (hz : ∀ (A : Nat → Prop) (U : State) (H : Heap), ST g A U H → va_T .int t N (fun j => .int (f j)) A U H) (hv : Int32.ofNat N = v) (k : AT l g own cc nL ret R P n lv (.int v :: st) M) : AT l g own cc nL ret R P pc lv (.ref t :: st) M := fun p e s m args below meth c H locs ls C hP hS hl => by
  obtain ⟨hd, rfl⟩ := hd
  exact va_tlen C.1 C.2.1 (hz _ _ _ C.2.2.2.2.2.2.2.2.2) hS hv hd (k p e s m args below meth c H locs ls C hP hS hl)
theorem A_iret {v : Int32} (hd : di cc pc .ireturn 1 n) (h : P (some (.int v)) M) : AT l g own cc nL (some .int) R P pc lv [.int v] M := fun p e s m args below meth c H locs ls C hP hS hl => by
  obtain ⟨hd, rfl⟩ := hd
  exact W.iret C.1 C.2.1 C.2.2.1 (fun t ht hW => ⟨⟨_, M, rfl, h, by rw [ht]; exact hP⟩, hS.F ht⟩) hS.2.2 hd (hlocks := C.2.2.2.2.2.1)
theorem A_zret {v : Int32} (hd : di cc pc .ireturn 1 n) (hv : v &&& 1 = v) (h : P (some (.int v)) M) : AT l g own cc nL (some .boolean) R P pc lv [.int v] M := fun p e s m args below meth c H locs ls C hP hS hl => by
  obtain ⟨hd, rfl⟩ := hd
  exact W.zret C.1 C.2.1 C.2.2.1 (by show Value.int (v &&& 1) = _; rw [hv]) (fun t ht hW => ⟨⟨_, M, rfl, h, by rw [ht]; exact hP⟩, hS.F ht⟩) hS.2.2 hd (hlocks := C.2.2.2.2.2.1)
theorem A_cret {v : Int32} {ty : FieldType} (hd : di cc pc .ireturn 1 n) (hv : narrow ty (.int v) = .int v) (h : P (some (.int v)) M) : AT l g own cc nL (some ty) R P pc lv [.int v] M := fun p e s m args below meth c H locs ls C hP hS hl => by
  obtain ⟨hd, rfl⟩ := hd
  exact W.zret C.1 C.2.1 C.2.2.1 hv (fun t ht hW => ⟨⟨_, M, rfl, h, by rw [ht]; exact hP⟩, hS.F ht⟩) hS.2.2 hd (hlocks := C.2.2.2.2.2.1)
theorem A_vret (hd : di cc pc .return_ 1 n) (h : P none M) : AT l g own cc nL (none) R P pc lv [] M := fun p e s m args below meth c H locs ls C hP hS hl => by
  obtain ⟨hd, rfl⟩ := hd
  exact W.vret C.1 C.2.1 C.2.2.1 (fun t ht hW => ⟨⟨_, M, rfl, h, by rw [ht]; exact hP⟩, hS.F ht⟩) hS.2.2 hd (hlocks := C.2.2.2.2.2.1)
theorem A_aret {x : Nat} {nm : String} (hd : di cc pc .areturn 1 n) (h : P (some (.ref x)) M) : AT l g own cc nL (some (.object nm)) R P pc lv [.ref x] M := fun p e s m args below meth c H locs ls C hP hS hl => by
  obtain ⟨hd, rfl⟩ := hd
  exact W.aret C.1 C.2.1 C.2.2.1 (Or.inl ⟨_, rfl⟩) (Or.inr ⟨_, rfl⟩) (fun t ht hW => ⟨⟨_, M, rfl, h, by rw [ht]; exact hP⟩, hS.F ht⟩) hS.2.2 hd (hlocks := C.2.2.2.2.2.1)
end ROWS
section STO
variable {l : Launch} {g : Cx} {own : String} {cc : ByteArray} {nL : Nat} {ret : Option FieldType} {R : Room} {P : Option Value → Mem → Prop} {pc n : Nat} {lv : List (Option Value)} {st : List Value} {M : Mem}
theorem A_istore0 {a0 : Option Value} {t : List (Option Value)} {x : Int32} (hd : di cc pc (.istore 0) 2 n) (hn : 0 < nL) (k : AT l g own cc nL ret R P n (some (.int x) :: t) st M) : AT l g own cc nL ret R P pc (a0 :: t) (.int x :: st) M := A_istore hd hn (fun x h0 _ => absurd rfl h0) k
theorem A_istoren0 {a0 : Option Value} {t : List (Option Value)} {x : Int32} (hd : di cc pc (.istore_n 0) 1 n) (hn : 0 < nL) (k : AT l g own cc nL ret R P n (some (.int x) :: t) st M) : AT l g own cc nL ret R P pc (a0 :: t) (.int x :: st) M := A_istore_n hd hn (fun x h0 _ => absurd rfl h0) k
theorem A_astoren0 {a0 : Option Value} {t : List (Option Value)} {x : Nat} (hd : di cc pc (.astore_n 0) 1 n) (hn : 0 < nL) (k : AT l g own cc nL ret R P n (some (.ref x) :: t) st M) : AT l g own cc nL ret R P pc (a0 :: t) (.ref x :: st) M := A_astore_n hd hn (fun x h0 _ => absurd rfl h0) k
theorem A_iinc0 {a0 : Option Value} {t : List (Option Value)} {z : Int} {x d : Int32} (hd : di cc pc (.iinc 0 z) 3 n) (hv : Int32.ofInt z = d) (hn : 0 < nL) (k : AT l g own cc nL ret R P n (some (.int (x + d)) :: t) st M) : AT l g own cc nL ret R P pc (some (.int x) :: t) st M := A_iinc hd rfl hv hn (fun x h0 _ => absurd rfl h0) k
theorem A_lstore0 {a0 b : Option Value} {t : List (Option Value)} {x : Int64} (hd : di cc pc (.lstore 0) 2 n) (hn : 0 + 1 < nL) (k : AT l g own cc nL ret R P n (some (.long x) :: none :: t) st M) : AT l g own cc nL ret R P pc (a0 :: b :: t) (.long x :: st) M := A_lstore hd hn (fun x h0 _ => absurd rfl h0) k
theorem A_lstoren0 {a0 b : Option Value} {t : List (Option Value)} {x : Int64} (hd : di cc pc (.lstore_n 0) 1 n) (hn : 0 + 1 < nL) (k : AT l g own cc nL ret R P n (some (.long x) :: none :: t) st M) : AT l g own cc nL ret R P pc (a0 :: b :: t) (.long x :: st) M := A_lstore_n hd hn (fun x h0 _ => absurd rfl h0) k
theorem A_istore1 {a0 a1 : Option Value} {t : List (Option Value)} {x : Int32} (hd : di cc pc (.istore 1) 2 n) (hn : 1 < nL) (hp : okp a0 = true) (k : AT l g own cc nL ret R P n (a0 :: some (.int x) :: t) st M) : AT l g own cc nL ret R P pc (a0 :: a1 :: t) (.int x :: st) M := A_istore hd hn (fun x _ h => (Option.some.inj h : a0 = x) ▸ hp) k
theorem A_istoren1 {a0 a1 : Option Value} {t : List (Option Value)} {x : Int32} (hd : di cc pc (.istore_n 1) 1 n) (hn : 1 < nL) (hp : okp a0 = true) (k : AT l g own cc nL ret R P n (a0 :: some (.int x) :: t) st M) : AT l g own cc nL ret R P pc (a0 :: a1 :: t) (.int x :: st) M := A_istore_n hd hn (fun x _ h => (Option.some.inj h : a0 = x) ▸ hp) k
theorem A_astoren1 {a0 a1 : Option Value} {t : List (Option Value)} {x : Nat} (hd : di cc pc (.astore_n 1) 1 n) (hn : 1 < nL) (hp : okp a0 = true) (k : AT l g own cc nL ret R P n (a0 :: some (.ref x) :: t) st M) : AT l g own cc nL ret R P pc (a0 :: a1 :: t) (.ref x :: st) M := A_astore_n hd hn (fun x _ h => (Option.some.inj h : a0 = x) ▸ hp) k
theorem A_iinc1 {a0 a1 : Option Value} {t : List (Option Value)} {z : Int} {x d : Int32} (hd : di cc pc (.iinc 1 z) 3 n) (hv : Int32.ofInt z = d) (hn : 1 < nL) (hp : okp a0 = true) (k : AT l g own cc nL ret R P n (a0 :: some (.int (x + d)) :: t) st M) : AT l g own cc nL ret R P pc (a0 :: some (.int x) :: t) st M := A_iinc hd rfl hv hn (fun x _ h => (Option.some.inj h : a0 = x) ▸ hp) k
theorem A_lstore1 {a0 a1 b : Option Value} {t : List (Option Value)} {x : Int64} (hd : di cc pc (.lstore 1) 2 n) (hn : 1 + 1 < nL) (hp : okp a0 = true) (k : AT l g own cc nL ret R P n (a0 :: some (.long x) :: none :: t) st M) : AT l g own cc nL ret R P pc (a0 :: a1 :: b :: t) (.long x :: st) M := A_lstore hd hn (fun x _ h => (Option.some.inj h : a0 = x) ▸ hp) k
theorem A_lstoren1 {a0 a1 b : Option Value} {t : List (Option Value)} {x : Int64} (hd : di cc pc (.lstore_n 1) 1 n) (hn : 1 + 1 < nL) (hp : okp a0 = true) (k : AT l g own cc nL ret R P n (a0 :: some (.long x) :: none :: t) st M) : AT l g own cc nL ret R P pc (a0 :: a1 :: b :: t) (.long x :: st) M := A_lstore_n hd hn (fun x _ h => (Option.some.inj h : a0 = x) ▸ hp) k
theorem A_istore2 {a0 a1 a2 : Option Value} {t : List (Option Value)} {x : Int32} (hd : di cc pc (.istore 2) 2 n) (hn : 2 < nL) (hp : okp a1 = true) (k : AT l g own cc nL ret R P n (a0 :: a1 :: some (.int x) :: t) st M) : AT l g own cc nL ret R P pc (a0 :: a1 :: a2 :: t) (.int x :: st) M := A_istore hd hn (fun x _ h => (Option.some.inj h : a1 = x) ▸ hp) k
theorem A_istoren2 {a0 a1 a2 : Option Value} {t : List (Option Value)} {x : Int32} (hd : di cc pc (.istore_n 2) 1 n) (hn : 2 < nL) (hp : okp a1 = true) (k : AT l g own cc nL ret R P n (a0 :: a1 :: some (.int x) :: t) st M) : AT l g own cc nL ret R P pc (a0 :: a1 :: a2 :: t) (.int x :: st) M := A_istore_n hd hn (fun x _ h => (Option.some.inj h : a1 = x) ▸ hp) k
theorem A_astoren2 {a0 a1 a2 : Option Value} {t : List (Option Value)} {x : Nat} (hd : di cc pc (.astore_n 2) 1 n) (hn : 2 < nL) (hp : okp a1 = true) (k : AT l g own cc nL ret R P n (a0 :: a1 :: some (.ref x) :: t) st M) : AT l g own cc nL ret R P pc (a0 :: a1 :: a2 :: t) (.ref x :: st) M := A_astore_n hd hn (fun x _ h => (Option.some.inj h : a1 = x) ▸ hp) k
theorem A_iinc2 {a0 a1 a2 : Option Value} {t : List (Option Value)} {z : Int} {x d : Int32} (hd : di cc pc (.iinc 2 z) 3 n) (hv : Int32.ofInt z = d) (hn : 2 < nL) (hp : okp a1 = true) (k : AT l g own cc nL ret R P n (a0 :: a1 :: some (.int (x + d)) :: t) st M) : AT l g own cc nL ret R P pc (a0 :: a1 :: some (.int x) :: t) st M := A_iinc hd rfl hv hn (fun x _ h => (Option.some.inj h : a1 = x) ▸ hp) k
theorem A_lstore2 {a0 a1 a2 b : Option Value} {t : List (Option Value)} {x : Int64} (hd : di cc pc (.lstore 2) 2 n) (hn : 2 + 1 < nL) (hp : okp a1 = true) (k : AT l g own cc nL ret R P n (a0 :: a1 :: some (.long x) :: none :: t) st M) : AT l g own cc nL ret R P pc (a0 :: a1 :: a2 :: b :: t) (.long x :: st) M := A_lstore hd hn (fun x _ h => (Option.some.inj h : a1 = x) ▸ hp) k
theorem A_lstoren2 {a0 a1 a2 b : Option Value} {t : List (Option Value)} {x : Int64} (hd : di cc pc (.lstore_n 2) 1 n) (hn : 2 + 1 < nL) (hp : okp a1 = true) (k : AT l g own cc nL ret R P n (a0 :: a1 :: some (.long x) :: none :: t) st M) : AT l g own cc nL ret R P pc (a0 :: a1 :: a2 :: b :: t) (.long x :: st) M := A_lstore_n hd hn (fun x _ h => (Option.some.inj h : a1 = x) ▸ hp) k
theorem A_istore3 {a0 a1 a2 a3 : Option Value} {t : List (Option Value)} {x : Int32} (hd : di cc pc (.istore 3) 2 n) (hn : 3 < nL) (hp : okp a2 = true) (k : AT l g own cc nL ret R P n (a0 :: a1 :: a2 :: some (.int x) :: t) st M) : AT l g own cc nL ret R P pc (a0 :: a1 :: a2 :: a3 :: t) (.int x :: st) M := A_istore hd hn (fun x _ h => (Option.some.inj h : a2 = x) ▸ hp) k
theorem A_istoren3 {a0 a1 a2 a3 : Option Value} {t : List (Option Value)} {x : Int32} (hd : di cc pc (.istore_n 3) 1 n) (hn : 3 < nL) (hp : okp a2 = true) (k : AT l g own cc nL ret R P n (a0 :: a1 :: a2 :: some (.int x) :: t) st M) : AT l g own cc nL ret R P pc (a0 :: a1 :: a2 :: a3 :: t) (.int x :: st) M := A_istore_n hd hn (fun x _ h => (Option.some.inj h : a2 = x) ▸ hp) k
theorem A_astoren3 {a0 a1 a2 a3 : Option Value} {t : List (Option Value)} {x : Nat} (hd : di cc pc (.astore_n 3) 1 n) (hn : 3 < nL) (hp : okp a2 = true) (k : AT l g own cc nL ret R P n (a0 :: a1 :: a2 :: some (.ref x) :: t) st M) : AT l g own cc nL ret R P pc (a0 :: a1 :: a2 :: a3 :: t) (.ref x :: st) M := A_astore_n hd hn (fun x _ h => (Option.some.inj h : a2 = x) ▸ hp) k
theorem A_iinc3 {a0 a1 a2 a3 : Option Value} {t : List (Option Value)} {z : Int} {x d : Int32} (hd : di cc pc (.iinc 3 z) 3 n) (hv : Int32.ofInt z = d) (hn : 3 < nL) (hp : okp a2 = true) (k : AT l g own cc nL ret R P n (a0 :: a1 :: a2 :: some (.int (x + d)) :: t) st M) : AT l g own cc nL ret R P pc (a0 :: a1 :: a2 :: some (.int x) :: t) st M := A_iinc hd rfl hv hn (fun x _ h => (Option.some.inj h : a2 = x) ▸ hp) k
theorem A_lstore3 {a0 a1 a2 a3 b : Option Value} {t : List (Option Value)} {x : Int64} (hd : di cc pc (.lstore 3) 2 n) (hn : 3 + 1 < nL) (hp : okp a2 = true) (k : AT l g own cc nL ret R P n (a0 :: a1 :: a2 :: some (.long x) :: none :: t) st M) : AT l g own cc nL ret R P pc (a0 :: a1 :: a2 :: a3 :: b :: t) (.long x :: st) M := A_lstore hd hn (fun x _ h => (Option.some.inj h : a2 = x) ▸ hp) k
theorem A_lstoren3 {a0 a1 a2 a3 b : Option Value} {t : List (Option Value)} {x : Int64} (hd : di cc pc (.lstore_n 3) 1 n) (hn : 3 + 1 < nL) (hp : okp a2 = true) (k : AT l g own cc nL ret R P n (a0 :: a1 :: a2 :: some (.long x) :: none :: t) st M) : AT l g own cc nL ret R P pc (a0 :: a1 :: a2 :: a3 :: b :: t) (.long x :: st) M := A_lstore_n hd hn (fun x _ h => (Option.some.inj h : a2 = x) ▸ hp) k
theorem A_istore4 {a0 a1 a2 a3 a4 : Option Value} {t : List (Option Value)} {x : Int32} (hd : di cc pc (.istore 4) 2 n) (hn : 4 < nL) (hp : okp a3 = true) (k : AT l g own cc nL ret R P n (a0 :: a1 :: a2 :: a3 :: some (.int x) :: t) st M) : AT l g own cc nL ret R P pc (a0 :: a1 :: a2 :: a3 :: a4 :: t) (.int x :: st) M := A_istore hd hn (fun x _ h => (Option.some.inj h : a3 = x) ▸ hp) k
theorem A_iinc4 {a0 a1 a2 a3 a4 : Option Value} {t : List (Option Value)} {z : Int} {x d : Int32} (hd : di cc pc (.iinc 4 z) 3 n) (hv : Int32.ofInt z = d) (hn : 4 < nL) (hp : okp a3 = true) (k : AT l g own cc nL ret R P n (a0 :: a1 :: a2 :: a3 :: some (.int (x + d)) :: t) st M) : AT l g own cc nL ret R P pc (a0 :: a1 :: a2 :: a3 :: some (.int x) :: t) st M := A_iinc hd rfl hv hn (fun x _ h => (Option.some.inj h : a3 = x) ▸ hp) k
theorem A_lstore4 {a0 a1 a2 a3 a4 b : Option Value} {t : List (Option Value)} {x : Int64} (hd : di cc pc (.lstore 4) 2 n) (hn : 4 + 1 < nL) (hp : okp a3 = true) (k : AT l g own cc nL ret R P n (a0 :: a1 :: a2 :: a3 :: some (.long x) :: none :: t) st M) : AT l g own cc nL ret R P pc (a0 :: a1 :: a2 :: a3 :: a4 :: b :: t) (.long x :: st) M := A_lstore hd hn (fun x _ h => (Option.some.inj h : a3 = x) ▸ hp) k
theorem A_istore5 {a0 a1 a2 a3 a4 a5 : Option Value} {t : List (Option Value)} {x : Int32} (hd : di cc pc (.istore 5) 2 n) (hn : 5 < nL) (hp : okp a4 = true) (k : AT l g own cc nL ret R P n (a0 :: a1 :: a2 :: a3 :: a4 :: some (.int x) :: t) st M) : AT l g own cc nL ret R P pc (a0 :: a1 :: a2 :: a3 :: a4 :: a5 :: t) (.int x :: st) M := A_istore hd hn (fun x _ h => (Option.some.inj h : a4 = x) ▸ hp) k
theorem A_iinc5 {a0 a1 a2 a3 a4 a5 : Option Value} {t : List (Option Value)} {z : Int} {x d : Int32} (hd : di cc pc (.iinc 5 z) 3 n) (hv : Int32.ofInt z = d) (hn : 5 < nL) (hp : okp a4 = true) (k : AT l g own cc nL ret R P n (a0 :: a1 :: a2 :: a3 :: a4 :: some (.int (x + d)) :: t) st M) : AT l g own cc nL ret R P pc (a0 :: a1 :: a2 :: a3 :: a4 :: some (.int x) :: t) st M := A_iinc hd rfl hv hn (fun x _ h => (Option.some.inj h : a4 = x) ▸ hp) k
theorem A_lstore5 {a0 a1 a2 a3 a4 a5 b : Option Value} {t : List (Option Value)} {x : Int64} (hd : di cc pc (.lstore 5) 2 n) (hn : 5 + 1 < nL) (hp : okp a4 = true) (k : AT l g own cc nL ret R P n (a0 :: a1 :: a2 :: a3 :: a4 :: some (.long x) :: none :: t) st M) : AT l g own cc nL ret R P pc (a0 :: a1 :: a2 :: a3 :: a4 :: a5 :: b :: t) (.long x :: st) M := A_lstore hd hn (fun x _ h => (Option.some.inj h : a4 = x) ▸ hp) k
theorem A_istore6 {a0 a1 a2 a3 a4 a5 a6 : Option Value} {t : List (Option Value)} {x : Int32} (hd : di cc pc (.istore 6) 2 n) (hn : 6 < nL) (hp : okp a5 = true) (k : AT l g own cc nL ret R P n (a0 :: a1 :: a2 :: a3 :: a4 :: a5 :: some (.int x) :: t) st M) : AT l g own cc nL ret R P pc (a0 :: a1 :: a2 :: a3 :: a4 :: a5 :: a6 :: t) (.int x :: st) M := A_istore hd hn (fun x _ h => (Option.some.inj h : a5 = x) ▸ hp) k
theorem A_iinc6 {a0 a1 a2 a3 a4 a5 a6 : Option Value} {t : List (Option Value)} {z : Int} {x d : Int32} (hd : di cc pc (.iinc 6 z) 3 n) (hv : Int32.ofInt z = d) (hn : 6 < nL) (hp : okp a5 = true) (k : AT l g own cc nL ret R P n (a0 :: a1 :: a2 :: a3 :: a4 :: a5 :: some (.int (x + d)) :: t) st M) : AT l g own cc nL ret R P pc (a0 :: a1 :: a2 :: a3 :: a4 :: a5 :: some (.int x) :: t) st M := A_iinc hd rfl hv hn (fun x _ h => (Option.some.inj h : a5 = x) ▸ hp) k
theorem A_lstore6 {a0 a1 a2 a3 a4 a5 a6 b : Option Value} {t : List (Option Value)} {x : Int64} (hd : di cc pc (.lstore 6) 2 n) (hn : 6 + 1 < nL) (hp : okp a5 = true) (k : AT l g own cc nL ret R P n (a0 :: a1 :: a2 :: a3 :: a4 :: a5 :: some (.long x) :: none :: t) st M) : AT l g own cc nL ret R P pc (a0 :: a1 :: a2 :: a3 :: a4 :: a5 :: a6 :: b :: t) (.long x :: st) M := A_lstore hd hn (fun x _ h => (Option.some.inj h : a5 = x) ▸ hp) k
theorem A_istore7 {a0 a1 a2 a3 a4 a5 a6 a7 : Option Value} {t : List (Option Value)} {x : Int32} (hd : di cc pc (.istore 7) 2 n) (hn : 7 < nL) (hp : okp a6 = true) (k : AT l g own cc nL ret R P n (a0 :: a1 :: a2 :: a3 :: a4 :: a5 :: a6 :: some (.int x) :: t) st M) : AT l g own cc nL ret R P pc (a0 :: a1 :: a2 :: a3 :: a4 :: a5 :: a6 :: a7 :: t) (.int x :: st) M := A_istore hd hn (fun x _ h => (Option.some.inj h : a6 = x) ▸ hp) k
theorem A_iinc7 {a0 a1 a2 a3 a4 a5 a6 a7 : Option Value} {t : List (Option Value)} {z : Int} {x d : Int32} (hd : di cc pc (.iinc 7 z) 3 n) (hv : Int32.ofInt z = d) (hn : 7 < nL) (hp : okp a6 = true) (k : AT l g own cc nL ret R P n (a0 :: a1 :: a2 :: a3 :: a4 :: a5 :: a6 :: some (.int (x + d)) :: t) st M) : AT l g own cc nL ret R P pc (a0 :: a1 :: a2 :: a3 :: a4 :: a5 :: a6 :: some (.int x) :: t) st M := A_iinc hd rfl hv hn (fun x _ h => (Option.some.inj h : a6 = x) ▸ hp) k
theorem A_lstore7 {a0 a1 a2 a3 a4 a5 a6 a7 b : Option Value} {t : List (Option Value)} {x : Int64} (hd : di cc pc (.lstore 7) 2 n) (hn : 7 + 1 < nL) (hp : okp a6 = true) (k : AT l g own cc nL ret R P n (a0 :: a1 :: a2 :: a3 :: a4 :: a5 :: a6 :: some (.long x) :: none :: t) st M) : AT l g own cc nL ret R P pc (a0 :: a1 :: a2 :: a3 :: a4 :: a5 :: a6 :: a7 :: b :: t) (.long x :: st) M := A_lstore hd hn (fun x _ h => (Option.some.inj h : a6 = x) ▸ hp) k
theorem A_istore8 {a0 a1 a2 a3 a4 a5 a6 a7 a8 : Option Value} {t : List (Option Value)} {x : Int32} (hd : di cc pc (.istore 8) 2 n) (hn : 8 < nL) (hp : okp a7 = true) (k : AT l g own cc nL ret R P n (a0 :: a1 :: a2 :: a3 :: a4 :: a5 :: a6 :: a7 :: some (.int x) :: t) st M) : AT l g own cc nL ret R P pc (a0 :: a1 :: a2 :: a3 :: a4 :: a5 :: a6 :: a7 :: a8 :: t) (.int x :: st) M := A_istore hd hn (fun x _ h => (Option.some.inj h : a7 = x) ▸ hp) k
theorem A_iinc8 {a0 a1 a2 a3 a4 a5 a6 a7 a8 : Option Value} {t : List (Option Value)} {z : Int} {x d : Int32} (hd : di cc pc (.iinc 8 z) 3 n) (hv : Int32.ofInt z = d) (hn : 8 < nL) (hp : okp a7 = true) (k : AT l g own cc nL ret R P n (a0 :: a1 :: a2 :: a3 :: a4 :: a5 :: a6 :: a7 :: some (.int (x + d)) :: t) st M) : AT l g own cc nL ret R P pc (a0 :: a1 :: a2 :: a3 :: a4 :: a5 :: a6 :: a7 :: some (.int x) :: t) st M := A_iinc hd rfl hv hn (fun x _ h => (Option.some.inj h : a7 = x) ▸ hp) k
theorem A_lstore8 {a0 a1 a2 a3 a4 a5 a6 a7 a8 b : Option Value} {t : List (Option Value)} {x : Int64} (hd : di cc pc (.lstore 8) 2 n) (hn : 8 + 1 < nL) (hp : okp a7 = true) (k : AT l g own cc nL ret R P n (a0 :: a1 :: a2 :: a3 :: a4 :: a5 :: a6 :: a7 :: some (.long x) :: none :: t) st M) : AT l g own cc nL ret R P pc (a0 :: a1 :: a2 :: a3 :: a4 :: a5 :: a6 :: a7 :: a8 :: b :: t) (.long x :: st) M := A_lstore hd hn (fun x _ h => (Option.some.inj h : a7 = x) ▸ hp) k
theorem A_istore9 {a0 a1 a2 a3 a4 a5 a6 a7 a8 a9 : Option Value} {t : List (Option Value)} {x : Int32} (hd : di cc pc (.istore 9) 2 n) (hn : 9 < nL) (hp : okp a8 = true) (k : AT l g own cc nL ret R P n (a0 :: a1 :: a2 :: a3 :: a4 :: a5 :: a6 :: a7 :: a8 :: some (.int x) :: t) st M) : AT l g own cc nL ret R P pc (a0 :: a1 :: a2 :: a3 :: a4 :: a5 :: a6 :: a7 :: a8 :: a9 :: t) (.int x :: st) M := A_istore hd hn (fun x _ h => (Option.some.inj h : a8 = x) ▸ hp) k
theorem A_iinc9 {a0 a1 a2 a3 a4 a5 a6 a7 a8 a9 : Option Value} {t : List (Option Value)} {z : Int} {x d : Int32} (hd : di cc pc (.iinc 9 z) 3 n) (hv : Int32.ofInt z = d) (hn : 9 < nL) (hp : okp a8 = true) (k : AT l g own cc nL ret R P n (a0 :: a1 :: a2 :: a3 :: a4 :: a5 :: a6 :: a7 :: a8 :: some (.int (x + d)) :: t) st M) : AT l g own cc nL ret R P pc (a0 :: a1 :: a2 :: a3 :: a4 :: a5 :: a6 :: a7 :: a8 :: some (.int x) :: t) st M := A_iinc hd rfl hv hn (fun x _ h => (Option.some.inj h : a8 = x) ▸ hp) k
theorem A_lstore9 {a0 a1 a2 a3 a4 a5 a6 a7 a8 a9 b : Option Value} {t : List (Option Value)} {x : Int64} (hd : di cc pc (.lstore 9) 2 n) (hn : 9 + 1 < nL) (hp : okp a8 = true) (k : AT l g own cc nL ret R P n (a0 :: a1 :: a2 :: a3 :: a4 :: a5 :: a6 :: a7 :: a8 :: some (.long x) :: none :: t) st M) : AT l g own cc nL ret R P pc (a0 :: a1 :: a2 :: a3 :: a4 :: a5 :: a6 :: a7 :: a8 :: a9 :: b :: t) (.long x :: st) M := A_lstore hd hn (fun x _ h => (Option.some.inj h : a8 = x) ▸ hp) k
theorem A_istore10 {a0 a1 a2 a3 a4 a5 a6 a7 a8 a9 a10 : Option Value} {t : List (Option Value)} {x : Int32} (hd : di cc pc (.istore 10) 2 n) (hn : 10 < nL) (hp : okp a9 = true) (k : AT l g own cc nL ret R P n (a0 :: a1 :: a2 :: a3 :: a4 :: a5 :: a6 :: a7 :: a8 :: a9 :: some (.int x) :: t) st M) : AT l g own cc nL ret R P pc (a0 :: a1 :: a2 :: a3 :: a4 :: a5 :: a6 :: a7 :: a8 :: a9 :: a10 :: t) (.int x :: st) M := A_istore hd hn (fun x _ h => (Option.some.inj h : a9 = x) ▸ hp) k
theorem A_iinc10 {a0 a1 a2 a3 a4 a5 a6 a7 a8 a9 a10 : Option Value} {t : List (Option Value)} {z : Int} {x d : Int32} (hd : di cc pc (.iinc 10 z) 3 n) (hv : Int32.ofInt z = d) (hn : 10 < nL) (hp : okp a9 = true) (k : AT l g own cc nL ret R P n (a0 :: a1 :: a2 :: a3 :: a4 :: a5 :: a6 :: a7 :: a8 :: a9 :: some (.int (x + d)) :: t) st M) : AT l g own cc nL ret R P pc (a0 :: a1 :: a2 :: a3 :: a4 :: a5 :: a6 :: a7 :: a8 :: a9 :: some (.int x) :: t) st M := A_iinc hd rfl hv hn (fun x _ h => (Option.some.inj h : a9 = x) ▸ hp) k
theorem A_lstore10 {a0 a1 a2 a3 a4 a5 a6 a7 a8 a9 a10 b : Option Value} {t : List (Option Value)} {x : Int64} (hd : di cc pc (.lstore 10) 2 n) (hn : 10 + 1 < nL) (hp : okp a9 = true) (k : AT l g own cc nL ret R P n (a0 :: a1 :: a2 :: a3 :: a4 :: a5 :: a6 :: a7 :: a8 :: a9 :: some (.long x) :: none :: t) st M) : AT l g own cc nL ret R P pc (a0 :: a1 :: a2 :: a3 :: a4 :: a5 :: a6 :: a7 :: a8 :: a9 :: a10 :: b :: t) (.long x :: st) M := A_lstore hd hn (fun x _ h => (Option.some.inj h : a9 = x) ▸ hp) k
theorem A_istore11 {a0 a1 a2 a3 a4 a5 a6 a7 a8 a9 a10 a11 : Option Value} {t : List (Option Value)} {x : Int32} (hd : di cc pc (.istore 11) 2 n) (hn : 11 < nL) (hp : okp a10 = true) (k : AT l g own cc nL ret R P n (a0 :: a1 :: a2 :: a3 :: a4 :: a5 :: a6 :: a7 :: a8 :: a9 :: a10 :: some (.int x) :: t) st M) : AT l g own cc nL ret R P pc (a0 :: a1 :: a2 :: a3 :: a4 :: a5 :: a6 :: a7 :: a8 :: a9 :: a10 :: a11 :: t) (.int x :: st) M := A_istore hd hn (fun x _ h => (Option.some.inj h : a10 = x) ▸ hp) k
theorem A_iinc11 {a0 a1 a2 a3 a4 a5 a6 a7 a8 a9 a10 a11 : Option Value} {t : List (Option Value)} {z : Int} {x d : Int32} (hd : di cc pc (.iinc 11 z) 3 n) (hv : Int32.ofInt z = d) (hn : 11 < nL) (hp : okp a10 = true) (k : AT l g own cc nL ret R P n (a0 :: a1 :: a2 :: a3 :: a4 :: a5 :: a6 :: a7 :: a8 :: a9 :: a10 :: some (.int (x + d)) :: t) st M) : AT l g own cc nL ret R P pc (a0 :: a1 :: a2 :: a3 :: a4 :: a5 :: a6 :: a7 :: a8 :: a9 :: a10 :: some (.int x) :: t) st M := A_iinc hd rfl hv hn (fun x _ h => (Option.some.inj h : a10 = x) ▸ hp) k
theorem A_lstore11 {a0 a1 a2 a3 a4 a5 a6 a7 a8 a9 a10 a11 b : Option Value} {t : List (Option Value)} {x : Int64} (hd : di cc pc (.lstore 11) 2 n) (hn : 11 + 1 < nL) (hp : okp a10 = true) (k : AT l g own cc nL ret R P n (a0 :: a1 :: a2 :: a3 :: a4 :: a5 :: a6 :: a7 :: a8 :: a9 :: a10 :: some (.long x) :: none :: t) st M) : AT l g own cc nL ret R P pc (a0 :: a1 :: a2 :: a3 :: a4 :: a5 :: a6 :: a7 :: a8 :: a9 :: a10 :: a11 :: b :: t) (.long x :: st) M := A_lstore hd hn (fun x _ h => (Option.some.inj h : a10 = x) ▸ hp) k
theorem A_istore12 {a0 a1 a2 a3 a4 a5 a6 a7 a8 a9 a10 a11 a12 : Option Value} {t : List (Option Value)} {x : Int32} (hd : di cc pc (.istore 12) 2 n) (hn : 12 < nL) (hp : okp a11 = true) (k : AT l g own cc nL ret R P n (a0 :: a1 :: a2 :: a3 :: a4 :: a5 :: a6 :: a7 :: a8 :: a9 :: a10 :: a11 :: some (.int x) :: t) st M) : AT l g own cc nL ret R P pc (a0 :: a1 :: a2 :: a3 :: a4 :: a5 :: a6 :: a7 :: a8 :: a9 :: a10 :: a11 :: a12 :: t) (.int x :: st) M := A_istore hd hn (fun x _ h => (Option.some.inj h : a11 = x) ▸ hp) k
theorem A_iinc12 {a0 a1 a2 a3 a4 a5 a6 a7 a8 a9 a10 a11 a12 : Option Value} {t : List (Option Value)} {z : Int} {x d : Int32} (hd : di cc pc (.iinc 12 z) 3 n) (hv : Int32.ofInt z = d) (hn : 12 < nL) (hp : okp a11 = true) (k : AT l g own cc nL ret R P n (a0 :: a1 :: a2 :: a3 :: a4 :: a5 :: a6 :: a7 :: a8 :: a9 :: a10 :: a11 :: some (.int (x + d)) :: t) st M) : AT l g own cc nL ret R P pc (a0 :: a1 :: a2 :: a3 :: a4 :: a5 :: a6 :: a7 :: a8 :: a9 :: a10 :: a11 :: some (.int x) :: t) st M := A_iinc hd rfl hv hn (fun x _ h => (Option.some.inj h : a11 = x) ▸ hp) k
theorem A_lstore12 {a0 a1 a2 a3 a4 a5 a6 a7 a8 a9 a10 a11 a12 b : Option Value} {t : List (Option Value)} {x : Int64} (hd : di cc pc (.lstore 12) 2 n) (hn : 12 + 1 < nL) (hp : okp a11 = true) (k : AT l g own cc nL ret R P n (a0 :: a1 :: a2 :: a3 :: a4 :: a5 :: a6 :: a7 :: a8 :: a9 :: a10 :: a11 :: some (.long x) :: none :: t) st M) : AT l g own cc nL ret R P pc (a0 :: a1 :: a2 :: a3 :: a4 :: a5 :: a6 :: a7 :: a8 :: a9 :: a10 :: a11 :: a12 :: b :: t) (.long x :: st) M := A_lstore hd hn (fun x _ h => (Option.some.inj h : a11 = x) ▸ hp) k
theorem A_istore13 {a0 a1 a2 a3 a4 a5 a6 a7 a8 a9 a10 a11 a12 a13 : Option Value} {t : List (Option Value)} {x : Int32} (hd : di cc pc (.istore 13) 2 n) (hn : 13 < nL) (hp : okp a12 = true) (k : AT l g own cc nL ret R P n (a0 :: a1 :: a2 :: a3 :: a4 :: a5 :: a6 :: a7 :: a8 :: a9 :: a10 :: a11 :: a12 :: some (.int x) :: t) st M) : AT l g own cc nL ret R P pc (a0 :: a1 :: a2 :: a3 :: a4 :: a5 :: a6 :: a7 :: a8 :: a9 :: a10 :: a11 :: a12 :: a13 :: t) (.int x :: st) M := A_istore hd hn (fun x _ h => (Option.some.inj h : a12 = x) ▸ hp) k
theorem A_iinc13 {a0 a1 a2 a3 a4 a5 a6 a7 a8 a9 a10 a11 a12 a13 : Option Value} {t : List (Option Value)} {z : Int} {x d : Int32} (hd : di cc pc (.iinc 13 z) 3 n) (hv : Int32.ofInt z = d) (hn : 13 < nL) (hp : okp a12 = true) (k : AT l g own cc nL ret R P n (a0 :: a1 :: a2 :: a3 :: a4 :: a5 :: a6 :: a7 :: a8 :: a9 :: a10 :: a11 :: a12 :: some (.int (x + d)) :: t) st M) : AT l g own cc nL ret R P pc (a0 :: a1 :: a2 :: a3 :: a4 :: a5 :: a6 :: a7 :: a8 :: a9 :: a10 :: a11 :: a12 :: some (.int x) :: t) st M := A_iinc hd rfl hv hn (fun x _ h => (Option.some.inj h : a12 = x) ▸ hp) k
theorem A_lstore13 {a0 a1 a2 a3 a4 a5 a6 a7 a8 a9 a10 a11 a12 a13 b : Option Value} {t : List (Option Value)} {x : Int64} (hd : di cc pc (.lstore 13) 2 n) (hn : 13 + 1 < nL) (hp : okp a12 = true) (k : AT l g own cc nL ret R P n (a0 :: a1 :: a2 :: a3 :: a4 :: a5 :: a6 :: a7 :: a8 :: a9 :: a10 :: a11 :: a12 :: some (.long x) :: none :: t) st M) : AT l g own cc nL ret R P pc (a0 :: a1 :: a2 :: a3 :: a4 :: a5 :: a6 :: a7 :: a8 :: a9 :: a10 :: a11 :: a12 :: a13 :: b :: t) (.long x :: st) M := A_lstore hd hn (fun x _ h => (Option.some.inj h : a12 = x) ▸ hp) k
theorem A_istore14 {a0 a1 a2 a3 a4 a5 a6 a7 a8 a9 a10 a11 a12 a13 a14 : Option Value} {t : List (Option Value)} {x : Int32} (hd : di cc pc (.istore 14) 2 n) (hn : 14 < nL) (hp : okp a13 = true) (k : AT l g own cc nL ret R P n (a0 :: a1 :: a2 :: a3 :: a4 :: a5 :: a6 :: a7 :: a8 :: a9 :: a10 :: a11 :: a12 :: a13 :: some (.int x) :: t) st M) : AT l g own cc nL ret R P pc (a0 :: a1 :: a2 :: a3 :: a4 :: a5 :: a6 :: a7 :: a8 :: a9 :: a10 :: a11 :: a12 :: a13 :: a14 :: t) (.int x :: st) M := A_istore hd hn (fun x _ h => (Option.some.inj h : a13 = x) ▸ hp) k
theorem A_iinc14 {a0 a1 a2 a3 a4 a5 a6 a7 a8 a9 a10 a11 a12 a13 a14 : Option Value} {t : List (Option Value)} {z : Int} {x d : Int32} (hd : di cc pc (.iinc 14 z) 3 n) (hv : Int32.ofInt z = d) (hn : 14 < nL) (hp : okp a13 = true) (k : AT l g own cc nL ret R P n (a0 :: a1 :: a2 :: a3 :: a4 :: a5 :: a6 :: a7 :: a8 :: a9 :: a10 :: a11 :: a12 :: a13 :: some (.int (x + d)) :: t) st M) : AT l g own cc nL ret R P pc (a0 :: a1 :: a2 :: a3 :: a4 :: a5 :: a6 :: a7 :: a8 :: a9 :: a10 :: a11 :: a12 :: a13 :: some (.int x) :: t) st M := A_iinc hd rfl hv hn (fun x _ h => (Option.some.inj h : a13 = x) ▸ hp) k
theorem A_lstore14 {a0 a1 a2 a3 a4 a5 a6 a7 a8 a9 a10 a11 a12 a13 a14 b : Option Value} {t : List (Option Value)} {x : Int64} (hd : di cc pc (.lstore 14) 2 n) (hn : 14 + 1 < nL) (hp : okp a13 = true) (k : AT l g own cc nL ret R P n (a0 :: a1 :: a2 :: a3 :: a4 :: a5 :: a6 :: a7 :: a8 :: a9 :: a10 :: a11 :: a12 :: a13 :: some (.long x) :: none :: t) st M) : AT l g own cc nL ret R P pc (a0 :: a1 :: a2 :: a3 :: a4 :: a5 :: a6 :: a7 :: a8 :: a9 :: a10 :: a11 :: a12 :: a13 :: a14 :: b :: t) (.long x :: st) M := A_lstore hd hn (fun x _ h => (Option.some.inj h : a13 = x) ▸ hp) k
theorem A_istore15 {a0 a1 a2 a3 a4 a5 a6 a7 a8 a9 a10 a11 a12 a13 a14 a15 : Option Value} {t : List (Option Value)} {x : Int32} (hd : di cc pc (.istore 15) 2 n) (hn : 15 < nL) (hp : okp a14 = true) (k : AT l g own cc nL ret R P n (a0 :: a1 :: a2 :: a3 :: a4 :: a5 :: a6 :: a7 :: a8 :: a9 :: a10 :: a11 :: a12 :: a13 :: a14 :: some (.int x) :: t) st M) : AT l g own cc nL ret R P pc (a0 :: a1 :: a2 :: a3 :: a4 :: a5 :: a6 :: a7 :: a8 :: a9 :: a10 :: a11 :: a12 :: a13 :: a14 :: a15 :: t) (.int x :: st) M := A_istore hd hn (fun x _ h => (Option.some.inj h : a14 = x) ▸ hp) k
theorem A_iinc15 {a0 a1 a2 a3 a4 a5 a6 a7 a8 a9 a10 a11 a12 a13 a14 a15 : Option Value} {t : List (Option Value)} {z : Int} {x d : Int32} (hd : di cc pc (.iinc 15 z) 3 n) (hv : Int32.ofInt z = d) (hn : 15 < nL) (hp : okp a14 = true) (k : AT l g own cc nL ret R P n (a0 :: a1 :: a2 :: a3 :: a4 :: a5 :: a6 :: a7 :: a8 :: a9 :: a10 :: a11 :: a12 :: a13 :: a14 :: some (.int (x + d)) :: t) st M) : AT l g own cc nL ret R P pc (a0 :: a1 :: a2 :: a3 :: a4 :: a5 :: a6 :: a7 :: a8 :: a9 :: a10 :: a11 :: a12 :: a13 :: a14 :: some (.int x) :: t) st M := A_iinc hd rfl hv hn (fun x _ h => (Option.some.inj h : a14 = x) ▸ hp) k
theorem A_lstore15 {a0 a1 a2 a3 a4 a5 a6 a7 a8 a9 a10 a11 a12 a13 a14 a15 b : Option Value} {t : List (Option Value)} {x : Int64} (hd : di cc pc (.lstore 15) 2 n) (hn : 15 + 1 < nL) (hp : okp a14 = true) (k : AT l g own cc nL ret R P n (a0 :: a1 :: a2 :: a3 :: a4 :: a5 :: a6 :: a7 :: a8 :: a9 :: a10 :: a11 :: a12 :: a13 :: a14 :: some (.long x) :: none :: t) st M) : AT l g own cc nL ret R P pc (a0 :: a1 :: a2 :: a3 :: a4 :: a5 :: a6 :: a7 :: a8 :: a9 :: a10 :: a11 :: a12 :: a13 :: a14 :: a15 :: b :: t) (.long x :: st) M := A_lstore hd hn (fun x _ h => (Option.some.inj h : a14 = x) ▸ hp) k
end STO
end
section
/-! CALLS: a callee's contract at the caller's frame -/
theorem A_core {p : Program} {l : Launch} {e : Env} {R : Room} {s : State} {m : MethodId} {args : Array Value} {below : List Frame} {meth : Method} {c : Code} {H : Heap} {locs : List Loc} {Q : State → Prop} {g : Cx} {P' : Option Value → Mem → Prop} {pc : Nat} {ls : Array Slot} {rest st0 : List Value} {a : Array Value}
    (hr : va_Run p l e R s m args below meth c H locs 0 0 0 0 (F0 m pc ls st0) rest (QC g P' a) (inW g)) (hS : va_S (inW g) s.heap H locs)
    (kk : ∀ (v : Option Value) (M' : Mem) (H1 : Heap) (locs1 : List Loc), P' v M' → va_P g.2.1 cls (wl g M') H1 → va_S (inW g) s.heap H1 locs1 → W p l e R s m args below meth c H1 locs1 0 0 Q (F0 m (pc + 3) ls (v.toList ++ rest))) : W p l e R s m args below meth c H locs 0 0 Q (F0 m pc ls st0) := by
  intro T hT X
  obtain ⟨v, st₀, t, T', L, h0, X', hL, e1, e2, ⟨⟨r, M', hv, hp, hb⟩, hz, hk⟩, st⟩ := hr T hT X
  cases hv
  rw [h0] at hz hk
  obtain ⟨t2, a1, b1⟩ := kk v M' T'.heap (locs ++ L) hp (by rw [e1]; exact hb)
    ⟨Nat.le_trans hS.1 (by rw [e1]; exact hz), fun q h1 h2 => by rw [e1, hk q (Nat.lt_of_lt_of_le h1 hS.1) h2]; exact hS.2.1 q h1 h2, fun q hq => by
      rcases List.mem_append.mp hq with h | h
      · exact hS.2.2 q h
      · exact hL q h⟩ T' rfl X'
  exact ⟨t2, st t2 a1, b1⟩
theorem A_blind {g : Cx} {M : Mem} {as : List Value} : FrameBlind (va_Pc as (fun U => va_P g.2.1 cls (wl g M) U.heap ∧ va_K g.2.1 cls (tysG g) U ∧ DJ g ∧ ST g (inW g) U U.heap)) := fun a U gf mk q => by
  obtain ⟨q0, q1, q2, q3, q4⟩ := q
  exact ⟨q0, q1, va_K.moved (u := U) (U := U.calling gf mk a) (Vm.Alike.refl U.vm) q2, q3, ST.same (u := U) rfl q4⟩
theorem A_pre {g : Cx} {M : Mem} {as : List Value} {s : State} {H : Heap} {locs : List Loc} (hK : va_K g.2.1 cls (tysG g) s) (hJ : DJ g) (hT : ST g (inW g) s s.heap) (hP : va_P g.2.1 cls (wl g M) H) (hS : va_S (inW g) s.heap H locs) : ∀ U : State, U.heap = H → s.WarmedH U.vm → va_Pc as (fun U => va_P g.2.1 cls (wl g M) U.heap ∧ va_K g.2.1 cls (tysG g) U ∧ DJ g ∧ ST g (inW g) U U.heap) as.toArray U := fun U hU hW =>
  ⟨rfl, by rw [hU]; exact hP, va_K.moved hW.alike hK, hJ, by rw [hU]; exact hT.go hW hS.2.1⟩
def MB (y : MethodName) (cy : ByteArray) (ny : Nat) (ry : Option FieldType) (n : Nat) : Prop := Cond.initialized y.cls ∈ gd ∧ Cond.code y cy ny ry ∈ gd ∧ (y.cls ≠ "java/lang/invoke/MethodHandle" ∧ y.cls ≠ "java/lang/invoke/VarHandle" ∧ (parseMethodDescriptor y.desc).map (fun d => d.parameters.length) = some n)
def MI (y : MethodName) : Prop := Cond.instanceMethod y ∈ gd ∧ Cond.selects y.cls y y ∈ gd
section CALLS
variable {l : Launch} {g : Cx} {own : String} {cc : ByteArray} {nL : Nat} {ret : Option FieldType} {R : Room} {P : Option Value → Mem → Prop} {pc n : Nat} {lv : List (Option Value)} {st : List Value} {M : Mem}
variable {y : MethodName} {cy : ByteArray} {ny : Nat} {ry : Option FieldType} {fr lo : Nat} {as rest : List Value} {P' : Option Value → Mem → Prop}
theorem A_callV {idx : Nat} {b : Nat} (hd : di cc pc (.invokevirtual idx) 3 n) (hl0 : Cond.methodLink own idx y ∈ gd) (hb0 : MB y cy ny ry as.length) (hi : MI y)
    (hrc : ∀ (s : State) (H : Heap), va_K g.2.1 cls (tysG g) s → va_P g.2.1 cls (wl g M) H → ∃ cellB : Cell, H[b]? = some cellB ∧ cellB.vm.isStatics = false ∧ s.vm.findClass y.cls = some cellB.cls)
    (hR : fr + 1 ≤ R.frames ∧ 8 + (ny + 11) + lo ≤ R.locals) (hst : (rest.map fun v => v.category).sum ≤ 8) (hC : CT l g y cy ny ry fr lo (.ref b :: as) M P')
    (k : ∀ (v : Option Value) (M' : Mem), P' v M' → AT l g own cc nL ret R P n lv (v.toList ++ rest) M') : AT l g own cc nL ret R P pc lv (as.reverse ++ .ref b :: rest) M := fun p e s m args below meth c H locs ls C hP hS hl => by
  obtain ⟨hd, rfl⟩ := hd
  have hts := C.2.2.2.2.2.2.1
  have hG : GoodIn gd (wsV own idx y.cls y (Cond.code y cy ny ry :: gd)) := by
    intro w hw
    unfold wsV at hw
    simp only [List.mem_append, List.mem_cons, List.not_mem_nil, or_false] at hw
    rcases hw with (rfl | rfl | rfl | rfl) | (rfl | hw)
    · exact gd_good hl0
    · exact gd_good hi.1
    · exact gd_good hi.2
    · exact gd_good hb0.1
    · exact gd_good hb0.2.1
    · exact gd_good hw
  refine A_core (va_runV (As := as) (rest := rest) (Ts := gd) (C := y.cls) ⟨C.1, C.2.1, C.2.2.2.1, C.2.2.2.2.1, hts⟩ hC (cwV as.length hts hG rfl rfl rfl ⟨rfl, hb0.2.2⟩ hR) ⟨A_blind, hrc s H C.2.2.2.2.2.2.2.1 hP, A_pre (as := .ref b :: as) C.2.2.2.2.2.2.2.1 C.2.2.2.2.2.2.2.2.1 C.2.2.2.2.2.2.2.2.2 hP hS⟩ rfl rfl hl.1 rfl (lv_room hst) hd ⟨Nat.zero_le _, Nat.zero_le _⟩) hS (fun v M' H1 locs1 h1 h2 h3 => ?_)
  exact k v M' h1 p e s m args below meth c H1 locs1 ls C h2 h3 hl
theorem A_rc {q ci : Nat} {fs : Cx → Mem → List Value} {r : vw_C} (hq : OB q ci fs) (hc : cls[ci]? = some r) : ∀ (s : State) (H : Heap), va_K g.2.1 cls (tysG g) s → va_P g.2.1 cls (wl g M) H → ∃ cellB : Cell, H[g.1 q]? = some cellB ∧ cellB.vm.isStatics = false ∧ s.vm.findClass r.1 = some cellB.cls := fun s H hK hP => va_recv hK hP hc (hq g M)
theorem A_callS {idx : Nat} (hd : di cc pc (.invokestatic idx) 3 n) (hl0 : Cond.methodLink own idx y ∈ gd) (hb0 : MB y cy ny ry as.length) (hi : Cond.static y ∈ gd)
    (hR : fr + 1 ≤ R.frames ∧ 8 + (ny + 11) + lo ≤ R.locals) (hst : (rest.map fun v => v.category).sum ≤ 8) (hC : CT l g y cy ny ry fr lo as M P')
    (k : ∀ (v : Option Value) (M' : Mem), P' v M' → AT l g own cc nL ret R P n lv (v.toList ++ rest) M') : AT l g own cc nL ret R P pc lv (as.reverse ++ rest) M := fun p e s m args below meth c H locs ls C hP hS hl => by
  obtain ⟨hd, rfl⟩ := hd
  have hts := C.2.2.2.2.2.2.1
  have hG : GoodIn gd (va_wsS own idx y (Cond.code y cy ny ry :: gd)) := by
    intro w hw
    unfold va_wsS at hw
    simp only [List.mem_append, List.mem_cons, List.not_mem_nil, or_false] at hw
    rcases hw with (rfl | rfl | rfl) | (rfl | hw)
    · exact gd_good hl0
    · exact gd_good hi
    · exact gd_good hb0.1
    · exact gd_good hb0.2.1
    · exact gd_good hw
  refine A_core (va_runS (As := as) (rest := rest) (Ts := gd) ⟨C.1, C.2.1, C.2.2.2.1, C.2.2.2.2.1, hts⟩ hC (va_cwS as.length hts hG rfl rfl rfl hb0.2.2 hR) ⟨A_blind, A_pre C.2.2.2.2.2.2.2.1 C.2.2.2.2.2.2.2.2.1 C.2.2.2.2.2.2.2.2.2 hP hS⟩ rfl rfl hl.1 rfl (lv_room hst) hd ⟨Nat.zero_le _, Nat.zero_le _⟩) hS (fun v M' H1 locs1 h1 h2 h3 => ?_)
  exact k v M' h1 p e s m args below meth c H1 locs1 ls C h2 h3 hl
theorem A_callN {idx : Nat} {host : String} (hd : di cc pc (.invokestatic idx) 3 n) (hl0 : Cond.methodLinkNest own idx y host ∈ nestW) (hb0 : MB y cy ny ry as.length) (hi : Cond.static y ∈ gd)
    (hR : fr + 1 ≤ R.frames ∧ 8 + (ny + 11) + lo ≤ R.locals) (hst : (rest.map fun v => v.category).sum ≤ 8) (hC : CT l g y cy ny ry fr lo as M P')
    (k : ∀ (v : Option Value) (M' : Mem), P' v M' → AT l g own cc nL ret R P n lv (v.toList ++ rest) M') : AT l g own cc nL ret R P pc lv (as.reverse ++ rest) M := fun p e s m args below meth c H locs ls C hP hS hl => by
  obtain ⟨hd, rfl⟩ := hd
  have hts := C.2.2.2.2.2.2.1
  have hT := C.2.2.2.2.2.2.2.2.2
  have hG : GoodIn gd (Cond.code y cy ny ry :: gd) := by
    intro w hw
    rcases List.mem_cons.mp hw with rfl | hw
    · exact gd_good hb0.2.1
    · exact gd_good hw
  refine A_core (va_runSN (As := as) (rest := rest) (Ts := gd) ⟨C.1, C.2.1, C.2.2.2.1, C.2.2.2.2.1, hts⟩ hC ⟨va_cnB as.length hts hG rfl rfl rfl (hT.2.2.2.2.2.2 _ hl0) (hts _ hb0.1) hb0.2.2 hR, hts _ hi, trivial⟩ ⟨A_blind, A_pre C.2.2.2.2.2.2.2.1 C.2.2.2.2.2.2.2.2.1 C.2.2.2.2.2.2.2.2.2 hP hS⟩ rfl rfl hl.1 rfl (lv_room hst) hd ⟨Nat.zero_le _, Nat.zero_le _⟩) hS (fun v M' H1 locs1 h1 h2 h3 => ?_)
  exact k v M' h1 p e s m args below meth c H1 locs1 ls C h2 h3 hl
theorem A_callV0 {idx q ci : Nat} {fs : Cx → Mem → List Value} {r : vw_C} (hd : di cc pc (.invokevirtual idx) 3 n) (hl0 : Cond.methodLink own idx y ∈ gd) (hb0 : MB y cy ny ry 0) (hi : MI y) (hq : OB q ci fs) (hc : cls[ci]? = some r) (hr : r.1 = y.cls) (hR : fr + 1 ≤ R.frames ∧ 8 + (ny + 11) + lo ≤ R.locals) (hst : (rest.map fun v => v.category).sum ≤ 8) (hC : CT l g y cy ny ry fr lo (.ref (g.1 q) :: []) M P') (k : ∀ (v : Option Value) (M' : Mem), P' v M' → AT l g own cc nL ret R P n lv (v.toList ++ rest) M') : AT l g own cc nL ret R P pc lv (.ref (g.1 q) :: rest) M := A_callV (as := []) hd hl0 hb0 hi (hr ▸ A_rc hq hc) hR hst hC k
theorem A_callS0 {idx : Nat} (hd : di cc pc (.invokestatic idx) 3 n) (hl0 : Cond.methodLink own idx y ∈ gd) (hb0 : MB y cy ny ry 0) (hi : Cond.static y ∈ gd) (hR : fr + 1 ≤ R.frames ∧ 8 + (ny + 11) + lo ≤ R.locals) (hst : (rest.map fun v => v.category).sum ≤ 8) (hC : CT l g y cy ny ry fr lo [] M P') (k : ∀ (v : Option Value) (M' : Mem), P' v M' → AT l g own cc nL ret R P n lv (v.toList ++ rest) M') : AT l g own cc nL ret R P pc lv (rest) M := A_callS (as := []) hd hl0 hb0 hi hR hst hC k
theorem A_callN0 {idx : Nat} {host : String} (hd : di cc pc (.invokestatic idx) 3 n) (hl0 : Cond.methodLinkNest own idx y host ∈ nestW) (hb0 : MB y cy ny ry 0) (hi : Cond.static y ∈ gd) (hR : fr + 1 ≤ R.frames ∧ 8 + (ny + 11) + lo ≤ R.locals) (hst : (rest.map fun v => v.category).sum ≤ 8) (hC : CT l g y cy ny ry fr lo [] M P') (k : ∀ (v : Option Value) (M' : Mem), P' v M' → AT l g own cc nL ret R P n lv (v.toList ++ rest) M') : AT l g own cc nL ret R P pc lv (rest) M := A_callN (as := []) hd hl0 hb0 hi hR hst hC k
theorem A_callV1 {idx q ci : Nat} {fs : Cx → Mem → List Value} {r : vw_C} {x1 : Value} (hd : di cc pc (.invokevirtual idx) 3 n) (hl0 : Cond.methodLink own idx y ∈ gd) (hb0 : MB y cy ny ry 1) (hi : MI y) (hq : OB q ci fs) (hc : cls[ci]? = some r) (hr : r.1 = y.cls) (hR : fr + 1 ≤ R.frames ∧ 8 + (ny + 11) + lo ≤ R.locals) (hst : (rest.map fun v => v.category).sum ≤ 8) (hC : CT l g y cy ny ry fr lo (.ref (g.1 q) :: [x1]) M P') (k : ∀ (v : Option Value) (M' : Mem), P' v M' → AT l g own cc nL ret R P n lv (v.toList ++ rest) M') : AT l g own cc nL ret R P pc lv (x1 :: .ref (g.1 q) :: rest) M := A_callV (as := [x1]) hd hl0 hb0 hi (hr ▸ A_rc hq hc) hR hst hC k
theorem A_callS1 {idx : Nat} {x1 : Value} (hd : di cc pc (.invokestatic idx) 3 n) (hl0 : Cond.methodLink own idx y ∈ gd) (hb0 : MB y cy ny ry 1) (hi : Cond.static y ∈ gd) (hR : fr + 1 ≤ R.frames ∧ 8 + (ny + 11) + lo ≤ R.locals) (hst : (rest.map fun v => v.category).sum ≤ 8) (hC : CT l g y cy ny ry fr lo [x1] M P') (k : ∀ (v : Option Value) (M' : Mem), P' v M' → AT l g own cc nL ret R P n lv (v.toList ++ rest) M') : AT l g own cc nL ret R P pc lv (x1 :: rest) M := A_callS (as := [x1]) hd hl0 hb0 hi hR hst hC k
theorem A_callN1 {idx : Nat} {host : String} {x1 : Value} (hd : di cc pc (.invokestatic idx) 3 n) (hl0 : Cond.methodLinkNest own idx y host ∈ nestW) (hb0 : MB y cy ny ry 1) (hi : Cond.static y ∈ gd) (hR : fr + 1 ≤ R.frames ∧ 8 + (ny + 11) + lo ≤ R.locals) (hst : (rest.map fun v => v.category).sum ≤ 8) (hC : CT l g y cy ny ry fr lo [x1] M P') (k : ∀ (v : Option Value) (M' : Mem), P' v M' → AT l g own cc nL ret R P n lv (v.toList ++ rest) M') : AT l g own cc nL ret R P pc lv (x1 :: rest) M := A_callN (as := [x1]) hd hl0 hb0 hi hR hst hC k
theorem A_callV2 {idx q ci : Nat} {fs : Cx → Mem → List Value} {r : vw_C} {x1 x2 : Value} (hd : di cc pc (.invokevirtual idx) 3 n) (hl0 : Cond.methodLink own idx y ∈ gd) (hb0 : MB y cy ny ry 2) (hi : MI y) (hq : OB q ci fs) (hc : cls[ci]? = some r) (hr : r.1 = y.cls) (hR : fr + 1 ≤ R.frames ∧ 8 + (ny + 11) + lo ≤ R.locals) (hst : (rest.map fun v => v.category).sum ≤ 8) (hC : CT l g y cy ny ry fr lo (.ref (g.1 q) :: [x1, x2]) M P') (k : ∀ (v : Option Value) (M' : Mem), P' v M' → AT l g own cc nL ret R P n lv (v.toList ++ rest) M') : AT l g own cc nL ret R P pc lv (x2 :: x1 :: .ref (g.1 q) :: rest) M := A_callV (as := [x1, x2]) hd hl0 hb0 hi (hr ▸ A_rc hq hc) hR hst hC k
theorem A_callS2 {idx : Nat} {x1 x2 : Value} (hd : di cc pc (.invokestatic idx) 3 n) (hl0 : Cond.methodLink own idx y ∈ gd) (hb0 : MB y cy ny ry 2) (hi : Cond.static y ∈ gd) (hR : fr + 1 ≤ R.frames ∧ 8 + (ny + 11) + lo ≤ R.locals) (hst : (rest.map fun v => v.category).sum ≤ 8) (hC : CT l g y cy ny ry fr lo [x1, x2] M P') (k : ∀ (v : Option Value) (M' : Mem), P' v M' → AT l g own cc nL ret R P n lv (v.toList ++ rest) M') : AT l g own cc nL ret R P pc lv (x2 :: x1 :: rest) M := A_callS (as := [x1, x2]) hd hl0 hb0 hi hR hst hC k
theorem A_callN2 {idx : Nat} {host : String} {x1 x2 : Value} (hd : di cc pc (.invokestatic idx) 3 n) (hl0 : Cond.methodLinkNest own idx y host ∈ nestW) (hb0 : MB y cy ny ry 2) (hi : Cond.static y ∈ gd) (hR : fr + 1 ≤ R.frames ∧ 8 + (ny + 11) + lo ≤ R.locals) (hst : (rest.map fun v => v.category).sum ≤ 8) (hC : CT l g y cy ny ry fr lo [x1, x2] M P') (k : ∀ (v : Option Value) (M' : Mem), P' v M' → AT l g own cc nL ret R P n lv (v.toList ++ rest) M') : AT l g own cc nL ret R P pc lv (x2 :: x1 :: rest) M := A_callN (as := [x1, x2]) hd hl0 hb0 hi hR hst hC k
theorem A_callV3 {idx q ci : Nat} {fs : Cx → Mem → List Value} {r : vw_C} {x1 x2 x3 : Value} (hd : di cc pc (.invokevirtual idx) 3 n) (hl0 : Cond.methodLink own idx y ∈ gd) (hb0 : MB y cy ny ry 3) (hi : MI y) (hq : OB q ci fs) (hc : cls[ci]? = some r) (hr : r.1 = y.cls) (hR : fr + 1 ≤ R.frames ∧ 8 + (ny + 11) + lo ≤ R.locals) (hst : (rest.map fun v => v.category).sum ≤ 8) (hC : CT l g y cy ny ry fr lo (.ref (g.1 q) :: [x1, x2, x3]) M P') (k : ∀ (v : Option Value) (M' : Mem), P' v M' → AT l g own cc nL ret R P n lv (v.toList ++ rest) M') : AT l g own cc nL ret R P pc lv (x3 :: x2 :: x1 :: .ref (g.1 q) :: rest) M := A_callV (as := [x1, x2, x3]) hd hl0 hb0 hi (hr ▸ A_rc hq hc) hR hst hC k
theorem A_callS3 {idx : Nat} {x1 x2 x3 : Value} (hd : di cc pc (.invokestatic idx) 3 n) (hl0 : Cond.methodLink own idx y ∈ gd) (hb0 : MB y cy ny ry 3) (hi : Cond.static y ∈ gd) (hR : fr + 1 ≤ R.frames ∧ 8 + (ny + 11) + lo ≤ R.locals) (hst : (rest.map fun v => v.category).sum ≤ 8) (hC : CT l g y cy ny ry fr lo [x1, x2, x3] M P') (k : ∀ (v : Option Value) (M' : Mem), P' v M' → AT l g own cc nL ret R P n lv (v.toList ++ rest) M') : AT l g own cc nL ret R P pc lv (x3 :: x2 :: x1 :: rest) M := A_callS (as := [x1, x2, x3]) hd hl0 hb0 hi hR hst hC k
theorem A_callN3 {idx : Nat} {host : String} {x1 x2 x3 : Value} (hd : di cc pc (.invokestatic idx) 3 n) (hl0 : Cond.methodLinkNest own idx y host ∈ nestW) (hb0 : MB y cy ny ry 3) (hi : Cond.static y ∈ gd) (hR : fr + 1 ≤ R.frames ∧ 8 + (ny + 11) + lo ≤ R.locals) (hst : (rest.map fun v => v.category).sum ≤ 8) (hC : CT l g y cy ny ry fr lo [x1, x2, x3] M P') (k : ∀ (v : Option Value) (M' : Mem), P' v M' → AT l g own cc nL ret R P n lv (v.toList ++ rest) M') : AT l g own cc nL ret R P pc lv (x3 :: x2 :: x1 :: rest) M := A_callN (as := [x1, x2, x3]) hd hl0 hb0 hi hR hst hC k
theorem A_callV4 {idx q ci : Nat} {fs : Cx → Mem → List Value} {r : vw_C} {x1 x2 x3 x4 : Value} (hd : di cc pc (.invokevirtual idx) 3 n) (hl0 : Cond.methodLink own idx y ∈ gd) (hb0 : MB y cy ny ry 4) (hi : MI y) (hq : OB q ci fs) (hc : cls[ci]? = some r) (hr : r.1 = y.cls) (hR : fr + 1 ≤ R.frames ∧ 8 + (ny + 11) + lo ≤ R.locals) (hst : (rest.map fun v => v.category).sum ≤ 8) (hC : CT l g y cy ny ry fr lo (.ref (g.1 q) :: [x1, x2, x3, x4]) M P') (k : ∀ (v : Option Value) (M' : Mem), P' v M' → AT l g own cc nL ret R P n lv (v.toList ++ rest) M') : AT l g own cc nL ret R P pc lv (x4 :: x3 :: x2 :: x1 :: .ref (g.1 q) :: rest) M := A_callV (as := [x1, x2, x3, x4]) hd hl0 hb0 hi (hr ▸ A_rc hq hc) hR hst hC k
theorem A_callS4 {idx : Nat} {x1 x2 x3 x4 : Value} (hd : di cc pc (.invokestatic idx) 3 n) (hl0 : Cond.methodLink own idx y ∈ gd) (hb0 : MB y cy ny ry 4) (hi : Cond.static y ∈ gd) (hR : fr + 1 ≤ R.frames ∧ 8 + (ny + 11) + lo ≤ R.locals) (hst : (rest.map fun v => v.category).sum ≤ 8) (hC : CT l g y cy ny ry fr lo [x1, x2, x3, x4] M P') (k : ∀ (v : Option Value) (M' : Mem), P' v M' → AT l g own cc nL ret R P n lv (v.toList ++ rest) M') : AT l g own cc nL ret R P pc lv (x4 :: x3 :: x2 :: x1 :: rest) M := A_callS (as := [x1, x2, x3, x4]) hd hl0 hb0 hi hR hst hC k
theorem A_callN4 {idx : Nat} {host : String} {x1 x2 x3 x4 : Value} (hd : di cc pc (.invokestatic idx) 3 n) (hl0 : Cond.methodLinkNest own idx y host ∈ nestW) (hb0 : MB y cy ny ry 4) (hi : Cond.static y ∈ gd) (hR : fr + 1 ≤ R.frames ∧ 8 + (ny + 11) + lo ≤ R.locals) (hst : (rest.map fun v => v.category).sum ≤ 8) (hC : CT l g y cy ny ry fr lo [x1, x2, x3, x4] M P') (k : ∀ (v : Option Value) (M' : Mem), P' v M' → AT l g own cc nL ret R P n lv (v.toList ++ rest) M') : AT l g own cc nL ret R P pc lv (x4 :: x3 :: x2 :: x1 :: rest) M := A_callN (as := [x1, x2, x3, x4]) hd hl0 hb0 hi hR hst hC k
end CALLS
end
